/-! an evolution of the class -/
def chX (S : fx_S) : pf_C := fun r => match r with
  | 1 => S 10
  | 2 => S 11
  | 3 => S 12
  | 4 => S 14
  | 5 => S 15
  | 6 => S 16
  | 7 => S 18
  | 8 => S 19
  | 9 => S 20
  | 10 => S 9
  | _ => S 17
theorem pf_rul_in (pt gv : Nat → Int32) (p si : Int32) : ∀ (j k : Nat), pf_rul pt gv p si j k = -1 ∨ ∃ i, k ≤ i ∧ i < k + j ∧ pf_rul pt gv p si j k = nI i
  | 0, k => Or.inl rfl
  | j + 1, k => by
    unfold pf_rul
    by_cases h : pt k = p ∧ px_in si (gv k)
    · rw [if_pos h]; exact Or.inr ⟨k, by omega, by omega, rfl⟩
    · rw [if_neg h]
      rcases pf_rul_in pt gv p si j (k + 1) with h1 | ⟨i, h1, h2, h3⟩
      · exact Or.inl h1
      · exact Or.inr ⟨i, by omega, by omega, h3⟩
theorem nI_nm1 {k : Nat} (hk : k < 2 ^ 31) : ¬ nI k = -1 := fun hc => absurd (hc ▸ nI_pos' (n := k) hk : (0 : Int32) ≤ -1) (by decide)
/-- the evolution from a state of the trial -/
def pf_evX (S : fx_S) (nE nT nO : Nat) : Int32 × Int32 := pf_ev (chX S) nE nT nO (S 0 8) (S 6 2) (S 6 3) (S 6 4) (S 6 5) (S 6 6) (S 26)
def pf_mv (S : fx_S) (e : Int32 × Int32) : fx_S := fx_up (fx_up (fx_up (fx_up S 6 5 e.1) 6 6 (S 6 6 &&& e.1)) 6 7 (S 6 7 ||| e.2)) 6 8 (S 6 8 + 1)
section EVOLVE
variable {κ : fx_K} {S : fx_S}
theorem ct_Fc_evolve (hq : fx_I κ lyX.length) {nE nT nO : Nat} (hnE : S 2 4 = nI nE) (hbE : nE ≤ 24) (h4 : ∀ k, k < nE → S 10 k = 4 → ∃ a, a < 8 ∧ S 11 k = nI a) (hnT : S 3 4 = nI nT) (hbT : nT ≤ 12) (hnO : S 4 3 = nI nO) (hbO : nO ≤ 4) : MC_Fc_evolve κ [.inr 0] S (fun r S' => ((pf_evX S nE nT nO).2 = 0 ∧ (pf_evX S nE nT nO).1 = S 6 5 ∧ r = 0 ∧ S' = S) ∨ (¬ ((pf_evX S nE nT nO).2 = 0 ∧ (pf_evX S nE nT nO).1 = S 6 5) ∧ r = 1 ∧ S' = pf_mv S (pf_evX S nE nT nO))) := by
  refine mo_Fc_evolve hq (Nat.le_of_ble_eq_true rfl) ?_
  intro J hT ht
  have fin : ∀ (du x y i : Int32), i = nI 3 → (y, x) = pf_evX S nE nT nO → J 33 [.inr 0, .inl du, .inl x, .inl y, .inl i] [] S := by
    intro du x y i hi hxy
    subst hi
    refine fx_go_ok [] 150 hT ht ?_
    refine And.intro (fun _ => ?_) (fun h => absurd (by decide) h)
    refine fx_ex _ (ct_Ti_moveTo hq y x) ?_
    intro r V hV
    have e1 : (pf_evX S nE nT nO).1 = y := by rw [← hxy]
    have e2 : (pf_evX S nE nT nO).2 = x := by rw [← hxy]
    rcases hV with ⟨v1, v2, v3, v4⟩ | ⟨v1, v2, v3⟩
    · exact And.intro (Or.inl v3) (Or.inl ⟨e2.trans v1, e1.trans v2, v3, v4⟩)
    · refine And.intro (Or.inr v2) (Or.inr ⟨fun hc => v1 ⟨e2.symm.trans hc.1, e1.symm.trans hc.2⟩, v2, ?_⟩)
      rw [v3, pf_mv, e1, e2]
  have step : ∀ (p : Nat) (du x y i : Int32), p < 3 → i = nI p → (∀ (x' y' i' : Int32), i' = nI (p + 1) → (y', x') = pf_one (chX S) nT nO (S 0 8) (S 6 5) du p (y, x) → J 33 [.inr 0, .inl du, .inl x', .inl y', .inl i'] [] S) → J 33 [.inr 0, .inl du, .inl x, .inl y, .inl i] [] S := by
    intro p du x y i hp hi next
    subst hi
    have e : (nI p).toNatClampNeg = p := nI_clamp (by omega)
    have hv : vp_in (nI p) 3 := vp_in_nI (by omega) (by omega)
    refine fx_go_ok [(33, 5)] 150 hT ht ?_
    refine And.intro (fun h => absurd (show nI 3 ≤ nI p from h) (nI_ge (by omega) (by omega))) (fun _ => ?_)
    refine And.intro hv ?_
    rw [e]
    refine fx_ex1 (ct_Or_rulingOver hq hnO hbO _ _) ?_
    refine And.intro (fun h => ?_) (fun h => ?_)
    · refine And.intro hv ?_
      rw [e]
      refine And.intro (fun hs => ?_) (fun hs => ?_)
      · refine fx_ex1 (ct_Tr_withoutRivals hq hnT hbT _) ?_
        refine fx_ex1 (ct_Tr_preceding hq hnT hbT _) ?_
        refine fx_ex1 (ct_Tr_succeeding hq hnT hbT _) ?_
        refine next _ _ _ (nI_1 p) ?_
        have hs : S 0 8 = 0 := hs
        have h : pf_rul (chX S 8) (chX S 7) (nI p) y nO 0 = -1 := h
        unfold pf_one
        rw [if_pos h, if_pos hs]
        rfl
      · refine fx_ex1 (ct_Tr_preceding hq hnT hbT _) ?_
        refine fx_ex1 (ct_Tr_succeeding hq hnT hbT _) ?_
        refine next _ _ _ (nI_1 p) ?_
        have hs : ¬ S 0 8 = 0 := hs
        have h : pf_rul (chX S 8) (chX S 7) (nI p) y nO 0 = -1 := h
        unfold pf_one
        rw [if_pos h, if_neg hs]
        rfl
    · rcases pf_rul_in (S 19) (S 18) (nI p) y nO 0 with h1 | ⟨k, h1, h2, h3⟩
      · exact absurd h1 h
      · rw [h3]
        refine fx_ex1 (ct_Or_forcedSteps hq (by omega) _) ?_
        refine next _ _ _ (nI_1 p) ?_
        have h3 : pf_rul (chX S 8) (chX S 7) (nI p) y nO 0 = nI k := h3
        unfold pf_one
        rw [h3, if_neg (nI_nm1 (by omega)), nI_clamp (by omega)]
        rfl
  refine fx_go_ok [(33, 5)] 150 hT ht ?_
  refine fx_ex1 (ct_Ex_trueIn hq hnE hbE h4) ?_
  refine fx_ex1 (ct_Tr_dueIn hq hnT hbT _ _) ?_
  refine step 0 _ _ _ _ (by omega) rfl ?_
  intro x1 y1 i1 hi1 h1
  refine step 1 _ _ _ _ (by omega) hi1 ?_
  intro x2 y2 i2 hi2 h2
  refine step 2 _ _ _ _ (by omega) hi2 ?_
  intro x3 y3 i3 hi3 h3
  refine fin _ _ _ _ hi3 ?_
  rw [h3, h2, h1]
  rfl
end EVOLVE
