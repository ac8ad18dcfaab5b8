/-! the evolutions of a settling scan, one behind another -/
abbrev pf_A : Type := pf_C × Nat × Nat × Nat × Int32 × Int32 × Int32 × Int32 × (Nat → Int32) × Int32 × Int32
/-- the evolution with number i from the state x: edges in the first alone -/
def pf_qv (a : pf_A) (i : Nat) (x : Int32 × Int32 × Int32) : Int32 × Int32 :=
  pf_ev a.1 a.2.1 a.2.2.1 a.2.2.2.1 a.2.2.2.2.1 a.2.2.2.2.2.1 (if i = 0 then a.2.2.2.2.2.2.1 else 0) (if i = 0 then a.2.2.2.2.2.2.2.1 else 0) x.1 x.2.1 a.2.2.2.2.2.2.2.2.1
/-- situation, steps with a time, cleared, behind i evolutions -/
def pf_q (a : pf_A) : Nat → Int32 × Int32 × Int32
  | 0 => (a.2.2.2.2.2.2.2.2.2.1, a.2.2.2.2.2.2.2.2.2.2, 0)
  | i + 1 => ((pf_qv a i (pf_q a i)).1, (pf_q a i).2.1 &&& (pf_qv a i (pf_q a i)).1, (pf_q a i).2.2 ||| (pf_qv a i (pf_q a i)).2)
def pf_qs (a : pf_A) (i : Nat) : Int32 := pf_st (pf_q a i).1 (pf_q a i).2.1
def pf_idle (a : pf_A) (i : Nat) : Prop := (pf_qv a i (pf_q a i)).2 = 0 ∧ (pf_qv a i (pf_q a i)).1 = (pf_q a i).1
/-- no idle evolution below i, no state twice up to i -/
def pf_on_way (a : pf_A) (i : Nat) : Prop := (∀ k, k < i → ¬ pf_idle a k) ∧ ∀ m, 1 ≤ m → m ≤ i → ∀ b, 1 ≤ b → b < m → pf_qs a b ≠ pf_qs a m
def pf_aX (S : fx_S) (nE nT nO : Nat) : pf_A := (chX S, nE, nT, nO, S 0 8, S 6 2, S 6 3, S 6 4, S 26, S 6 5, S 6 6)
/-- the trial behind i evolutions -/
def pf_TR (a : pf_A) (S U : fx_S) (i : Nat) : Prop := U 6 5 = (pf_q a i).1 ∧ U 6 6 = (pf_q a i).2.1 ∧ U 6 7 = (pf_q a i).2.2 ∧ U 6 8 = nI i ∧ U 6 3 = (if i = 0 then S 6 3 else 0) ∧ U 6 4 = (if i = 0 then S 6 4 else 0) ∧ U 6 2 = S 6 2 ∧ U 6 9 = 0 ∧ U 6 10 = 0 ∧ (∀ j, 1 ≤ j → j ≤ i → U 27 j = pf_qs a j) ∧ ∀ b, b ≠ 6 → b ≠ 27 → U b = S b
theorem chX_eq {S U : fx_S} (h : ∀ b, b ≠ 6 → b ≠ 27 → U b = S b) : chX U = chX S := by
  funext r
  unfold chX
  split <;> exact h _ (by decide) (by decide)
section SETTLE
variable {κ : fx_K} {S : fx_S}
theorem ct_Fc_comesToAnEnd (hq : fx_I κ lyX.length) {nE nT nO : Nat} (hnE : S 2 4 = nI nE) (hbE : nE ≤ 24) (h4 : ∀ k, k < nE → S 10 k = 4 → ∃ a, a < 8 ∧ S 11 k = nI a) (hnT : S 3 4 = nI nT) (hbT : nT ≤ 12) (hnO : S 4 3 = nI nO) (hbO : nO ≤ 4) (z7 : S 6 7 = 0) (z8 : S 6 8 = 0) (z9 : S 6 9 = 0) (z10 : S 6 10 = 0) : MC_Fc_comesToAnEnd κ [.inr 0] S (fun r S' => (S 0 8 = 0 ∧ r = 1 ∧ ((pf_idle (pf_aX S nE nT nO) 0 ∧ pf_TR (pf_aX S nE nT nO) S S' 0) ∨ (¬ pf_idle (pf_aX S nE nT nO) 0 ∧ S' = pf_mv S (pf_evX S nE nT nO)))) ∨ (¬ S 0 8 = 0 ∧ ((∃ i, i ≤ 511 ∧ pf_on_way (pf_aX S nE nT nO) i ∧ pf_idle (pf_aX S nE nT nO) i ∧ r = 1 ∧ pf_TR (pf_aX S nE nT nO) S S' i) ∨ (∃ i d, i ≤ 511 ∧ pf_on_way (pf_aX S nE nT nO) i ∧ ¬ pf_idle (pf_aX S nE nT nO) i ∧ 1 ≤ d ∧ d ≤ i ∧ pf_qs (pf_aX S nE nT nO) d = pf_qs (pf_aX S nE nT nO) (i + 1) ∧ r = 0 ∧ S' 6 9 = nI d ∧ S' 6 10 = nI (i + 1 - d) ∧ ∀ b, b ≠ 6 → b ≠ 27 → S' b = S b) ∨ (pf_on_way (pf_aX S nE nT nO) 512 ∧ r = 0)))) := by
  refine mo_Fc_comesToAnEnd hq (Nat.le_of_ble_eq_true rfl) ?_
  intro J hT ht
  generalize ha : pf_aX S nE nT nO = a at hT ⊢
  have ev : ∀ (U : fx_S) (i : Nat), pf_TR a S U i → pf_evX U nE nT nO = pf_qv a i (pf_q a i) := by
    intro U i hU
    obtain ⟨u5, u6, u7, u8, u3, u4, u2, u9, u10, u27, ub⟩ := hU
    unfold pf_evX pf_qv
    rw [chX_eq ub, u5, u6, u3, u4, u2, ub 26 (by decide) (by decide), ub 0 (by decide) (by decide), ← ha]
    rfl
  have evc : ∀ (U : fx_S) (i : Nat), pf_TR a S U i → MC_Fc_evolve κ [.inr 0] U (fun r S' => (pf_idle a i ∧ r = 0 ∧ S' = U) ∨ (¬ pf_idle a i ∧ r = 1 ∧ S' = pf_mv U (pf_qv a i (pf_q a i)))) := by
    intro U i hU
    have e := ev U i hU
    obtain ⟨u5, u6, u7, u8, u3, u4, u2, u9, u10, u27, ub⟩ := hU
    have r2 : U 2 = S 2 := ub 2 (by decide) (by decide)
    have r3 : U 3 = S 3 := ub 3 (by decide) (by decide)
    have r4 : U 4 = S 4 := ub 4 (by decide) (by decide)
    have r10 : U 10 = S 10 := ub 10 (by decide) (by decide)
    have r11 : U 11 = S 11 := ub 11 (by decide) (by decide)
    have h := ct_Fc_evolve hq (S := U) (nE := nE) (nT := nT) (nO := nO) (by rw [r2]; exact hnE) hbE (by rw [r10, r11]; exact h4) (by rw [r3]; exact hnT) hbT (by rw [r4]; exact hnO) hbO
    rw [e, u5] at h
    have hf : (fun (r : Int32) (S' : fx_S) => ((pf_qv a i (pf_q a i)).2 = 0 ∧ (pf_qv a i (pf_q a i)).1 = (pf_q a i).1 ∧ r = 0 ∧ S' = U) ∨ (¬ ((pf_qv a i (pf_q a i)).2 = 0 ∧ (pf_qv a i (pf_q a i)).1 = (pf_q a i).1) ∧ r = 1 ∧ S' = pf_mv U (pf_qv a i (pf_q a i)))) = (fun r S' => (pf_idle a i ∧ r = 0 ∧ S' = U) ∨ (¬ pf_idle a i ∧ r = 1 ∧ S' = pf_mv U (pf_qv a i (pf_q a i)))) := by
      funext r S'
      unfold pf_idle
      rw [and_assoc]
    rw [hf] at h
    exact h
  have T0 : pf_TR a S S 0 := by
    rw [← ha]
    exact ⟨rfl, rfl, z7, z8, rfl, rfl, rfl, z9, z10, fun j h1 h2 => absurd h2 (by omega), fun _ _ _ => rfl⟩
  have loop : ∀ (j i : Nat) (x : Int32) (U : fx_S), i + j = 512 → x = nI i → ¬ S 0 8 = 0 → pf_TR a S U i → pf_on_way a i → J 16 [.inr 0, .inl x] [] U := by
    intro j
    induction j with
    | zero =>
      intro i x U hi hx hs hU hw
      have hi : i = 512 := by omega
      subst hi; subst hx
      refine fx_go_ok [] 99 hT ht ?_
      refine And.intro (fun _ => ?_) (fun h => absurd (by decide) h)
      exact And.intro (Or.inl rfl) (Or.inr ⟨hs, Or.inr (Or.inr ⟨hw, rfl⟩)⟩)
    | succ j ih =>
      intro i x U hi hx hs hU hw
      subst hx
      refine fx_go_ok [(16, 2)] 99 hT ht ?_
      refine And.intro (fun h => absurd (show nI 511 < nI i from h) (nI_nlt (by omega) (by omega))) (fun _ => ?_)
      refine fx_ex _ (evc U i hU) ?_
      intro r V hV
      rcases hV with ⟨v1, v2, v3⟩ | ⟨v1, v2, v3⟩
      · subst v2; subst v3
        refine And.intro (fun h => absurd rfl h) (fun _ => ?_)
        exact And.intro (Or.inr rfl) (Or.inr ⟨hs, Or.inl ⟨i, by omega, hw, v1, rfl, hU⟩⟩)
      · subst v2; subst v3
        refine And.intro (fun _ => ?_) (fun h => absurd h (by decide))
        obtain ⟨u5, u6, u7, u8, u3, u4, u2, u9, u10, u27, ub⟩ := hU
        refine fx_ex _ (ct_Ti_endEdges hq) ?_
        intro r2 V2 hV2
        have w5 : V2 6 5 = (pf_q a (i + 1)).1 := by rw [hV2]; rfl
        have w6 : V2 6 6 = (pf_q a (i + 1)).2.1 := by rw [hV2]; show U 6 6 &&& _ = _; rw [u6]; rfl
        have w7 : V2 6 7 = (pf_q a (i + 1)).2.2 := by rw [hV2]; show U 6 7 ||| _ = _; rw [u7]; rfl
        have w8 : V2 6 8 = nI (i + 1) := by rw [hV2]; show U 6 8 + 1 = _; rw [u8]; exact nI_1 i
        have w3 : V2 6 3 = 0 := by rw [hV2]; rfl
        have w4 : V2 6 4 = 0 := by rw [hV2]; rfl
        have w2 : V2 6 2 = S 6 2 := by rw [hV2]; exact u2
        have w9 : V2 6 9 = 0 := by rw [hV2]; exact u9
        have w10 : V2 6 10 = 0 := by rw [hV2]; exact u10
        have wb : ∀ b, b ≠ 6 → V2 b = U b := by
          intro b hb
          rw [hV2, fx_up_ne _ _ _ hb, fx_up_ne _ _ _ hb]
          unfold pf_mv
          rw [fx_up_ne _ _ _ hb, fx_up_ne _ _ _ hb, fx_up_ne _ _ _ hb, fx_up_ne _ _ _ hb]
        have w27 : V2 27 = U 27 := wb 27 (by decide)
        refine fx_ex _ (ct_Ti_findsCycle hq (S := V2) (m := i + 1) w8 (by omega) (by omega)) ?_
        intro r3 V3 hV3
        rw [w27, w5, w6] at hV3
        rcases hV3 with ⟨d, d1, d2, d3, d4, d5, d6⟩ | ⟨d1, d2, d3⟩
        · subst d5
          refine And.intro (fun h => absurd h (by decide)) (fun _ => ?_)
          refine And.intro (Or.inl rfl) (Or.inr ⟨hs, Or.inr (Or.inl ⟨i, d, by omega, hw, v1, d1, by omega, ?_, rfl, ?_, ?_, ?_⟩)⟩)
          · rw [← u27 d d1 (by omega)]; exact d3
          · rw [d6]; rfl
          · rw [d6]; rfl
          · intro b h6 h27
            rw [d6, fx_up_ne _ _ _ h6, fx_up_ne _ _ _ h6, wb b h6]
            exact ub b h6 h27
        · subst d2
          refine And.intro (fun _ => ?_) (fun h => absurd rfl h)
          refine ih (i + 1) _ _ (by omega) (nI_1 i) hs ?_ ?_
          · rw [d3]
            refine ⟨w5, w6, w7, w8, ?_, ?_, w2, w9, w10, ?_, ?_⟩
            · rw [if_neg (by omega)]; exact w3
            · rw [if_neg (by omega)]; exact w4
            · intro b b1 b2
              by_cases hbi : b = i + 1
              · subst hbi; rw [fx_up_at]; rfl
              · rw [fx_up_ne2 _ _ _ hbi, w27]; exact u27 b b1 (by omega)
            · intro b h6 h27
              rw [fx_up_ne _ _ _ h27, wb b h6]
              exact ub b h6 h27
          · refine ⟨fun k hk => ?_, fun m m1 m2 b b1 b2 => ?_⟩
            · by_cases hki : k = i
              · subst hki; exact v1
              · exact hw.1 k (by omega)
            · by_cases hmi : m = i + 1
              · subst hmi
                rw [← u27 b b1 (by omega)]
                exact d1 b b1 b2
              · exact hw.2 m m1 (by omega) b b1 b2
  refine fx_go_ok [(16, 2)] 99 hT ht ?_
  refine And.intro (fun hs => ?_) (fun hs => ?_)
  · exact loop 512 0 _ _ rfl rfl hs T0 ⟨fun k hk => absurd hk (by omega), fun m m1 m2 => absurd m2 (by omega)⟩
  · refine fx_ex _ (evc S 0 T0) ?_
    intro r V hV
    have e0 := ev S 0 T0
    refine And.intro (Or.inr rfl) (Or.inl ⟨hs, rfl, ?_⟩)
    rcases hV with ⟨v1, v2, v3⟩ | ⟨v1, v2, v3⟩
    · subst v3; exact Or.inl ⟨v1, T0⟩
    · refine Or.inr ⟨v1, ?_⟩
      rw [v3, e0]
end SETTLE
