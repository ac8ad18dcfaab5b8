/-! the reference: evolve, take, code -/
def chM (S : fx_S) (nS nT : Nat) : pf_C := fun r => match r with
  | 1 => S 3
  | 2 => S 4
  | 3 => S 5
  | 4 => S 8
  | 5 => S 9
  | 6 => S 10
  | 7 => S 11
  | 8 => S 12
  | 9 => S 13
  | 10 => fun p => pf_part (S 1) (nI p) nS
  | _ => fun p => pf_en (S 8) (pf_part (S 1) (nI p) nS) nT
/-- a mask's code of base 3 -/
def pm_cd (si ti : Int32) : Nat → Nat
  | 0 => 0
  | k + 1 => 3 * pm_cd si ti k + (if bt si k = true then (if bt ti k = true then 2 else 1) else 0)
theorem pm_cd_lt (si ti : Int32) : ∀ k, pm_cd si ti k < 3 ^ k
  | 0 => by simp [pm_cd]
  | k + 1 => by
    have ih := pm_cd_lt si ti k
    have h2 : (if bt si k = true then (if bt ti k = true then 2 else 1) else 0 : Nat) ≤ 2 := by
      by_cases h : bt si k = true
      · rw [if_pos h]
        by_cases h3 : bt ti k = true
        · rw [if_pos h3]; omega
        · rw [if_neg h3]; omega
      · rw [if_neg h]; omega
    rw [pm_cd, Nat.pow_succ]
    omega
section MDF
variable {κ : fx_K} {S : fx_S}
theorem ct_Md_evolve (hq : fx_I κ lyM.length) {nS nE nT nO : Nat} (hnS : S 0 0 = nI nS) (hbS : nS ≤ 8) (hnE : S 0 3 = nI nE) (hbE : nE ≤ 24) (hwf : wfE (S 3) (S 4) (S 5) nE) (hnT : S 0 9 = nI nT) (hbT : nT ≤ 12) (hcd : ∀ t, t < nT → ∃ x, x < nE ∧ S 10 t = nI x) (hnO : S 0 13 = nI nO) (hbO : nO ≤ 4) {ti : Int32} {tb : Nat → Int32} (hps : ∀ a, a < 8 → S 20 a = pf_tm ti tb (nI a)) : MC_Md_evolve κ [.inr 0] S (fun _ S' => (S' 0 40, S' 0 41) = pf_ev (chM S nS nT) nE nT nO (S 0 25) (S 0 37) (S 0 38) (S 0 39) (S 0 26) ti tb ∧ (∀ j, j ≠ 40 → j ≠ 41 → S' 0 j = S 0 j) ∧ ∀ b, b ≠ 0 → b ≠ 7 → S' b = S b) := by
  refine mo_Md_evolve hq (Nat.le_of_ble_eq_true rfl) ?_
  intro J hT ht
  generalize hdu : pf_dd (chM S nS nT) nE nT (S 0 37) (S 0 38) (S 0 39) (S 0 26) ti tb = du
  have step : ∀ (p : Nat) (i : Int32) (U : fx_S), p < 3 → i = nI p → (∀ j, j ≠ 40 → j ≠ 41 → U 0 j = S 0 j) → (∀ b, b ≠ 0 → b ≠ 7 → U b = S b) → (∀ j, j < nE → U 7 j = px_z (bt (pm_T S ti tb nE) j = true)) → (∀ (i' : Int32) (U' : fx_S), i' = nI (p + 1) → (U' 0 40, U' 0 41) = pf_one (chM S nS nT) nT nO (S 0 25) (S 0 26) du p (U 0 40, U 0 41) → (∀ j, j ≠ 40 → j ≠ 41 → U' 0 j = S 0 j) → (∀ b, b ≠ 0 → b ≠ 7 → U' b = S b) → (∀ j, j < nE → U' 7 j = px_z (bt (pm_T S ti tb nE) j = true)) → J 16 [.inr 0, .inl i'] [] U') → J 16 [.inr 0, .inl i] [] U := by
    intro p i U hp hi u0 ub u7 next
    subst hi
    have u00 : U 0 0 = S 0 0 := u0 0 (by decide) (by decide)
    have u1 : U 1 = S 1 := ub 1 (by decide) (by decide)
    have u8 : U 8 = S 8 := ub 8 (by decide) (by decide)
    have u9 : U 9 = S 9 := ub 9 (by decide) (by decide)
    have u10 : U 10 = S 10 := ub 10 (by decide) (by decide)
    have u11 : U 11 = S 11 := ub 11 (by decide) (by decide)
    have u12 : U 12 = S 12 := ub 12 (by decide) (by decide)
    have u13 : U 13 = S 13 := ub 13 (by decide) (by decide)
    have u25 : U 0 25 = S 0 25 := u0 25 (by decide) (by decide)
    have u26 : U 0 26 = S 0 26 := u0 26 (by decide) (by decide)
    refine fx_go_ok [(16, 2)] 150 hT ht ?_
    refine And.intro (fun h => absurd (show nI 3 ≤ nI p from h) (nI_ge (by omega) (by omega))) (fun _ => ?_)
    refine fx_ex1 (ct_Md_stepsOf hq (n := nS) (by rw [u00]; exact hnS) hbS _) ?_
    refine fx_ex1 (ct_Md_ruling hq (n := nO) (by rw [u0 13 (by decide) (by decide)]; exact hnO) hbO _) ?_
    rw [u1, u11, u12]
    rcases pf_rul_in (S 12) (S 11) (nI p) (U 0 40) nO 0 with ho | ⟨k, h1, h2, ho⟩
    · rw [ho]
      refine And.intro (fun _ => ?_) (fun h => absurd (by decide) h)
      have hone : pf_rul (chM S nS nT 8) (chM S nS nT 7) (nI p) (U 0 40, U 0 41).1 nO 0 = -1 := ho
      have hlo : px_lo nT (du &&& chM S nS nT 11 p) := by
        refine px_lo_and (fun i h1 h2 => ?_)
        have := pf_en_bt (S 8) (pf_part (S 1) (nI p) nS) nT (by omega) i h2
        cases hb : bt (chM S nS nT 11 p) i with
        | false => rfl
        | true => exact absurd (this.mp hb).1 (by omega)
      refine fx_ex _ (ct_Md_move hq (n := nT) (by rw [u0 9 (by decide) (by decide)]; exact hnT) hbT (fun t h => by
          obtain ⟨x, hx, ex⟩ := hcd t h
          rw [u10, ex]; exact vp_in_nI (by omega) (by omega)) _ (dh := du &&& chM S nS nT 11 p) (fun t h => ?_)) ?_
      · rw [u8, u10, u26]
        obtain ⟨x, hx, ex⟩ := hcd t h
        rw [ex, nI_clamp (by omega), u7 x hx, px_z_eq0, Classical.not_not, px_in_bt (by omega), b_and, Bool.and_eq_true]
        have e1 := pf_due_bt (S 10) (pm_T S ti tb nE) (pf_en (S 8) (S 0 26) nT) nT (by omega) t (by omega)
        have e2 := pf_en_bt (S 8) (S 0 26) nT (by omega) t (by omega)
        have e3 := pf_en_bt (S 8) (pf_part (S 1) (nI p) nS) nT (by omega) t (by omega)
        have e1 : bt du t = true ↔ bt (pf_en (S 8) (S 0 26) nT) t = true ∧ (t < nT → px_in (pm_T S ti tb nE) (S 10 t)) := by
          rw [← hdu]; exact e1
        have e3 : bt (chM S nS nT 11 p) t = true ↔ t < nT ∧ px_sub (S 8 t) (pf_part (S 1) (nI p) nS) := e3
        rw [e1, e2, e3, ex, px_in_bt (by omega)]
        constructor
        · rintro ⟨⟨⟨-, q1⟩, q2⟩, -, q3⟩
          exact ⟨q3, q1, q2 h⟩
        · rintro ⟨q1, q2, q3⟩
          exact ⟨⟨⟨h, q2⟩, fun _ => q3⟩, h, q1⟩
      · intro r V hV
        rw [u8, u9, u25, u26] at hV
        have hC : (if S 0 25 = 0 then (pf_wr (S 8) (du &&& chM S nS nT 11 p) nT).1 else du &&& chM S nS nT 11 p) = pm_C (S 0 25) (S 8) (du &&& chM S nS nT 11 p) nT := by
          unfold pm_C
          by_cases h : S 0 25 = 0
          · rw [if_pos h, if_pos h]
          · rw [if_neg h, if_neg h, pf_un_self (by omega) hlo]
        refine next _ V (nI_1 p) ?_ ?_ ?_ ?_
        · unfold pf_one
          rw [if_pos hone]
          have hC' : (if S 0 25 = 0 then (pf_wr (chM S nS nT 4) (du &&& chM S nS nT 11 p) nT).1 else du &&& chM S nS nT 11 p) = pm_C (S 0 25) (S 8) (du &&& chM S nS nT 11 p) nT := hC
          rw [hC', hV]
          rfl
        · intro j j40 j41
          rw [hV, fx_up_ne2 _ _ _ j40, fx_up_ne2 _ _ _ j41]
          exact u0 j j40 j41
        · intro b b0 b7
          rw [hV, fx_up_ne _ _ _ b0, fx_up_ne _ _ _ b0]
          exact ub b b0 b7
        · intro j hj
          rw [hV, fx_up_ne _ _ _ (by decide), fx_up_ne _ _ _ (by decide)]
          exact u7 j hj
    · rw [ho]
      have ek : (nI k).toNatClampNeg = k := nI_clamp (by omega)
      have hvk : vp_in (nI k) 4 := vp_in_nI (by omega) (by omega)
      have hone : pf_rul (chM S nS nT 8) (chM S nS nT 7) (nI p) (U 0 40, U 0 41).1 nO 0 = nI k := ho
      have fin : ∀ v : Int32, v = U 0 40 ||| pf_fo (S 13 k) (S 0 26 &&& pf_part (S 1) (nI p) nS) → J 16 [.inr 0, .inl (nI p + 1)] [] (fx_up U 0 40 v) := by
        intro v hv
        refine next _ _ (nI_1 p) ?_ ?_ ?_ ?_
        · unfold pf_one
          rw [hone, if_neg (nI_nm1 (by omega)), ek]
          show (v, U 0 41) = _
          rw [hv]
          rfl
        · intro j j40 j41
          rw [fx_up_ne2 _ _ _ j40]
          exact u0 j j40 j41
        · intro b b0 b7
          rw [fx_up_ne _ _ _ b0]
          exact ub b b0 b7
        · intro j hj
          rw [fx_up_ne _ _ _ (by decide)]
          exact u7 j hj
      refine And.intro (fun h => absurd h (nI_pos (by omega))) (fun _ => ?_)
      refine And.intro hvk ?_
      rw [ek, u13]
      refine And.intro (fun h => ?_) (fun h => ?_)
      · refine And.intro hvk ?_
        rw [ek, u13]
        refine fin _ ?_
        rw [pf_fo, if_neg h]
      · refine fin _ ?_
        rw [pf_fo, if_pos h, u26]
  refine fx_go_ok [(16, 2)] 150 hT ht ?_
  refine fx_ex _ (ct_Md_judge hq hnE hbE hwf hps) ?_
  intro r V hV
  obtain ⟨vb, v7⟩ := hV
  refine step 0 _ _ (by omega) rfl ?_ ?_ ?_ ?_
  · intro j j40 j41
    rw [fx_up_ne2 _ _ _ j41, fx_up_ne2 _ _ _ j40, vb 0 (by decide)]
  · intro b b0 b7
    rw [fx_up_ne _ _ _ b0, fx_up_ne _ _ _ b0]
    exact vb b b7
  · intro j hj
    rw [fx_up_ne _ _ _ (by decide), fx_up_ne _ _ _ (by decide)]
    exact v7 j hj
  intro i1 U1 hi1 e1 a1 b1 c1
  refine step 1 _ _ (by omega) hi1 a1 b1 c1 ?_
  intro i2 U2 hi2 e2 a2 b2 c2
  refine step 2 _ _ (by omega) hi2 a2 b2 c2 ?_
  intro i3 U3 hi3 e3 a3 b3 c3
  subst hi3
  refine fx_go_ok [] 99 hT ht ?_
  refine And.intro (fun _ => ?_) (fun h => absurd (by decide) h)
  refine ⟨?_, a3, b3⟩
  rw [e3, e2, e1, ← hdu]
  rfl
theorem ct_Md_take (hq : fx_I κ lyM.length) {nS : Nat} (hnS : S 0 0 = nI nS) (hbS : nS ≤ 8) {ti : Int32} {tb : Nat → Int32} (hps : ∀ a, a < 8 → S 20 a = pf_tm ti tb (nI a)) (hti : ∀ i, i < 8 → bt ti i = true → bt (S 0 26) i = true) (hlo : px_lo nS (S 0 26)) : MC_Md_take κ [.inr 0] S (fun _ S' => S' 0 26 = S 0 40 ∧ (∀ a, a < 8 → S' 20 a = pf_tm (ti &&& S 0 40) tb (nI a)) ∧ (∀ j, j ≠ 26 → S' 0 j = S 0 j) ∧ ∀ b, b ≠ 0 → b ≠ 20 → S' b = S b) := by
  refine mo_Md_take hq (Nat.le_of_ble_eq_true rfl) ?_
  intro J hT ht
  have tmk : ∀ a, a < 8 → pf_tm (ti &&& S 0 40) tb (nI a) = if bt (S 0 26) a = true ∧ bt (S 0 40) a = true then S 20 a else 0 := by
    intro a ha
    rw [hps a ha]
    unfold pf_tm
    by_cases h1 : bt (S 0 26) a = true ∧ bt (S 0 40) a = true
    · rw [if_pos h1]
      by_cases h2 : px_in ti (nI a)
      · rw [if_pos h2, if_pos]
        rw [px_in_bt (by omega)] at h2 ⊢
        rw [b_and, h2, h1.2]; rfl
      · rw [if_neg h2, if_neg]
        rw [px_in_bt (by omega)] at h2 ⊢
        rw [b_and]
        intro q
        rw [Bool.and_eq_true] at q
        exact h2 q.1
    · rw [if_neg h1, if_neg]
      rw [px_in_bt (by omega), b_and, Bool.and_eq_true]
      exact fun q => h1 ⟨hti a ha q.1, q.2⟩
  have loop : ∀ (j k : Nat) (i : Int32) (U : fx_S), k + j = nS → i = nI k → (∀ a, a < 8 → U 20 a = if a < k then pf_tm (ti &&& S 0 40) tb (nI a) else S 20 a) → (∀ b, b ≠ 20 → U b = S b) → J 2 [.inr 0, .inl i] [] U := by
    intro j
    induction j with
    | zero =>
      intro k i U hk hi h20 hb
      have hk : k = nS := by omega
      subst hk; subst hi
      have u0 : U 0 = S 0 := hb 0 (by decide)
      refine fx_go_ok [] 99 hT ht ?_
      refine And.intro (fun _ => ?_) (fun h => ?_)
      · refine ⟨?_, ?_, ?_, ?_⟩
        · show U 0 40 = _
          rw [u0]
        · intro a ha
          show U 20 a = _
          rw [h20 a ha]
          by_cases hak : a < k
          · rw [if_pos hak]
          · rw [if_neg hak, tmk a ha, if_neg]
            · rw [hps a ha]
              unfold pf_tm
              rw [if_neg]
              rw [px_in_bt (by omega)]
              intro q
              have := hti a ha q
              rw [hlo a (by omega) (by omega)] at this
              cases this
            · intro q
              have := q.1
              rw [hlo a (by omega) (by omega)] at this
              cases this
        · intro j hj
          rw [fx_up_ne2 _ _ _ hj, u0]
        · intro b b0 b20
          rw [fx_up_ne _ _ _ b0]
          exact hb b b20
      · exact absurd (show U 0 0 ≤ nI k by rw [u0, hnS]; exact nI_le (by omega) (by omega)) h
    | succ j ih =>
      intro k i U hk hi h20 hb
      subst hi
      have e : (nI k).toNatClampNeg = k := nI_clamp (by omega)
      have hv : vp_in (nI k) 8 := vp_in_nI (by omega) (by omega)
      have u0 : U 0 = S 0 := hb 0 (by decide)
      have u20 : U 20 k = S 20 k := by rw [h20 k (by omega), if_neg (by omega)]
      have fin : ∀ v : Int32, v = pf_tm (ti &&& S 0 40) tb (nI k) → J 2 [.inr 0, .inl (nI k + 1)] [] (fx_up U 20 k v) := by
        intro v hv9
        refine ih (k + 1) _ _ (by omega) (nI_1 k) (fun a ha => ?_) (fun b b20 => ?_)
        · by_cases hak : a = k
          · subst hak; rw [fx_up_at, if_pos (by omega)]; exact hv9
          · rw [fx_up_ne2 _ _ _ hak, h20 a ha]
            by_cases hlt : a < k
            · rw [if_pos hlt, if_pos (by omega)]
            · rw [if_neg hlt, if_neg (by omega)]
        · rw [fx_up_ne _ _ _ b20]; exact hb b b20
      have no : ¬ (bt (S 0 26) k = true ∧ bt (S 0 40) k = true) → (0 : Int32) = pf_tm (ti &&& S 0 40) tb (nI k) := fun h => by
        rw [tmk k (by omega), if_neg h]
      refine fx_go_ok [(2, 2)] 99 hT ht ?_
      refine And.intro (fun h => absurd (show S 0 0 ≤ nI k by rw [← u0]; exact h) (by rw [hnS]; exact nI_ge (by omega) (by omega))) (fun _ => ?_)
      refine fx_ex1 (ct_Md_in hq _ _) ?_
      rw [u0]
      refine And.intro (fun h => ?_) (fun h => ?_)
      · have h := px_z_eq0.mp h
        rw [px_in_bt (by omega)] at h
        refine And.intro (fun _ => ?_) (fun q => absurd rfl q)
        refine And.intro hv ?_
        rw [e]
        exact fin _ (no (fun q => h q.1))
      · have h := px_z_ne0.mp h
        rw [px_in_bt (by omega)] at h
        refine fx_ex1 (ct_Md_in hq _ _) ?_
        rw [u0]
        refine And.intro (fun h2 => ?_) (fun h2 => ?_)
        · have h2 := px_z_eq0.mp h2
          rw [px_in_bt (by omega)] at h2
          refine And.intro (fun _ => ?_) (fun q => absurd rfl q)
          refine And.intro hv ?_
          rw [e]
          exact fin _ (no (fun q => h2 q.2))
        · have h2 := px_z_ne0.mp h2
          rw [px_in_bt (by omega)] at h2
          refine And.intro (fun q => absurd q (by decide)) (fun _ => ?_)
          refine And.intro hv (And.intro hv ?_)
          rw [e, u20]
          refine fin _ ?_
          rw [tmk k (by omega), if_pos ⟨h, h2⟩]
  refine fx_go_ok [(2, 2)] 99 hT ht ?_
  exact loop nS 0 _ _ (by omega) rfl (fun a _ => by rw [if_neg (by omega)]) (fun _ _ => rfl)
theorem ct_Md_code (hq : fx_I κ lyM.length) {nS : Nat} (hnS : S 0 0 = nI nS) (hbS : nS ≤ 8) {ti : Int32} (hz : ∀ k, k < 8 → bt (S 0 26) k = true → (S 20 k = 0 ↔ ¬ bt ti k = true)) : MC_Md_code κ [.inr 0] S (fun r S' => S' = S ∧ r = nI (pm_cd (S 0 26) ti nS)) := by
  refine mo_Md_code hq (Nat.le_of_ble_eq_true rfl) ?_
  intro J hT ht
  have loop : ∀ (j k : Nat) (x i : Int32), k + j = nS → i = nI k → x = nI (pm_cd (S 0 26) ti k) → J 4 [.inr 0, .inl x, .inl i] [] S := by
    intro j
    induction j with
    | zero =>
      intro k x i hk hi hx
      have hk : k = nS := by omega
      subst hk; subst hi
      refine fx_go_ok [] 99 hT ht ?_
      refine And.intro (fun _ => ?_) (fun h => absurd (show S 0 0 ≤ nI k by rw [hnS]; exact nI_le (by omega) (by omega)) h)
      exact ⟨rfl, hx⟩
    | succ j ih =>
      intro k x i hk hi hx
      subst hi
      have fin : ∀ (v : Int32) (d : Nat), v = nI d → d = (if bt (S 0 26) k = true then (if bt ti k = true then 2 else 1) else 0) → J 4 [.inr 0, .inl (3 * x + v), .inl (nI k + 1)] [] S := by
        intro v d hv hd
        refine ih (k + 1) _ _ (by omega) (nI_1 k) ?_
        rw [hv, hx, pm_cd, ← hd, ← nI_add, ← pk_mul]
        rfl
      refine fx_go_ok [(4, 3)] 99 hT ht ?_
      refine And.intro (fun h => absurd h (by rw [hnS]; exact nI_ge (by omega) (by omega))) (fun _ => ?_)
      refine fx_ex1 (ct_Md_in hq _ _) ?_
      refine And.intro (fun h => ?_) (fun h => ?_)
      · have h := px_z_ne0.mp h
        rw [px_in_bt (by omega)] at h
        refine And.intro (vp_in_nI (by omega) (by omega)) ?_
        rw [nI_clamp (by omega)]
        refine And.intro (fun h2 => ?_) (fun h2 => ?_)
        · refine fin 2 2 rfl ?_
          rw [if_pos h, if_pos (Classical.not_not.mp (fun q => h2 ((hz k (by omega) h).mpr q)))]
        · refine fin 1 1 rfl ?_
          rw [if_pos h, if_neg ((hz k (by omega) h).mp h2)]
      · have h := px_z_eq0.mp h
        rw [px_in_bt (by omega)] at h
        refine fin 0 0 rfl ?_
        rw [if_neg h]
  refine fx_go_ok [(4, 3)] 99 hT ht ?_
  exact loop nS 0 _ _ (by omega) rfl rfl
end MDF
