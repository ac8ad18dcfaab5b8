/-! the reference: its building and reading methods -/
theorem i32_lt3 {x : Int32} : ¬ (2 : Int32) < x ↔ x < 3 := by
  rw [Int32.not_lt, Int32.le_iff_toInt_le, Int32.lt_iff_toInt_lt]
  have h2 : (2 : Int32).toInt = 2 := rfl
  have h3 : (3 : Int32).toInt = 3 := rfl
  omega
theorem i32_lt8 {x : Int32} : ¬ (7 : Int32) < x ↔ x < 8 := by
  rw [Int32.not_lt, Int32.le_iff_toInt_le, Int32.lt_iff_toInt_lt]
  have h2 : (7 : Int32).toInt = 7 := rfl
  have h3 : (8 : Int32).toInt = 8 := rfl
  omega
section MDA
variable {κ : fx_K} {S : fx_S}
theorem ct_Md_in (hq : fx_I κ lyM.length) (x a : Int32) : MC_Md_in κ [.inl x, .inl a] S (fun r S' => S' = S ∧ r = px_z (px_in x a)) := by
  refine mo_Md_in hq (Nat.le_of_ble_eq_true rfl) ?_
  intro J hT ht
  refine fx_go_ok [] 99 hT ht ?_
  refine And.intro (fun h => ?_) (fun h => ?_)
  · exact And.intro (Or.inl rfl) ⟨rfl, (px_z_f (fun hn => hn h)).symm⟩
  · exact And.intro (Or.inr rfl) ⟨rfl, (px_z_t h).symm⟩
theorem ct_Md_isStep (hq : fx_I κ lyM.length) (a : Int32) : MC_Md_isStep κ [.inr 0, .inl a] S (fun r S' => S' = S ∧ r = px_z (0 ≤ a ∧ a < S 0 0)) := by
  refine mo_Md_isStep hq (Nat.le_of_ble_eq_true rfl) ?_
  intro J hT ht
  refine fx_go_ok [] 99 hT ht ?_
  refine And.intro (fun h => ?_) (fun h => And.intro (fun h2 => ?_) (fun h2 => ?_))
  · exact And.intro (Or.inl rfl) ⟨rfl, (px_z_f (fun hn => Int32.not_lt.mpr hn.1 h)).symm⟩
  · exact And.intro (Or.inl rfl) ⟨rfl, (px_z_f (fun hn => Int32.not_lt.mpr h2 hn.2)).symm⟩
  · exact And.intro (Or.inr rfl) ⟨rfl, (px_z_t ⟨Int32.not_lt.mp h, Int32.not_le.mp h2⟩).symm⟩
theorem ct_Md_isExpression (hq : fx_I κ lyM.length) (a : Int32) : MC_Md_isExpression κ [.inr 0, .inl a] S (fun r S' => S' = S ∧ r = px_z (0 ≤ a ∧ a < S 0 3)) := by
  refine mo_Md_isExpression hq (Nat.le_of_ble_eq_true rfl) ?_
  intro J hT ht
  refine fx_go_ok [] 99 hT ht ?_
  refine And.intro (fun h => ?_) (fun h => And.intro (fun h2 => ?_) (fun h2 => ?_))
  · exact And.intro (Or.inl rfl) ⟨rfl, (px_z_f (fun hn => Int32.not_lt.mpr hn.1 h)).symm⟩
  · exact And.intro (Or.inl rfl) ⟨rfl, (px_z_f (fun hn => Int32.not_lt.mpr h2 hn.2)).symm⟩
  · exact And.intro (Or.inr rfl) ⟨rfl, (px_z_t ⟨Int32.not_lt.mp h, Int32.not_le.mp h2⟩).symm⟩
theorem ct_Md_stepsOf (hq : fx_I κ lyM.length) {n : Nat} (hn : S 0 0 = nI n) (hb : n ≤ 8) (p : Int32) : MC_Md_stepsOf κ [.inr 0, .inl p] S (fun r S' => S' = S ∧ r = pf_part (S 1) p n) := by
  refine mo_Md_stepsOf hq (Nat.le_of_ble_eq_true rfl) ?_
  intro J hT ht
  have loop : ∀ (j k : Nat) (x i : Int32), k + j = n → x = pf_part (S 1) p k → i = nI k → J 4 [.inr 0, .inl p, .inl x, .inl i] [] S := by
    intro j
    induction j with
    | zero =>
      intro k x i hk hx hi
      refine fx_go_ok [] 99 hT ht ?_
      refine And.intro (fun _ => ?_) (fun h => ?_)
      · exact ⟨rfl, by rw [hx, show k = n by omega]⟩
      · exact absurd (by rw [hn, hi]; exact nI_le (by omega) (by omega)) h
    | succ j ih =>
      intro k x i hk hx hi
      subst hi
      refine fx_go_ok [(4, 4)] 99 hT ht ?_
      refine And.intro (fun h => ?_) (fun _ => ?_)
      · exact absurd h (by rw [hn]; exact nI_ge (by omega) (by omega))
      · refine And.intro (vp_in_nI (by omega) (by omega)) ?_
        rw [nI_clamp (by omega)]
        refine And.intro (fun h => ?_) (fun h => ?_)
        · refine ih (k + 1) _ _ (by omega) ?_ (nI_1 k)
          rw [hx, pf_part, if_neg h]
        · refine ih (k + 1) _ _ (by omega) ?_ (nI_1 k)
          rw [hx, pf_part, if_pos h]
  refine fx_go_ok [(4, 4)] 99 hT ht ?_
  exact loop n 0 _ _ (by omega) rfl rfl
theorem ct_Md_initials (hq : fx_I κ lyM.length) {n : Nat} (hn : S 0 0 = nI n) (hb : n ≤ 8) : MC_Md_initials κ [.inr 0] S (fun r S' => S' = S ∧ r = pf_ini (S 2) n) := by
  refine mo_Md_initials hq (Nat.le_of_ble_eq_true rfl) ?_
  intro J hT ht
  have loop : ∀ (j k : Nat) (x i : Int32), k + j = n → x = pf_ini (S 2) k → i = nI k → J 4 [.inr 0, .inl x, .inl i] [] S := by
    intro j
    induction j with
    | zero =>
      intro k x i hk hx hi
      refine fx_go_ok [] 99 hT ht ?_
      refine And.intro (fun _ => ?_) (fun h => ?_)
      · exact ⟨rfl, by rw [hx, show k = n by omega]⟩
      · exact absurd (by rw [hn, hi]; exact nI_le (by omega) (by omega)) h
    | succ j ih =>
      intro k x i hk hx hi
      subst hi
      refine fx_go_ok [(4, 3)] 99 hT ht ?_
      refine And.intro (fun h => ?_) (fun _ => ?_)
      · exact absurd h (by rw [hn]; exact nI_ge (by omega) (by omega))
      · refine And.intro (vp_in_nI (by omega) (by omega)) ?_
        rw [nI_clamp (by omega)]
        refine And.intro (fun h => ?_) (fun h => ?_)
        · refine ih (k + 1) _ _ (by omega) ?_ (nI_1 k)
          rw [hx, pf_ini, if_pos h]
        · refine ih (k + 1) _ _ (by omega) ?_ (nI_1 k)
          rw [hx, pf_ini, if_neg h]
  refine fx_go_ok [(4, 3)] 99 hT ht ?_
  exact loop n 0 _ _ (by omega) rfl rfl
def pm_addS (S : fx_S) (n : Nat) (part it : Int32) : fx_S := fx_up (fx_up (fx_up S 1 n part) 2 n it) 0 0 (nI (n + 1))
theorem ct_Md_step (hq : fx_I κ lyM.length) {n : Nat} (hn : S 0 0 = nI n) (hb : n ≤ 8) (part : Int32) {it : Int32} (hit : it = 0 ∨ it = 1) : MC_Md_step κ [.inr 0, .inl part, .inl it] S (fun r S' => if S 0 24 = 0 ∧ n < 8 ∧ 0 ≤ part ∧ part < 3 then r = nI n ∧ S' = pm_addS S n part it else r = -2 ∧ S' = S) := by
  refine mo_Md_step hq (Nat.le_of_ble_eq_true rfl) ?_
  intro J hT ht
  refine fx_go_ok [] 99 hT ht ?_
  refine And.intro (fun h => ?_) (fun h => And.intro (fun h2 => ?_) (fun h2 => And.intro (fun h3 => ?_) (fun h3 => And.intro (fun h4 => ?_) (fun h4 => ?_))))
  · show ite _ _ _
    rw [if_neg (fun hc => h hc.1)]; exact ⟨rfl, rfl⟩
  · show ite _ _ _
    rw [if_neg (fun hc => Int32.not_lt.mpr hc.2.2.1 h2)]; exact ⟨rfl, rfl⟩
  · show ite _ _ _
    rw [if_neg (fun hc => absurd h3 (i32_lt3.mpr hc.2.2.2))]; exact ⟨rfl, rfl⟩
  · have h8 : n < 8 := by rw [hn] at h4; exact (nI_ltI (by omega) (by omega)).mp h4
    have e : (nI n).toNatClampNeg = n := nI_clamp (by omega)
    have hv : vp_in (S 0 0) 8 := by rw [hn]; exact vp_in_nI (by omega) (by omega)
    refine And.intro hv ?_
    refine And.intro hit (And.intro hv ?_)
    show ite _ _ _
    rw [if_pos ⟨h, h8, Int32.not_lt.mp h2, i32_lt3.mp h3⟩]
    refine ⟨?_, ?_⟩
    · show S 0 0 + 1 - 1 = nI n
      rw [hn, nI_1, nI_pred]
    · unfold pm_addS
      rw [← nI_1, ← hn]
      show fx_up (fx_up (fx_up S 1 (S 0 0).toNatClampNeg part) 2 (S 0 0).toNatClampNeg it) 0 0 (S 0 0 + 1) = _
      rw [hn, e]
  · show ite _ _ _
    rw [if_neg (fun hc => h4 (by rw [hn]; exact (show nI n < nI 8 from nI_lt hc.2.1 (by omega))))]; exact ⟨rfl, rfl⟩
theorem ct_Md_active (hq : fx_I κ lyM.length) : MC_Md_active κ [.inr 0] S (fun r S' => S' = S ∧ r = S 0 26) := by
  refine mo_Md_active hq (Nat.le_of_ble_eq_true rfl) ?_
  intro J hT ht
  refine fx_go_ok [] 99 hT ht ?_
  exact ⟨rfl, rfl⟩
theorem ct_Md_outputs (hq : fx_I κ lyM.length) : MC_Md_outputs κ [.inr 0] S (fun r S' => S' = S ∧ r = S 0 30) := by
  refine mo_Md_outputs hq (Nat.le_of_ble_eq_true rfl) ?_
  intro J hT ht
  refine fx_go_ok [] 99 hT ht ?_
  exact ⟨rfl, rfl⟩
theorem ct_Md_evolutions (hq : fx_I κ lyM.length) : MC_Md_evolutions κ [.inr 0] S (fun r S' => S' = S ∧ r = S 0 31) := by
  refine mo_Md_evolutions hq (Nat.le_of_ble_eq_true rfl) ?_
  intro J hT ht
  refine fx_go_ok [] 99 hT ht ?_
  exact ⟨rfl, rfl⟩
theorem ct_Md_cleared (hq : fx_I κ lyM.length) : MC_Md_cleared κ [.inr 0] S (fun r S' => S' = S ∧ r = S 0 32) := by
  refine mo_Md_cleared hq (Nat.le_of_ble_eq_true rfl) ?_
  intro J hT ht
  refine fx_go_ok [] 99 hT ht ?_
  exact ⟨rfl, rfl⟩
theorem ct_Md_lead (hq : fx_I κ lyM.length) : MC_Md_lead κ [.inr 0] S (fun r S' => S' = S ∧ r = S 0 33) := by
  refine mo_Md_lead hq (Nat.le_of_ble_eq_true rfl) ?_
  intro J hT ht
  refine fx_go_ok [] 99 hT ht ?_
  exact ⟨rfl, rfl⟩
theorem ct_Md_period (hq : fx_I κ lyM.length) : MC_Md_period κ [.inr 0] S (fun r S' => S' = S ∧ r = S 0 34) := by
  refine mo_Md_period hq (Nat.le_of_ble_eq_true rfl) ?_
  intro J hT ht
  refine fx_go_ok [] 99 hT ht ?_
  exact ⟨rfl, rfl⟩
theorem ct_Md_time (hq : fx_I κ lyM.length) {n : Nat} (hn : S 0 0 = nI n) (hb : n ≤ 8) (a : Int32) : MC_Md_time κ [.inr 0, .inl a] S (fun r S' => S' = S ∧ r = if 0 ≤ a ∧ a < S 0 0 then S 20 a.toNatClampNeg else 0) := by
  refine mo_Md_time hq (Nat.le_of_ble_eq_true rfl) ?_
  intro J hT ht
  refine fx_go_ok [] 99 hT ht ?_
  refine fx_ex1 (ct_Md_isStep hq a) ?_
  refine And.intro (fun h => ?_) (fun h => ?_)
  · exact ⟨rfl, (if_neg (px_z_eq0.mp h)).symm⟩
  · have h := px_z_ne0.mp h
    refine And.intro ?_ ⟨rfl, (if_pos h).symm⟩
    obtain ⟨j, hj, rfl⟩ := nI_le_of (n := n) h.1 (by rw [← hn]; exact h.2) (by omega)
    exact vp_in_nI (by omega) (by omega)
theorem ct_Md_stored (hq : fx_I κ lyM.length) {n : Nat} (hn : S 0 17 = nI n) (hb : n ≤ 12) (a : Int32) : MC_Md_stored κ [.inr 0, .inl a] S (fun r S' => S' = S ∧ r = px_z (0 ≤ a ∧ a < S 0 17 ∧ ¬ S 18 a.toNatClampNeg = 0)) := by
  refine mo_Md_stored hq (Nat.le_of_ble_eq_true rfl) ?_
  intro J hT ht
  refine fx_go_ok [] 99 hT ht ?_
  refine And.intro (fun h => ?_) (fun h => And.intro (fun h2 => ?_) (fun h2 => ?_))
  · exact And.intro (Or.inl rfl) ⟨rfl, (px_z_f (fun hn => Int32.not_lt.mpr hn.1 h)).symm⟩
  · exact And.intro (Or.inl rfl) ⟨rfl, (px_z_f (fun hn => Int32.not_lt.mpr h2 hn.2.1)).symm⟩
  · have h := Int32.not_lt.mp h
    have h2 := Int32.not_le.mp h2
    refine And.intro ?_ ?_
    · obtain ⟨j, hj, rfl⟩ := nI_le_of (n := n) h (by rw [← hn]; exact h2) (by omega)
      exact vp_in_nI (by omega) (by omega)
    · refine And.intro (fun h3 => ?_) (fun h3 => ?_)
      · exact And.intro (Or.inl rfl) ⟨rfl, (px_z_f (fun hn => hn.2.2 h3)).symm⟩
      · exact And.intro (Or.inr rfl) ⟨rfl, (px_z_t ⟨h, h2, h3⟩).symm⟩
theorem ct_Md_isEnabled (hq : fx_I κ lyM.length) {t : Nat} (ht0 : t < 12) : MC_Md_isEnabled κ [.inr 0, .inl (nI t)] S (fun r S' => S' = S ∧ r = px_z (px_sub (S 8 t) (S 0 26))) := by
  refine mo_Md_isEnabled hq (Nat.le_of_ble_eq_true rfl) ?_
  intro J hT ht
  refine fx_go_ok [] 99 hT ht ?_
  refine And.intro (vp_in_nI (by omega) (by omega)) ?_
  rw [nI_clamp (by omega)]
  refine And.intro (fun h => ?_) (fun h => ?_)
  · exact And.intro (Or.inl rfl) ⟨rfl, (px_z_f (fun hn => h hn)).symm⟩
  · exact And.intro (Or.inr rfl) ⟨rfl, (px_z_t h).symm⟩
theorem ct_Md_enabled (hq : fx_I κ lyM.length) {n : Nat} (hn : S 0 9 = nI n) (hb : n ≤ 12) : MC_Md_enabled κ [.inr 0] S (fun r S' => S' = S ∧ r = pf_en (S 8) (S 0 26) n) := by
  refine mo_Md_enabled hq (Nat.le_of_ble_eq_true rfl) ?_
  intro J hT ht
  have loop : ∀ (j k : Nat) (x i : Int32), k + j = n → x = pf_en (S 8) (S 0 26) k → i = nI k → J 4 [.inr 0, .inl x, .inl i] [] S := by
    intro j
    induction j with
    | zero =>
      intro k x i hk hx hi
      refine fx_go_ok [] 99 hT ht ?_
      refine And.intro (fun _ => ?_) (fun h => ?_)
      · exact ⟨rfl, by rw [hx, show k = n by omega]⟩
      · exact absurd (by rw [hn, hi]; exact nI_le (by omega) (by omega)) h
    | succ j ih =>
      intro k x i hk hx hi
      subst hi
      refine fx_go_ok [(4, 3)] 99 hT ht ?_
      refine And.intro (fun h => ?_) (fun _ => ?_)
      · exact absurd h (by rw [hn]; exact nI_ge (by omega) (by omega))
      · refine fx_ex1 (ct_Md_isEnabled hq (by omega)) ?_
        refine And.intro (fun h => ?_) (fun h => ?_)
        · refine ih (k + 1) _ _ (by omega) ?_ (nI_1 k)
          rw [hx, pf_en, if_neg (px_z_eq0.mp h)]
        · refine ih (k + 1) _ _ (by omega) ?_ (nI_1 k)
          rw [hx, pf_en, if_pos (px_z_ne0.mp h)]
  refine fx_go_ok [(4, 3)] 99 hT ht ?_
  exact loop n 0 _ _ (by omega) rfl rfl
def pm_addO (S : fx_S) (n : Nat) (a b c : Int32) : fx_S := fx_up (fx_up (fx_up (fx_up S 11 n a) 12 n b) 13 n c) 0 13 (nI (n + 1))
def pm_addA (S : fx_S) (n : Nat) (a b c d : Int32) : fx_S := fx_up (fx_up (fx_up (fx_up (fx_up S 14 n a) 15 n b) 16 n c) 17 n d) 0 17 (nI (n + 1))
def pm_addT (S : fx_S) (n : Nat) (a b c : Int32) : fx_S := fx_up (fx_up (fx_up (fx_up S 8 n a) 9 n b) 10 n c) 0 9 (nI (n + 1))
def pm_addE (S : fx_S) (n : Nat) (kd a b : Int32) : fx_S := fx_up (fx_up (fx_up (fx_up (fx_up S 3 n kd) 4 n a) 5 n b) 6 n (pf_dep (S 6) kd a b)) 0 3 (nI (n + 1))
theorem ct_Md_order (hq : fx_I κ lyM.length) {n m : Nat} (hn : S 0 13 = nI n) (hb : n ≤ 4) (hm : S 0 0 = nI m) (hbm : m ≤ 8) (st part fx : Int32) : MC_Md_order κ [.inr 0, .inl st, .inl part, .inl fx] S (fun r S' => if S 0 24 = 0 ∧ n < 4 ∧ (0 ≤ st ∧ st < S 0 0) ∧ S 1 st.toNatClampNeg < part ∧ part < 3 ∧ (fx = -1 ∨ px_sub fx (pf_part (S 1) part m)) then r = nI n ∧ S' = pm_addO S n st part fx else r = -2 ∧ S' = S) := by
  refine mo_Md_order hq (Nat.le_of_ble_eq_true rfl) ?_
  intro J hT ht
  refine fx_go_ok [] 99 hT ht ?_
  refine And.intro (fun h => ?_) (fun h => And.intro (fun h2 => ?_) (fun h2 => ?_))
  · show ite _ _ _
    rw [if_neg (fun hc => h hc.1)]; exact ⟨rfl, rfl⟩
  · show ite _ _ _
    rw [if_neg (fun hc => absurd h2 (by rw [hn]; exact nI_ge (b := 4) hc.2.1 (by omega)))]; exact ⟨rfl, rfl⟩
  · have h8 : n < 4 := by
      rw [hn] at h2
      exact Nat.not_le.mp (fun hc => h2 (nI_le (a := 4) hc (by omega)))
    refine fx_ex1 (ct_Md_isStep hq st) ?_
    refine And.intro (fun h3 => ?_) (fun h3 => ?_)
    · show ite _ _ _
      rw [if_neg (fun hc => px_z_eq0.mp h3 hc.2.2.1)]; exact ⟨rfl, rfl⟩
    · have h3 := px_z_ne0.mp h3
      refine And.intro (fun h4 => ?_) (fun h4 => And.intro ?_ ?_)
      · show ite _ _ _
        rw [if_neg (fun hc => absurd h4 (i32_lt3.mpr hc.2.2.2.2.1))]; exact ⟨rfl, rfl⟩
      · obtain ⟨k, hk, rfl⟩ := nI_le_of (n := m) h3.1 (by rw [← hm]; exact h3.2) (by omega)
        exact vp_in_nI (by omega) (by omega)
      · have e : (nI n).toNatClampNeg = n := nI_clamp (by omega)
        have hv : vp_in (S 0 13) 4 := by rw [hn]; exact vp_in_nI (by omega) (by omega)
        have acc : S 1 st.toNatClampNeg < part → (fx = -1 ∨ px_sub fx (pf_part (S 1) part m)) → vp_in (S 0 13) 4 ∧ vp_in (S 0 13) 4 ∧ vp_in (S 0 13) 4 ∧ (if S 0 24 = 0 ∧ n < 4 ∧ (0 ≤ st ∧ st < S 0 0) ∧ S 1 st.toNatClampNeg < part ∧ part < 3 ∧ (fx = -1 ∨ px_sub fx (pf_part (S 1) part m)) then S 0 13 + 1 - 1 = nI n ∧ fx_up (fx_up (fx_up (fx_up S 11 (S 0 13).toNatClampNeg st) 12 (S 0 13).toNatClampNeg part) 13 (S 0 13).toNatClampNeg fx) 0 13 (S 0 13 + 1) = pm_addO S n st part fx else S 0 13 + 1 - 1 = -2 ∧ fx_up (fx_up (fx_up (fx_up S 11 (S 0 13).toNatClampNeg st) 12 (S 0 13).toNatClampNeg part) 13 (S 0 13).toNatClampNeg fx) 0 13 (S 0 13 + 1) = S) := by
          intro h5 h6
          refine ⟨hv, hv, hv, ?_⟩
          rw [if_pos ⟨h, h8, h3, h5, i32_lt3.mp h4, h6⟩, hn, e, nI_1, nI_pred]
          exact ⟨rfl, rfl⟩
        refine And.intro (fun h5 => ?_) (fun h5 => ?_)
        · refine And.intro (fun h6 => ?_) (fun h6 => ?_)
          · exact acc h5 (Or.inl h6)
          · refine fx_ex1 (ct_Md_stepsOf hq hm hbm part) ?_
            refine And.intro (fun h7 => ?_) (fun h7 => ?_)
            · exact acc h5 (Or.inr h7)
            · show ite _ _ _
              rw [if_neg (fun hc => hc.2.2.2.2.2.elim h6 h7)]; exact ⟨rfl, rfl⟩
        · show ite _ _ _
          rw [if_neg (fun hc => h5 hc.2.2.2.1)]; exact ⟨rfl, rfl⟩
theorem ct_Md_action (hq : fx_I κ lyM.length) {n : Nat} (hn : S 0 17 = nI n) (hb : n ≤ 12) (st qu va du : Int32) : MC_Md_action κ [.inr 0, .inl st, .inl qu, .inl va, .inl du] S (fun r S' => if S 0 24 = 0 ∧ n < 12 ∧ (0 ≤ st ∧ st < S 0 0) ∧ (0 ≤ qu ∧ qu ≤ 9) ∧ (0 ≤ va ∧ va < 8) ∧ (0 ≤ du ∧ du ≤ 1000000) then r = nI n ∧ S' = pm_addA S n st qu va du else r = -2 ∧ S' = S) := by
  refine mo_Md_action hq (Nat.le_of_ble_eq_true rfl) ?_
  intro J hT ht
  refine fx_go_ok [] 99 hT ht ?_
  refine And.intro (fun h => ?_) (fun h => And.intro (fun h2 => ?_) (fun h2 => ?_))
  · show ite _ _ _
    rw [if_neg (fun hc => h hc.1)]; exact ⟨rfl, rfl⟩
  · show ite _ _ _
    rw [if_neg (fun hc => absurd h2 (by rw [hn]; exact nI_ge (b := 12) hc.2.1 (by omega)))]; exact ⟨rfl, rfl⟩
  · have h8 : n < 12 := by
      rw [hn] at h2
      exact Nat.not_le.mp (fun hc => h2 (nI_le (a := 12) hc (by omega)))
    refine fx_ex1 (ct_Md_isStep hq st) ?_
    refine And.intro (fun h3 => ?_) (fun h3 => ?_)
    · show ite _ _ _
      rw [if_neg (fun hc => px_z_eq0.mp h3 hc.2.2.1)]; exact ⟨rfl, rfl⟩
    · have h3 := px_z_ne0.mp h3
      refine And.intro (fun h4 => ?_) (fun h4 => And.intro (fun h5 => ?_) (fun h5 => And.intro (fun h6 => ?_) (fun h6 => And.intro (fun h7 => ?_) (fun h7 => And.intro (fun h9 => ?_) (fun h9 => And.intro (fun h10 => ?_) (fun h10 => ?_))))))
      · show ite _ _ _
        rw [if_neg (fun hc => Int32.not_lt.mpr hc.2.2.2.1.1 h4)]; exact ⟨rfl, rfl⟩
      · show ite _ _ _
        rw [if_neg (fun hc => Int32.not_lt.mpr hc.2.2.2.1.2 h5)]; exact ⟨rfl, rfl⟩
      · show ite _ _ _
        rw [if_neg (fun hc => Int32.not_lt.mpr hc.2.2.2.2.1.1 h6)]; exact ⟨rfl, rfl⟩
      · show ite _ _ _
        rw [if_neg (fun hc => absurd h7 (i32_lt8.mpr hc.2.2.2.2.1.2))]; exact ⟨rfl, rfl⟩
      · show ite _ _ _
        rw [if_neg (fun hc => Int32.not_lt.mpr hc.2.2.2.2.2.1 h9)]; exact ⟨rfl, rfl⟩
      · have e : (nI n).toNatClampNeg = n := nI_clamp (by omega)
        have hv : vp_in (S 0 17) 12 := by rw [hn]; exact vp_in_nI (by omega) (by omega)
        refine And.intro hv (And.intro hv (And.intro hv (And.intro hv ?_)))
        show ite _ _ _
        rw [if_pos ⟨h, h8, h3, ⟨Int32.not_lt.mp h4, Int32.not_lt.mp h5⟩, ⟨Int32.not_lt.mp h6, i32_lt8.mp h7⟩, Int32.not_lt.mp h9, h10⟩]
        refine ⟨?_, ?_⟩
        · show S 0 17 + 1 - 1 = nI n
          rw [hn, nI_1, nI_pred]
        · show fx_up (fx_up (fx_up (fx_up (fx_up S 14 (S 0 17).toNatClampNeg st) 15 (S 0 17).toNatClampNeg qu) 16 (S 0 17).toNatClampNeg va) 17 (S 0 17).toNatClampNeg du) 0 17 (S 0 17 + 1) = _
          rw [hn, e, nI_1]
          rfl
      · show ite _ _ _
        rw [if_neg (fun hc => h10 hc.2.2.2.2.2.2)]; exact ⟨rfl, rfl⟩
end MDA
