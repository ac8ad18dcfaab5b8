section ORDERS
variable {κ : fx_K} {S : fx_S}
theorem ct_Or_add (hq : fx_I κ lyX.length) {n : Nat} (hn : S 4 3 = nI n) (hb : n < 4) (a b c : Int32) : MC_Or_add κ [.inr 4, .inl a, .inl b, .inl c] S (fun r S' => r = nI n ∧ S' = fx_up (fx_up (fx_up (fx_up S 4 3 (nI (n + 1))) 18 n a) 19 n b) 20 n c) := by
  refine mo_Or_add hq (Nat.le_of_ble_eq_true rfl) ?_
  intro J hT ht
  have e : (nI n).toNatClampNeg = n := nI_clamp (by omega)
  have hv : vp_in (nI n) 4 := vp_in_nI (by omega) (by omega)
  refine fx_go_ok [] 99 hT ht ?_
  refine And.intro (by rw [hn]; exact hv) ?_
  refine And.intro (by rw [hn]; exact hv) ?_
  refine And.intro (by rw [hn]; exact hv) ?_
  refine ⟨hn, ?_⟩
  rw [hn, e, nI_1]
theorem ct_Or_rulingOver (hq : fx_I κ lyX.length) {n : Nat} (hn : S 4 3 = nI n) (hb : n ≤ 4) (p si : Int32) : MC_Or_rulingOver κ [.inr 4, .inl p, .inl si] S (fun r S' => S' = S ∧ r = pf_rul (S 19) (S 18) p si n 0) := by
  refine mo_Or_rulingOver hq (Nat.le_of_ble_eq_true rfl) ?_
  intro J hT ht
  have loop : ∀ (j k : Nat) (i : Int32), k + j = n → pf_rul (S 19) (S 18) p si j k = pf_rul (S 19) (S 18) p si n 0 → i = nI k → J 2 [.inr 4, .inl p, .inl si, .inl i] [] S := by
    intro j
    induction j with
    | zero =>
      intro k i hk hx hi
      refine fx_go_ok [] 99 hT ht ?_
      refine And.intro (fun _ => ?_) (fun h => ?_)
      · exact ⟨rfl, hx⟩
      · exact absurd (by rw [hn, hi]; exact nI_le (by omega) (by omega)) h
    | succ j ih =>
      intro k i hk hx hi
      refine fx_go_ok [(2, 4)] 99 hT ht ?_
      have e : i.toNatClampNeg = k := by rw [hi, nI_clamp (by omega)]
      have hv : vp_in i 4 := by rw [hi]; exact vp_in_nI (by omega) (by omega)
      refine And.intro (fun h => ?_) (fun _ => ?_)
      · exact absurd h (by rw [hn, hi]; exact nI_ge (by omega) (by omega))
      · refine And.intro hv ?_
        refine And.intro (fun h => ?_) (fun h => ?_)
        · refine ih (k + 1) _ (by omega) ?_ (by rw [hi]; exact nI_1 k)
          rw [e] at h
          rw [pf_rul, if_neg (fun hc => h hc.1)] at hx
          exact hx
        · refine And.intro hv ?_
          refine fx_ex1 (ct_Fc_isIn hq _ _) ?_
          rw [e] at h
          refine And.intro (fun h2 => ?_) (fun h2 => ?_)
          · refine ih (k + 1) _ (by omega) ?_ (by rw [hi]; exact nI_1 k)
            rw [e] at h2
            rw [pf_rul, if_neg (fun hc => px_z_eq0.mp h2 hc.2)] at hx
            exact hx
          · refine ⟨rfl, ?_⟩
            rw [e] at h2
            rw [pf_rul, if_pos ⟨h, px_z_ne0.mp h2⟩] at hx
            rw [hi]; exact hx
  refine fx_go_ok [(2, 4)] 99 hT ht ?_
  exact loop n 0 _ (by omega) rfl rfl
theorem ct_Or_forcedSteps (hq : fx_I κ lyX.length) {k : Nat} (hk : k < 4) (fr : Int32) : MC_Or_forcedSteps κ [.inr 4, .inl (nI k), .inl fr] S (fun r S' => S' = S ∧ r = pf_fo (S 20 k) fr) := by
  refine mo_Or_forcedSteps hq (Nat.le_of_ble_eq_true rfl) ?_
  intro J hT ht
  have e : (nI k).toNatClampNeg = k := nI_clamp (by omega)
  have hv : vp_in (nI k) 4 := vp_in_nI (by omega) (by omega)
  refine fx_go_ok [] 99 hT ht ?_
  refine And.intro hv (And.intro (fun h => ?_) (fun h => ?_))
  · refine And.intro hv ?_
    rw [e] at h
    refine ⟨rfl, ?_⟩
    rw [e, pf_fo, if_neg h]
  · rw [e] at h
    refine ⟨rfl, ?_⟩
    rw [pf_fo, if_pos h]
theorem ct_Or_fixedBy (hq : fx_I κ lyX.length) {n : Nat} (hn : S 4 3 = nI n) (hb : n ≤ 4) (se : Int32) : MC_Or_fixedBy κ [.inr 4, .inl se] S (fun r S' => S' = S ∧ r = pf_fix (S 18) (S 20) se n) := by
  refine mo_Or_fixedBy hq (Nat.le_of_ble_eq_true rfl) ?_
  intro J hT ht
  have loop : ∀ (j k : Nat) (x i : Int32), k + j = n → x = pf_fix (S 18) (S 20) se k → i = nI k → J 4 [.inr 4, .inl se, .inl x, .inl i] [] S := by
    intro j
    induction j with
    | zero =>
      intro k x i hk hx hi
      refine fx_go_ok [] 99 hT ht ?_
      refine And.intro (fun _ => ?_) (fun h => ?_)
      · exact ⟨rfl, by rw [hx, show k = n by omega]⟩
      · exact absurd (by rw [hn, hi]; exact nI_le (by omega) (by omega)) h
    | succ j ih =>
      intro k x i hk hx hi
      refine fx_go_ok [(4, 4)] 99 hT ht ?_
      have e : i.toNatClampNeg = k := by rw [hi, nI_clamp (by omega)]
      have hv : vp_in i 4 := by rw [hi]; exact vp_in_nI (by omega) (by omega)
      refine And.intro (fun h => ?_) (fun _ => ?_)
      · exact absurd h (by rw [hn, hi]; exact nI_ge (by omega) (by omega))
      · refine And.intro hv ?_
        refine fx_ex1 (ct_Fc_isIn hq _ _) ?_
        refine And.intro (fun h => ?_) (fun h => ?_)
        · refine ih (k + 1) _ _ (by omega) ?_ (by rw [hi]; exact nI_1 k)
          rw [e] at h
          rw [hx, pf_fix, if_neg (px_z_eq0.mp h)]
        · subst hi
          refine fx_ex1 (ct_Or_forcedSteps hq (by omega) 0) ?_
          refine ih (k + 1) _ _ (by omega) ?_ (nI_1 k)
          rw [e] at h
          rw [hx, pf_fix, if_pos (px_z_ne0.mp h)]
  refine fx_go_ok [(4, 4)] 99 hT ht ?_
  exact loop n 0 _ _ (by omega) rfl rfl
end ORDERS
section STEPS
variable {κ : fx_K} {S : fx_S}
theorem ct_St_has (hq : fx_I κ lyX.length) (a : Int32) : MC_St_has κ [.inr 1, .inl a] S (fun r S' => S' = S ∧ r = px_z (0 ≤ a ∧ a < S 1 2)) := by
  refine mo_St_has hq (Nat.le_of_ble_eq_true rfl) ?_
  intro J hT ht
  refine fx_go_ok [] 99 hT ht ?_
  refine And.intro (fun h => ?_) (fun h => And.intro (fun h2 => ?_) (fun h2 => ?_))
  · exact And.intro (Or.inl rfl) ⟨rfl, (px_z_f (fun hn => Int32.not_lt.mpr hn.1 h)).symm⟩
  · exact And.intro (Or.inl rfl) ⟨rfl, (px_z_f (fun hn => Int32.not_lt.mpr h2 hn.2)).symm⟩
  · exact And.intro (Or.inr rfl) ⟨rfl, (px_z_t ⟨Int32.not_lt.mp h, Int32.not_le.mp h2⟩).symm⟩
theorem ct_St_all (hq : fx_I κ lyX.length) : MC_St_all κ [.inr 1] S (fun r S' => S' = S ∧ r = (1 <<< (S 1 2 &&& 31)) - 1) := by
  refine mo_St_all hq (Nat.le_of_ble_eq_true rfl) ?_
  intro J hT ht
  refine fx_go_ok [] 99 hT ht ?_
  exact ⟨rfl, rfl⟩
theorem ct_St_partWithAll (hq : fx_I κ lyX.length) (se : Int32) : MC_St_partWithAll κ [.inr 1, .inl se] S (fun r S' => S' = S ∧ r = if px_sub se (S 9 0) then 0 else if px_sub se (S 9 1) then 1 else if px_sub se (S 9 2) then 2 else -1) := by
  refine mo_St_partWithAll hq (Nat.le_of_ble_eq_true rfl) ?_
  intro J hT ht
  have fin : ∀ i : Int32, i = 3 → ¬ px_sub se (S 9 0) → ¬ px_sub se (S 9 1) → ¬ px_sub se (S 9 2) → J 2 [.inr 1, .inl se, .inl i] [] S := by
    intro i hi h0 h1 h2
    subst hi
    refine fx_go_ok [] 99 hT ht ?_
    refine And.intro (fun _ => ?_) (fun h => absurd (by decide) h)
    refine ⟨rfl, ?_⟩
    rw [if_neg h0, if_neg h1, if_neg h2]
  have two : ∀ i : Int32, i = 2 → ¬ px_sub se (S 9 0) → ¬ px_sub se (S 9 1) → J 2 [.inr 1, .inl se, .inl i] [] S := by
    intro i hi h0 h1
    subst hi
    refine fx_go_ok [(2, 3)] 99 hT ht ?_
    refine And.intro (fun h => absurd h (by decide)) (fun _ => ?_)
    refine And.intro (by unfold vp_in; decide) (And.intro (fun h => ?_) (fun h => ?_))
    · exact fin _ (by decide) h0 h1 h
    · refine ⟨rfl, ?_⟩
      rw [if_neg h0, if_neg h1]; exact (if_pos h).symm
  have one : ∀ i : Int32, i = 1 → ¬ px_sub se (S 9 0) → J 2 [.inr 1, .inl se, .inl i] [] S := by
    intro i hi h0
    subst hi
    refine fx_go_ok [(2, 3)] 99 hT ht ?_
    refine And.intro (fun h => absurd h (by decide)) (fun _ => ?_)
    refine And.intro (by unfold vp_in; decide) (And.intro (fun h => ?_) (fun h => ?_))
    · exact two _ (by decide) h0 h
    · refine ⟨rfl, ?_⟩
      rw [if_neg h0]; exact (if_pos h).symm
  have zero : ∀ i : Int32, i = 0 → J 2 [.inr 1, .inl se, .inl i] [] S := by
    intro i hi
    subst hi
    refine fx_go_ok [(2, 3)] 99 hT ht ?_
    refine And.intro (fun h => absurd h (by decide)) (fun _ => ?_)
    refine And.intro (by unfold vp_in; decide) (And.intro (fun h => ?_) (fun h => ?_))
    · exact one _ (by decide) h
    · exact ⟨rfl, (if_pos h).symm⟩
  refine fx_go_ok [(2, 3)] 99 hT ht ?_
  exact zero _ rfl
theorem ct_St_add (hq : fx_I κ lyX.length) {n p : Nat} (hn : S 1 2 = nI n) (hb : n < 8) (hp : p < 3) (it : Int32) : MC_St_add κ [.inr 1, .inl (nI p), .inl it] S (fun r S' => r = nI n ∧ S' = if it = 0 then fx_up (fx_up (fx_up S 1 2 (nI (n + 1))) 8 n (nI p)) 9 p (S 9 p ||| px_b n) else fx_up (fx_up (fx_up (fx_up S 1 2 (nI (n + 1))) 8 n (nI p)) 9 p (S 9 p ||| px_b n)) 1 3 (S 1 3 ||| px_b n)) := by
  refine mo_St_add hq (Nat.le_of_ble_eq_true rfl) ?_
  intro J hT ht
  have e : (nI n).toNatClampNeg = n := nI_clamp (by omega)
  have ep : (nI p).toNatClampNeg = p := nI_clamp (by omega)
  have hv : vp_in (nI n) 8 := vp_in_nI (by omega) (by omega)
  have hv3 : vp_in (nI p) 3 := vp_in_nI (by omega) (by omega)
  refine fx_go_ok [] 99 hT ht ?_
  refine And.intro (by rw [hn]; exact hv) ?_
  refine And.intro hv3 ?_
  refine And.intro hv3 ?_
  refine And.intro (fun h => ?_) (fun h => ?_)
  · refine ⟨hn, ?_⟩
    rw [if_pos h, hn, e, ep, nI_1]
    rfl
  · refine ⟨hn, ?_⟩
    rw [if_neg h, hn, e, ep, nI_1]
    rfl
end STEPS
