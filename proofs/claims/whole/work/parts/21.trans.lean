section TRANS
variable {κ : fx_K} {S : fx_S}
theorem ct_Tr_dueIn (hq : fx_I κ lyX.length) {n : Nat} (hn : S 3 4 = nI n) (hb : n ≤ 12) (si tr : Int32) : MC_Tr_dueIn κ [.inr 3, .inl si, .inl tr] S (fun r S' => S' = S ∧ r = pf_due (S 16) tr (pf_en (S 14) si n) n) := by
  refine mo_Tr_dueIn hq (Nat.le_of_ble_eq_true rfl) ?_
  intro J hT ht
  have loop : ∀ (j k : Nat) (x i : Int32), k + j = n → x = pf_due (S 16) tr (pf_en (S 14) si n) k → i = nI k → J 9 [.inr 3, .inl si, .inl tr, .inl x, .inl i] [] S := by
    intro j
    induction j with
    | zero =>
      intro k x i hk hx hi
      refine fx_go_ok [] 99 hT ht ?_
      refine And.intro (fun _ => ?_) (fun h => ?_)
      · exact ⟨rfl, by rw [hx, show k = n by omega]⟩
      · exact absurd (by rw [hn, hi]; exact nI_le (by omega) (by omega)) h
    | succ j ih =>
      intro k x i hk hx hi
      refine fx_go_ok [(9, 5)] 99 hT ht ?_
      refine And.intro (fun h => ?_) (fun _ => ?_)
      · exact absurd h (by rw [hn, hi]; exact nI_ge (by omega) (by omega))
      · refine And.intro (by rw [hi]; exact vp_in_nI (by omega) (by omega)) ?_
        have e : i.toNatClampNeg = k := by rw [hi, nI_clamp (by omega)]
        refine fx_ex1 (ct_Fc_isIn hq _ _) ?_
        refine And.intro (fun h => ?_) (fun h => ?_)
        · refine ih (k + 1) _ _ (by omega) ?_ (by rw [hi]; exact nI_1 k)
          rw [e] at h
          rw [hx, pf_due, if_pos (px_z_ne0.mp h)]
        · refine ih (k + 1) _ _ (by omega) ?_ (by rw [hi]; exact nI_1 k)
          rw [e] at h
          rw [hx, hi, pf_due, if_neg (px_z_eq0.mp h)]
  refine fx_go_ok [(9, 5)] 99 hT ht ?_
  refine fx_ex1 (ct_Tr_enabledIn hq hn hb si) ?_
  exact loop n 0 _ _ (by omega) rfl rfl
theorem ct_Tr_withoutRivals (hq : fx_I κ lyX.length) {n : Nat} (hn : S 3 4 = nI n) (hb : n ≤ 12) (du : Int32) : MC_Tr_withoutRivals κ [.inr 3, .inl du] S (fun r S' => S' = S ∧ r = (pf_wr (S 14) du n).1) := by
  refine mo_Tr_withoutRivals hq (Nat.le_of_ble_eq_true rfl) ?_
  intro J hT ht
  have loop : ∀ (j k : Nat) (x y i : Int32), k + j = n → (x, y) = pf_wr (S 14) du k → i = nI k → J 7 [.inr 3, .inl du, .inl x, .inl y, .inl i] [] S := by
    intro j
    induction j with
    | zero =>
      intro k x y i hk hx hi
      refine fx_go_ok [] 99 hT ht ?_
      refine And.intro (fun _ => ?_) (fun h => ?_)
      · exact ⟨rfl, by rw [show n = k by omega, ← hx]⟩
      · exact absurd (by rw [hn, hi]; exact nI_le (by omega) (by omega)) h
    | succ j ih =>
      intro k x y i hk hx hi
      refine fx_go_ok [(7, 5)] 99 hT ht ?_
      have e : i.toNatClampNeg = k := by rw [hi, nI_clamp (by omega)]
      have hv : vp_in i 12 := by rw [hi]; exact vp_in_nI (by omega) (by omega)
      refine And.intro (fun h => ?_) (fun _ => ?_)
      · exact absurd h (by rw [hn, hi]; exact nI_ge (by omega) (by omega))
      · refine fx_ex1 (ct_Fc_isIn hq _ _) ?_
        refine And.intro (fun h => ?_) (fun h => ?_)
        · refine ih (k + 1) _ _ _ (by omega) ?_ (by rw [hi]; exact nI_1 k)
          rw [hi] at h
          rw [pf_wr, if_neg (fun hc => px_z_eq0.mp h hc.1), hx]
        · refine And.intro hv ?_
          refine And.intro (fun h2 => ?_) (fun h2 => ?_)
          · refine ih (k + 1) _ _ _ (by omega) ?_ (by rw [hi]; exact nI_1 k)
            rw [e] at h2
            rw [pf_wr, ← hx, if_neg (fun hc => h2 hc.2)]
          · refine And.intro hv ?_
            refine ih (k + 1) _ _ _ (by omega) ?_ (by rw [hi]; exact nI_1 k)
            rw [e] at h2
            rw [hi] at h
            rw [pf_wr, ← hx, if_pos ⟨px_z_ne0.mp h, h2⟩, e, hi]
  refine fx_go_ok [(7, 5)] 99 hT ht ?_
  exact loop n 0 _ _ _ (by omega) rfl rfl
theorem ct_Tr_union (hq : fx_I κ lyX.length) {n a : Nat} (ha : a = 14 ∨ a = 15) (hn : S 3 4 = nI n) (hb : n ≤ 12) (se : Int32) : MC_Tr_union κ [.inr 3, .inr a, .inl se] S (fun r S' => S' = S ∧ r = pf_un (S a) se n) := by
  refine mo_Tr_union hq (Nat.le_of_ble_eq_true rfl) ?_
  intro J hT ht
  have loop : ∀ (j k : Nat) (x i : Int32), k + j = n → x = pf_un (S a) se k → i = nI k → J 5 [.inr 3, .inr a, .inl se, .inl x, .inl i] [] S := by
    intro j
    induction j with
    | zero =>
      intro k x i hk hx hi
      refine fx_go_ok [] 99 hT ht ?_
      refine And.intro (fun _ => ?_) (fun h => ?_)
      · exact ⟨rfl, by rw [hx, show k = n by omega]⟩
      · exact absurd (by rw [hn, hi]; exact nI_le (by omega) (by omega)) h
    | succ j ih =>
      intro k x i hk hx hi
      refine fx_go_ok [(5, 5)] 99 hT ht ?_
      have e : i.toNatClampNeg = k := by rw [hi, nI_clamp (by omega)]
      refine And.intro (fun h => ?_) (fun _ => ?_)
      · exact absurd h (by rw [hn, hi]; exact nI_ge (by omega) (by omega))
      · refine fx_ex1 (ct_Fc_isIn hq _ _) ?_
        refine And.intro (fun h => ?_) (fun h => ?_)
        · refine ih (k + 1) _ _ (by omega) ?_ (by rw [hi]; exact nI_1 k)
          rw [hi] at h
          rw [hx, pf_un, if_neg (px_z_eq0.mp h)]
        · have hv : vp_in i 12 := by rw [hi]; exact vp_in_nI (by omega) (by omega)
          rcases ha with rfl | rfl
          · refine And.intro hv ?_
            refine ih (k + 1) _ _ (by omega) ?_ (by rw [hi]; exact nI_1 k)
            rw [hi] at h
            rw [hx, e, pf_un, if_pos (px_z_ne0.mp h)]
          · refine And.intro hv ?_
            refine ih (k + 1) _ _ (by omega) ?_ (by rw [hi]; exact nI_1 k)
            rw [hi] at h
            rw [hx, e, pf_un, if_pos (px_z_ne0.mp h)]
  refine fx_go_ok [(5, 5)] 99 hT ht ?_
  exact loop n 0 _ _ (by omega) rfl rfl
theorem ct_Tr_preceding (hq : fx_I κ lyX.length) {n : Nat} (hn : S 3 4 = nI n) (hb : n ≤ 12) (se : Int32) : MC_Tr_preceding κ [.inr 3, .inl se] S (fun r S' => S' = S ∧ r = pf_un (S 14) se n) := by
  refine mo_Tr_preceding hq (Nat.le_of_ble_eq_true rfl) ?_
  intro J hT ht
  refine fx_go_ok [] 99 hT ht ?_
  refine fx_ex1 (ct_Tr_union hq (Or.inl rfl) hn hb se) ?_
  exact ⟨rfl, rfl⟩
theorem ct_Tr_succeeding (hq : fx_I κ lyX.length) {n : Nat} (hn : S 3 4 = nI n) (hb : n ≤ 12) (se : Int32) : MC_Tr_succeeding κ [.inr 3, .inl se] S (fun r S' => S' = S ∧ r = pf_un (S 15) se n) := by
  refine mo_Tr_succeeding hq (Nat.le_of_ble_eq_true rfl) ?_
  intro J hT ht
  refine fx_go_ok [] 99 hT ht ?_
  refine fx_ex1 (ct_Tr_union hq (Or.inr rfl) hn hb se) ?_
  exact ⟨rfl, rfl⟩
/-- a new transition -/
theorem ct_Tr_add (hq : fx_I κ lyX.length) {n : Nat} (hn : S 3 4 = nI n) (hb : n < 12) {p : Nat} (hp : p < 3) (bf af cd : Int32) : MC_Tr_add κ [.inr 3, .inl (nI p), .inl bf, .inl af, .inl cd] S (fun r S' => r = nI n ∧ S' = fx_up (fx_up (fx_up (fx_up (fx_up S 3 4 (nI (n + 1))) 14 n bf) 15 n af) 16 n cd) 17 p (S 17 p ||| px_b n)) := by
  refine mo_Tr_add hq (Nat.le_of_ble_eq_true rfl) ?_
  intro J hT ht
  have e : (nI n).toNatClampNeg = n := nI_clamp (by omega)
  have ep : (nI p).toNatClampNeg = p := nI_clamp (by omega)
  have hv : vp_in (nI n) 12 := vp_in_nI (by omega) (by omega)
  have hv3 : vp_in (nI p) 3 := vp_in_nI (by omega) (by omega)
  refine fx_go_ok [] 99 hT ht ?_
  refine And.intro (by rw [hn]; exact hv) ?_
  refine And.intro (by rw [hn]; exact hv) ?_
  refine And.intro (by rw [hn]; exact hv) ?_
  refine And.intro hv3 ?_
  refine And.intro hv3 ?_
  refine ⟨hn, ?_⟩
  rw [hn, e, ep, nI_1]
  rfl
end TRANS
