/-! contracts of the small methods of the class -/
theorem fx_ex {α : Type} {CM : (Int32 → α → Prop) → Prop} {K : Int32 → α → Prop} (p0 : Int32 → α → Prop) (h : CM p0) (k : ∀ r S', p0 r S' → K r S') : ∃ post, CM post ∧ ∀ r S', post r S' → K r S' := ⟨p0, h, k⟩
theorem fx_ex1 {α : Type} {CM : (Int32 → α → Prop) → Prop} {K : Int32 → α → Prop} {v : Int32} {S : α} (h : CM (fun r S' => S' = S ∧ r = v)) (k : K v S) : ∃ post, CM post ∧ ∀ r S', post r S' → K r S' := ⟨_, h, fun r S' hp => by obtain ⟨rfl, rfl⟩ := hp; exact k⟩
section LEAF
variable {κ : fx_K} {S : fx_S}
theorem ct_Fc_isIn (hq : fx_I κ lyX.length) (a x : Int32) : MC_Fc_isIn κ [.inl a, .inl x] S (fun r S' => S' = S ∧ r = px_z (px_in x a)) := by
  refine mo_Fc_isIn hq (Nat.le_of_ble_eq_true rfl) ?_
  intro J hT ht
  refine fx_go_ok [] 99 hT ht ?_
  refine And.intro (fun h => ?_) (fun h => ?_)
  · exact And.intro (Or.inl rfl) ⟨rfl, (px_z_f (fun hn => hn h)).symm⟩
  · exact And.intro (Or.inr rfl) ⟨rfl, (px_z_t h).symm⟩
theorem ct_Fc_isLine (hq : fx_I κ lyX.length) (a : Int32) : MC_Fc_isLine κ [.inl a] S (fun r S' => S' = S ∧ r = px_z (0 ≤ a ∧ a < 8)) := by
  refine mo_Fc_isLine hq (Nat.le_of_ble_eq_true rfl) ?_
  intro J hT ht
  refine fx_go_ok [] 99 hT ht ?_
  refine And.intro (fun h => ?_) (fun h => And.intro (fun h2 => ?_) (fun h2 => ?_))
  · exact And.intro (Or.inl rfl) ⟨rfl, (px_z_f (fun hn => Int32.not_lt.mpr hn.1 h)).symm⟩
  · exact And.intro (Or.inl rfl) ⟨rfl, (px_z_f (fun hn => Int32.not_lt.mpr h2 hn.2)).symm⟩
  · exact And.intro (Or.inr rfl) ⟨rfl, (px_z_t ⟨Int32.not_lt.mp h, Int32.not_le.mp h2⟩).symm⟩
theorem ct_Tr_enabledIn (hq : fx_I κ lyX.length) {n : Nat} (hn : S 3 4 = nI n) (hb : n ≤ 12) (si : Int32) : MC_Tr_enabledIn κ [.inr 3, .inl si] S (fun r S' => S' = S ∧ r = pf_en (S 14) si n) := by
  refine mo_Tr_enabledIn hq (Nat.le_of_ble_eq_true rfl) ?_
  intro J hT ht
  have loop : ∀ (j k : Nat) (x i : Int32), k + j = n → x = pf_en (S 14) si k → i = nI k → J 4 [.inr 3, .inl si, .inl x, .inl i] [] S := by
    intro j
    induction j with
    | zero =>
      intro k x i hk hx hi
      refine fx_go_ok [] 99 hT ht ?_
      refine And.intro (fun _ => ?_) (fun h => ?_)
      · exact ⟨rfl, by rw [hx, show k = n by omega]⟩
      · exact absurd (by rw [hn, hi]; exact nI_le (by omega) (by omega)) h
    | succ j ih =>
      intro k x i hk hx hi
      refine fx_go_ok [(4, 4)] 99 hT ht ?_
      refine And.intro (fun h => ?_) (fun _ => ?_)
      · exact absurd h (by rw [hn, hi]; exact nI_ge (by omega) (by omega))
      · refine And.intro (by rw [hi]; exact vp_in_nI (by omega) (by omega)) ?_
        have e : i.toNatClampNeg = k := by rw [hi, nI_clamp (by omega)]
        refine And.intro (fun h => ?_) (fun h => ?_)
        · refine ih (k + 1) _ _ (by omega) ?_ (by rw [hi]; exact nI_1 k)
          rw [e] at h
          rw [hx, pf_en, if_neg h]
        · refine ih (k + 1) _ _ (by omega) ?_ (by rw [hi]; exact nI_1 k)
          rw [e] at h
          rw [hx, hi, pf_en, if_pos h]
  refine fx_go_ok [(4, 4)] 99 hT ht ?_
  exact loop n 0 _ _ (by omega) rfl rfl
end LEAF
