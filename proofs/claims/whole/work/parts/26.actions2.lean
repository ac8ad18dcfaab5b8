theorem fx_up_self (S : fx_S) (k i : Nat) : fx_up S k i (S k i) = S := by
  funext a j
  by_cases h : a = k
  · subst h
    by_cases h2 : j = i
    · subst h2; exact fx_up_at _ _ _ _
    · exact fx_up_ne2 _ _ _ h2
  · exact fx_up_ne1 _ _ _ _ h
theorem fx_row_rf (V : fx_S) (c : Nat) (f : Nat → Int32) (h : V c = f) : fx_row V c f = V := by rw [← h]; exact fx_row_self V c
theorem fx_row_put (V : fx_S) (c : Nat) (f : Nat → Int32) (h : V c = f) (i : Nat) (x : Int32) : fx_up V c i x = fx_row V c (upd f i x) := by
  have := fx_row_up V c f i x
  rw [fx_row_rf V c f h] at this
  exact this
section ACTIONS2
variable {κ : fx_K} {S : fx_S}
theorem ct_Ac_storesAt (hq : fx_I κ lyX.length) {k : Nat} (hk : k < 12) (tm : Int32) : MC_Ac_storesAt κ [.inr 5, .inl (nI k), .inl tm] S (fun r S' => S' = S ∧ r = px_z (pf_sa (S 22 k) (S 24 k) tm = true)) := by
  refine mo_Ac_storesAt hq (Nat.le_of_ble_eq_true rfl) ?_
  intro J hT ht
  have e : (nI k).toNatClampNeg = k := nI_clamp (by omega)
  have hv : vp_in (nI k) 12 := vp_in_nI (by omega) (by omega)
  refine fx_go_ok [] 99 hT ht ?_
  refine And.intro hv ?_
  rw [e]
  have yes : (S 22 k = 2 ∨ S 22 k = 7 ∨ S 22 k = 9) → (1 : Int32) = px_z (pf_sa (S 22 k) (S 24 k) tm = true) := fun h => by
    rw [pf_sa, if_pos h, px_z_t rfl]
  refine And.intro (fun h2 => ?_) (fun h2 => And.intro (fun h7 => ?_) (fun h7 => And.intro (fun h8 => ?_) (fun h8 => And.intro (fun h9 => ?_) (fun h9 => ?_))))
  · exact And.intro (Or.inr rfl) ⟨rfl, yes (Or.inl h2)⟩
  · exact And.intro (Or.inr rfl) ⟨rfl, yes (Or.inr (Or.inl h7))⟩
  · have e8 : pf_sa (S 22 k) (S 24 k) tm = decide (S 24 k ≤ tm) := by
      rw [pf_sa, if_neg (fun h => h.elim h2 (fun h => h.elim h7 (fun h => absurd (h8.symm.trans h) (by decide)))), if_pos h8]
    refine And.intro hv ?_
    rw [e]
    refine And.intro (fun h => ?_) (fun h => ?_)
    · refine And.intro (Or.inl rfl) ⟨rfl, ?_⟩
      rw [e8, px_z_dec, px_z_f (fun hc => Int32.not_lt.mpr hc h)]
    · refine And.intro (Or.inr rfl) ⟨rfl, ?_⟩
      rw [e8, px_z_dec, px_z_t (Int32.not_lt.mp h)]
  · exact And.intro (Or.inr rfl) ⟨rfl, yes (Or.inr (Or.inr h9))⟩
  · refine And.intro (Or.inl rfl) ⟨rfl, ?_⟩
    rw [pf_sa, if_neg (fun h => h.elim h2 (fun h => h.elim h7 h9)), if_neg h8]
    rfl
theorem ct_Ac_store (hq : fx_I κ lyX.length) {k : Nat} (hk : k < 12) (Re Is : Prop) [Decidable Re] [Decidable Is] (tm : Int32) : MC_Ac_store κ [.inr 5, .inl (nI k), .inl (px_z Re), .inl (px_z Is), .inl tm] S (fun _ S' => S' = fx_row (fx_up S 5 6 (pf_sto k (S 22 k) (S 24 k) Re Is tm (S 5 6, S 25)).1) 25 (pf_sto k (S 22 k) (S 24 k) Re Is tm (S 5 6, S 25)).2) := by
  refine mo_Ac_store hq (Nat.le_of_ble_eq_true rfl) ?_
  intro J hT ht
  have e : (nI k).toNatClampNeg = k := nI_clamp (by omega)
  have hv : vp_in (nI k) 12 := vp_in_nI (by omega) (by omega)
  have none : ¬ Re → ¬ (Is ∧ ¬ px_in (S 5 6) (nI k) ∧ pf_sa (S 22 k) (S 24 k) tm = true) → S = fx_row (fx_up S 5 6 (pf_sto k (S 22 k) (S 24 k) Re Is tm (S 5 6, S 25)).1) 25 (pf_sto k (S 22 k) (S 24 k) Re Is tm (S 5 6, S 25)).2 := by
    intro h1 h2
    rw [pf_sto, if_neg h1, if_neg h2, fx_up_self, fx_row_self]
  refine fx_go_ok [] 99 hT ht ?_
  refine And.intro (fun h => ?_) (fun h => ?_)
  · have h := px_z_eq0.mp h
    refine And.intro (fun h2 => ?_) (fun h2 => ?_)
    · have h2 := px_z_eq0.mp h2
      exact none h (fun hc => h2 hc.1)
    · have h2 := px_z_ne0.mp h2
      refine fx_ex1 (ct_Fc_isIn hq _ _) ?_
      refine And.intro (fun h3 => ?_) (fun h3 => ?_)
      · have h3 := px_z_ne0.mp h3
        exact none h (fun hc => hc.2.1 h3)
      · have h3 := px_z_eq0.mp h3
        refine fx_ex1 (ct_Ac_storesAt hq hk tm) ?_
        refine And.intro (fun h4 => ?_) (fun h4 => ?_)
        · have h4 := px_z_eq0.mp h4
          exact none h (fun hc => h4 hc.2.2)
        · have h4 := px_z_ne0.mp h4
          refine And.intro hv ?_
          show _ = _
          rw [e, pf_sto, if_neg h, if_pos ⟨h2, h3, h4⟩]
          exact fx_row_put (fx_up S 5 6 (S 5 6 ||| px_b k)) 25 (S 25) rfl k 0
  · have h := px_z_ne0.mp h
    show _ = _
    rw [pf_sto, if_pos h]
    exact (fx_row_rf (fx_up S 5 6 (S 5 6 &&& (px_b k ^^^ (-1)))) 25 (S 25) rfl).symm
theorem ct_Ac_isOn (hq : fx_I κ lyX.length) {k : Nat} (hk : k < 12) (Is Wa : Prop) [Decidable Is] [Decidable Wa] (tm : Int32) : MC_Ac_isOn κ [.inr 5, .inl (nI k), .inl (px_z Is), .inl (px_z Wa), .inl tm] S (fun r S' => S' = S ∧ r = px_z (pf_on (S 22 k) (S 24 k) (S 25 k) (px_in (S 5 6) (nI k)) Is Wa tm = true)) := by
  refine mo_Ac_isOn hq (Nat.le_of_ble_eq_true rfl) ?_
  intro J hT ht
  have e : (nI k).toNatClampNeg = k := nI_clamp (by omega)
  have hv : vp_in (nI k) 12 := vp_in_nI (by omega) (by omega)
  refine fx_go_ok [] 99 hT ht ?_
  refine fx_ex1 (ct_Fc_isIn hq _ _) ?_
  refine And.intro hv (And.intro hv ?_)
  rw [e]
  refine And.intro (fun h0 => ?_) (fun h0 => And.intro (fun h2 => ?_) (fun h2 => And.intro (fun h3 => ?_) (fun h3 => And.intro (fun h4 => ?_) (fun h4 => And.intro (fun h5 => ?_) (fun h5 => And.intro (fun h6 => ?_) (fun h6 => And.intro (fun h7 => ?_) (fun h7 => And.intro (fun h8 => ?_) (fun h8 => And.intro (fun h9 => ?_) (fun h9 => ?_)))))))))
  · refine And.intro (px_z01 _) ⟨rfl, ?_⟩
    rw [pf_on, if_pos h0, px_z_dec]
  · refine And.intro (px_z01 _) ⟨rfl, ?_⟩
    rw [pf_on, if_neg h0, if_pos (Or.inl h2), px_z_dec]
  · have n8 : ¬ (S 22 k = 2 ∨ S 22 k = 8) := fun h => h.elim h2 (fun h => absurd (h3.symm.trans h) (by decide))
    have e9 : pf_on (S 22 k) (S 24 k) (S 25 k) (px_in (S 5 6) (nI k)) Is Wa tm = decide (Is ∧ tm < S 24 k) := by
      rw [pf_on, if_neg h0, if_neg n8, if_pos h3]
    refine And.intro (fun h => ?_) (fun h => And.intro (fun h1 => ?_) (fun h1 => ?_))
    · refine And.intro (Or.inl rfl) ⟨rfl, ?_⟩
      rw [e9, px_z_dec, px_z_f (fun hc => px_z_eq0.mp h hc.1)]
    · refine And.intro (Or.inl rfl) ⟨rfl, ?_⟩
      rw [e9, px_z_dec, px_z_f (fun hc => Int32.not_lt.mpr h1 hc.2)]
    · refine And.intro (Or.inr rfl) ⟨rfl, ?_⟩
      rw [e9, px_z_dec, px_z_t ⟨px_z_ne0.mp h, Int32.not_le.mp h1⟩]
  · have n8 : ¬ (S 22 k = 2 ∨ S 22 k = 8) := fun h => h.elim h2 (fun h => absurd (h4.symm.trans h) (by decide))
    have e9 : pf_on (S 22 k) (S 24 k) (S 25 k) (px_in (S 5 6) (nI k)) Is Wa tm = decide (Is ∧ S 24 k ≤ tm) := by
      rw [pf_on, if_neg h0, if_neg n8, if_neg h3, if_pos h4]
    refine And.intro (fun h => ?_) (fun h => And.intro (fun h1 => ?_) (fun h1 => ?_))
    · refine And.intro (Or.inl rfl) ⟨rfl, ?_⟩
      rw [e9, px_z_dec, px_z_f (fun hc => px_z_eq0.mp h hc.1)]
    · refine And.intro (Or.inl rfl) ⟨rfl, ?_⟩
      rw [e9, px_z_dec, px_z_f (fun hc => Int32.not_lt.mpr hc.2 h1)]
    · refine And.intro (Or.inr rfl) ⟨rfl, ?_⟩
      rw [e9, px_z_dec, px_z_t ⟨px_z_ne0.mp h, Int32.not_lt.mp h1⟩]
  · have n8 : ¬ (S 22 k = 2 ∨ S 22 k = 8) := fun h => h.elim h2 (fun h => absurd (h5.symm.trans h) (by decide))
    have e9 : pf_on (S 22 k) (S 24 k) (S 25 k) (px_in (S 5 6) (nI k)) Is Wa tm = decide (Is ∧ ¬ Wa) := by
      rw [pf_on, if_neg h0, if_neg n8, if_neg h3, if_neg h4, if_pos h5]
    refine And.intro (fun h => ?_) (fun h => And.intro (fun h1 => ?_) (fun h1 => ?_))
    · refine And.intro (Or.inl rfl) ⟨rfl, ?_⟩
      rw [e9, px_z_dec, px_z_f (fun hc => px_z_eq0.mp h hc.1)]
    · refine And.intro (Or.inl rfl) ⟨rfl, ?_⟩
      rw [e9, px_z_dec, px_z_f (fun hc => hc.2 (px_z_ne0.mp h1))]
    · refine And.intro (Or.inr rfl) ⟨rfl, ?_⟩
      rw [e9, px_z_dec, px_z_t ⟨px_z_ne0.mp h, px_z_eq0.mp h1⟩]
  · have n8 : ¬ (S 22 k = 2 ∨ S 22 k = 8) := fun h => h.elim h2 (fun h => absurd (h6.symm.trans h) (by decide))
    have e9 : pf_on (S 22 k) (S 24 k) (S 25 k) (px_in (S 5 6) (nI k)) Is Wa tm = decide (Wa ∧ ¬ Is) := by
      rw [pf_on, if_neg h0, if_neg n8, if_neg h3, if_neg h4, if_neg h5, if_pos h6]
    refine And.intro (fun h => ?_) (fun h => And.intro (fun h1 => ?_) (fun h1 => ?_))
    · refine And.intro (Or.inl rfl) ⟨rfl, ?_⟩
      rw [e9, px_z_dec, px_z_f (fun hc => px_z_eq0.mp h hc.1)]
    · refine And.intro (Or.inl rfl) ⟨rfl, ?_⟩
      rw [e9, px_z_dec, px_z_f (fun hc => hc.2 (px_z_ne0.mp h1))]
    · refine And.intro (Or.inr rfl) ⟨rfl, ?_⟩
      rw [e9, px_z_dec, px_z_t ⟨px_z_ne0.mp h, px_z_eq0.mp h1⟩]
  · have n8 : ¬ (S 22 k = 2 ∨ S 22 k = 8) := fun h => h.elim h2 (fun h => absurd (h7.symm.trans h) (by decide))
    have e9 : pf_on (S 22 k) (S 24 k) (S 25 k) (px_in (S 5 6) (nI k)) Is Wa tm = decide (px_in (S 5 6) (nI k) ∧ S 24 k ≤ S 25 k) := by
      rw [pf_on, if_neg h0, if_neg n8, if_neg h3, if_neg h4, if_neg h5, if_neg h6, if_pos h7]
    refine And.intro (fun h => ?_) (fun h => And.intro hv ?_)
    · refine And.intro (Or.inl rfl) ⟨rfl, ?_⟩
      rw [e9, px_z_dec, px_z_f (fun hc => px_z_eq0.mp h hc.1)]
    · rw [e]
      refine And.intro (fun h1 => ?_) (fun h1 => ?_)
      · refine And.intro (Or.inl rfl) ⟨rfl, ?_⟩
        rw [e9, px_z_dec, px_z_f (fun hc => Int32.not_lt.mpr hc.2 h1)]
      · refine And.intro (Or.inr rfl) ⟨rfl, ?_⟩
        rw [e9, px_z_dec, px_z_t ⟨px_z_ne0.mp h, Int32.not_lt.mp h1⟩]
  · refine And.intro (px_z01 _) ⟨rfl, ?_⟩
    rw [pf_on, if_neg h0, if_pos (Or.inr h8), px_z_dec]
  · have n8 : ¬ (S 22 k = 2 ∨ S 22 k = 8) := fun h => h.elim h2 h8
    have e9 : pf_on (S 22 k) (S 24 k) (S 25 k) (px_in (S 5 6) (nI k)) Is Wa tm = decide (px_in (S 5 6) (nI k) ∧ S 25 k < S 24 k) := by
      rw [pf_on, if_neg h0, if_neg n8, if_neg h3, if_neg h4, if_neg h5, if_neg h6, if_neg h7, if_pos h9]
    refine And.intro (fun h => ?_) (fun h => And.intro hv ?_)
    · refine And.intro (Or.inl rfl) ⟨rfl, ?_⟩
      rw [e9, px_z_dec, px_z_f (fun hc => px_z_eq0.mp h hc.1)]
    · rw [e]
      refine And.intro (fun h1 => ?_) (fun h1 => ?_)
      · refine And.intro (Or.inl rfl) ⟨rfl, ?_⟩
        rw [e9, px_z_dec, px_z_f (fun hc => Int32.not_lt.mpr h1 hc.2)]
      · refine And.intro (Or.inr rfl) ⟨rfl, ?_⟩
        rw [e9, px_z_dec, px_z_t ⟨px_z_ne0.mp h, Int32.not_le.mp h1⟩]
  · have n8 : ¬ (S 22 k = 2 ∨ S 22 k = 8) := fun h => h.elim h2 h8
    refine And.intro (Or.inl rfl) ⟨rfl, ?_⟩
    rw [pf_on, if_neg h0, if_neg n8, if_neg h3, if_neg h4, if_neg h5, if_neg h6, if_neg h7, if_neg h9]
    rfl
/-- the world behind the first k actions -/
abbrev pf_aw (S : fx_S) (a : Int32 × (Nat → Int32)) : fx_S := fx_row (fx_up S 5 6 a.1) 25 a.2
theorem pf_aw_aw (S : fx_S) (a b : Int32 × (Nat → Int32)) : pf_aw (pf_aw S a) b = pf_aw S b := by
  funext x
  show fx_row (fx_up (fx_row (fx_up S 5 6 a.1) 25 a.2) 5 6 b.1) 25 b.2 x = fx_row (fx_up S 5 6 b.1) 25 b.2 x
  by_cases h : x = 25
  · subst h; rw [fx_row_at, fx_row_at]
  · rw [fx_row_ne _ _ h, fx_row_ne _ _ h]
    funext j
    by_cases h5 : x = 5
    · subst h5
      by_cases h6 : j = 6
      · subst h6; rw [fx_up_at, fx_up_at]
      · rw [fx_up_ne2 _ _ _ h6, fx_up_ne2 _ _ _ h6, fx_row_ne _ _ (by decide), fx_up_ne2 _ _ _ h6]
    · rw [fx_up_ne1 _ _ _ _ h5, fx_up_ne1 _ _ _ _ h5, fx_row_ne _ _ h, fx_up_ne1 _ _ _ _ h5]
theorem ct_Ac_workOut (hq : fx_I κ lyX.length) {n : Nat} (hn : S 5 5 = nI n) (hb : n ≤ 12) (ho : ∀ k, k < n → ∃ o, o < 8 ∧ S 21 k = nI o) (si sb : Int32) : MC_Ac_workOut κ [.inr 5, .inl si, .inl sb, .inr 7] S (fun r S' => r = (pf_act (S 21) (S 22) (S 23) (S 24) si sb (pf_rs (S 21) (S 22) (S 23) si n) (S 7) (S 5 6, S 25) n).2 &&& (pf_rs (S 21) (S 22) (S 23) si n ^^^ (-1)) ∧ S' = pf_aw S (pf_act (S 21) (S 22) (S 23) (S 24) si sb (pf_rs (S 21) (S 22) (S 23) si n) (S 7) (S 5 6, S 25) n).1) := by
  refine mo_Ac_workOut hq (Nat.le_of_ble_eq_true rfl) ?_
  intro J hT ht
  have loop : ∀ (j k : Nat) (x i : Int32) (U : fx_S), k + j = n → i = nI k → x = (pf_act (S 21) (S 22) (S 23) (S 24) si sb (pf_rs (S 21) (S 22) (S 23) si n) (S 7) (S 5 6, S 25) k).2 → U = pf_aw S (pf_act (S 21) (S 22) (S 23) (S 24) si sb (pf_rs (S 21) (S 22) (S 23) si n) (S 7) (S 5 6, S 25) k).1 → J 13 [.inr 5, .inl si, .inl sb, .inr 7, .inl (pf_rs (S 21) (S 22) (S 23) si n), .inl x, .inl i] [] U := by
    intro j
    induction j with
    | zero =>
      intro k x i U hk hi hx hU
      have hk : k = n := by omega
      subst hk; subst hi; subst hU; subst hx
      refine fx_go_ok [] 99 hT ht ?_
      refine And.intro (fun _ => ?_) (fun h => ?_)
      · exact ⟨rfl, rfl⟩
      · exact absurd (show S 5 5 ≤ nI k by rw [hn]; exact nI_le (by omega) (by omega)) h
    | succ j ih =>
      intro k x i U hk hi hx hU
      subst hi
      have e : (nI k).toNatClampNeg = k := nI_clamp (by omega)
      have hv : vp_in (nI k) 12 := vp_in_nI (by omega) (by omega)
      obtain ⟨o, ho8, hoe⟩ := ho k (by omega)
      have eo : (nI o).toNatClampNeg = o := nI_clamp (by omega)
      have hvo : vp_in (nI o) 8 := vp_in_nI (by omega) (by omega)
      have u21 : U 21 = S 21 := by rw [hU]; rfl
      have u22 : U 22 = S 22 := by rw [hU]; rfl
      have u23 : U 23 = S 23 := by rw [hU]; rfl
      have u24 : U 24 = S 24 := by rw [hU]; rfl
      have u7 : U 7 = S 7 := by rw [hU]; rfl
      have u55 : U 5 5 = S 5 5 := by rw [hU]; rfl
      have u56 : U 5 6 = (pf_act (S 21) (S 22) (S 23) (S 24) si sb (pf_rs (S 21) (S 22) (S 23) si n) (S 7) (S 5 6, S 25) k).1.1 := by rw [hU]; rfl
      have u25 : U 25 = (pf_act (S 21) (S 22) (S 23) (S 24) si sb (pf_rs (S 21) (S 22) (S 23) si n) (S 7) (S 5 6, S 25) k).1.2 := by rw [hU]; rfl
      refine fx_go_ok [(13, 7)] 99 hT ht ?_
      refine And.intro (fun h => ?_) (fun _ => ?_)
      · exact absurd (show S 5 5 ≤ nI k by rw [← u55]; exact h) (by rw [hn]; exact nI_ge (by omega) (by omega))
      · refine And.intro hv ?_
        rw [e, u21, hoe]
        refine fx_ex1 (ct_Fc_isIn hq _ _) ?_
        refine fx_ex1 (ct_Fc_isIn hq _ _) ?_
        refine And.intro hv ?_
        rw [e, u23]
        refine fx_ex1 (ct_Fc_isIn hq _ _) ?_
        refine And.intro hvo ?_
        rw [eo, u7]
        refine fx_ex _ (ct_Ac_store hq (by omega) _ _ _) ?_
        intro r0 V hV
        rw [u22, u24, u56, u25] at hV
        have hVa : V = pf_aw S (pf_act (S 21) (S 22) (S 23) (S 24) si sb (pf_rs (S 21) (S 22) (S 23) si n) (S 7) (S 5 6, S 25) (k + 1)).1 := by
          rw [hV, hU]
          refine (pf_aw_aw S _ _).trans ?_
          simp only [pf_act, hoe, eo]
        have v22 : V 22 = S 22 := by rw [hVa]; rfl
        have v23 : V 23 = S 23 := by rw [hVa]; rfl
        have v24 : V 24 = S 24 := by rw [hVa]; rfl
        have v7 : V 7 = S 7 := by rw [hVa]; rfl
        have v56 : V 5 6 = (pf_act (S 21) (S 22) (S 23) (S 24) si sb (pf_rs (S 21) (S 22) (S 23) si n) (S 7) (S 5 6, S 25) (k + 1)).1.1 := by rw [hVa]; rfl
        have v25 : V 25 = (pf_act (S 21) (S 22) (S 23) (S 24) si sb (pf_rs (S 21) (S 22) (S 23) si n) (S 7) (S 5 6, S 25) (k + 1)).1.2 := by rw [hVa]; rfl
        refine And.intro hvo ?_
        rw [eo, v7]
        refine fx_ex1 (ct_Ac_isOn hq (by omega) _ _ _) ?_
        rw [v22, v24, v56, v25]
        have eon : (pf_act (S 21) (S 22) (S 23) (S 24) si sb (pf_rs (S 21) (S 22) (S 23) si n) (S 7) (S 5 6, S 25) (k + 1)).2 = if pf_on (S 22 k) (S 24 k) ((pf_act (S 21) (S 22) (S 23) (S 24) si sb (pf_rs (S 21) (S 22) (S 23) si n) (S 7) (S 5 6, S 25) (k + 1)).1.2 k) (px_in (pf_act (S 21) (S 22) (S 23) (S 24) si sb (pf_rs (S 21) (S 22) (S 23) si n) (S 7) (S 5 6, S 25) (k + 1)).1.1 (nI k)) (px_in si (nI o)) (px_in sb (nI o)) (S 7 o) = true then x ||| (1 <<< (S 23 k &&& 31)) else x := by
          rw [hx]
          simp only [pf_act, hoe, eo]
        refine And.intro (fun h => ?_) (fun h => ?_)
        · refine ih (k + 1) _ _ _ (by omega) (nI_1 k) ?_ hVa
          rw [eon, if_neg (px_z_eq0.mp h)]
        · refine And.intro hv ?_
          rw [e, v23]
          refine ih (k + 1) _ _ _ (by omega) (nI_1 k) ?_ hVa
          rw [eon, if_pos (px_z_ne0.mp h)]
  refine fx_go_ok [(13, 7)] 99 hT ht ?_
  refine fx_ex1 (ct_Ac_resetVariables hq hn hb si) ?_
  refine loop n 0 _ _ _ (by omega) rfl rfl ?_
  show S = pf_aw S (S 5 6, S 25)
  show S = fx_row (fx_up S 5 6 (S 5 6)) 25 (S 25)
  rw [fx_up_self, fx_row_self]
end ACTIONS2
