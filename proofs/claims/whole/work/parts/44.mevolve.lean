/-! the reference: an evolution -/
/-- the parts of an expression come before it; a timed one speaks of a step -/
def wfE (kd ea eb : Nat → Int32) (n : Nat) : Prop := ∀ k, k < n → (kd k = 4 → ∃ a, a < 8 ∧ ea k = nI a) ∧ (¬ kd k = 0 → ¬ kd k = 1 → ¬ kd k = 2 → ¬ kd k = 3 → ¬ kd k = 4 → ∃ a, a < k ∧ ea k = nI a) ∧ (¬ kd k = 0 → ¬ kd k = 1 → ¬ kd k = 2 → ¬ kd k = 3 → ¬ kd k = 4 → ¬ kd k = 5 → ∃ b, b < k ∧ eb k = nI b)
abbrev pm_T (S : fx_S) (ti : Int32) (tb : Nat → Int32) (k : Nat) : Int32 := pf_tr (S 3) (S 4) (S 5) (S 0 37) (S 0 38) (S 0 39) (S 0 26) ti tb k
section MDE
variable {κ : fx_K} {S : fx_S}
theorem ct_Md_judge (hq : fx_I κ lyM.length) {n : Nat} (hn : S 0 3 = nI n) (hb : n ≤ 24) (hwf : wfE (S 3) (S 4) (S 5) n) {ti : Int32} {tb : Nat → Int32} (hps : ∀ a, a < 8 → S 20 a = pf_tm ti tb (nI a)) : MC_Md_judge κ [.inr 0] S (fun _ S' => (∀ b, b ≠ 7 → S' b = S b) ∧ ∀ j, j < n → S' 7 j = px_z (bt (pm_T S ti tb n) j = true)) := by
  refine mo_Md_judge hq (Nat.le_of_ble_eq_true rfl) ?_
  intro J hT ht
  have loop : ∀ (j k : Nat) (i : Int32) (U : fx_S), k + j = n → i = nI k → (∀ b, b ≠ 7 → U b = S b) → (∀ j, j < k → U 7 j = px_z (bt (pm_T S ti tb k) j = true)) → J 2 [.inr 0, .inl i] [] U := by
    intro j
    induction j with
    | zero =>
      intro k i U hk hi hU h7
      have hk : k = n := by omega
      subst hk; subst hi
      refine fx_go_ok [] 200 hT ht ?_
      refine And.intro (fun _ => ?_) (fun h => ?_)
      · exact ⟨hU, h7⟩
      · exact absurd (show U 0 3 ≤ nI k by rw [hU 0 (by decide), hn]; exact nI_le (by omega) (by omega)) h
    | succ j ih =>
      intro k i U hk hi hU h7
      subst hi
      have e : (nI k).toNatClampNeg = k := nI_clamp (by omega)
      have hv : vp_in (nI k) 24 := vp_in_nI (by omega) (by omega)
      obtain ⟨w4, wa, wb⟩ := hwf k (by omega)
      have u0 : U 0 = S 0 := hU 0 (by decide)
      have u3 : U 3 = S 3 := hU 3 (by decide)
      have u4 : U 4 = S 4 := hU 4 (by decide)
      have u5 : U 5 = S 5 := hU 5 (by decide)
      have u20 : U 20 = S 20 := hU 20 (by decide)
      have fin : ∀ v : Int32, v = px_z (pf_ho (S 3 k) (S 4 k) (S 5 k) (S 0 37) (S 0 38) (S 0 39) (S 0 26) ti tb (pm_T S ti tb k) = true) → J 2 [.inr 0, .inl (nI k + 1)] [] (fx_up U 7 k v) := by
        intro v hv9
        refine ih (k + 1) _ _ (by omega) (nI_1 k) (fun b hb9 => ?_) (fun m hm => ?_)
        · rw [fx_up_ne _ _ _ hb9]; exact hU b hb9
        · have es := pf_tr_s (S 3) (S 4) (S 5) (S 0 37) (S 0 38) (S 0 39) (S 0 26) ti tb (k := k) (j := m) (by omega) (by omega)
          show _ = px_z (bt (pf_tr (S 3) (S 4) (S 5) (S 0 37) (S 0 38) (S 0 39) (S 0 26) ti tb (k + 1)) m = true)
          by_cases hmk : m = k
          · subst hmk
            rw [fx_up_at, hv9]
            refine px_z_congr ?_
            rw [es, if_pos rfl]
          · rw [fx_up_ne2 _ _ _ hmk, h7 m (by omega)]
            refine px_z_congr ?_
            rw [es, if_neg hmk]
      have hol : ∀ a, a < k → (U 7 a = 0 ↔ ¬ px_in (pm_T S ti tb k) (nI a)) := by
        intro a ha
        rw [h7 a ha, px_z_eq0, px_in_bt (by omega)]
      refine fx_go_ok [(2, 2)] 200 hT ht ?_
      refine And.intro (fun h => absurd (show S 0 3 ≤ nI k by rw [← u0]; exact h) (by rw [hn]; exact nI_ge (by omega) (by omega))) (fun _ => ?_)
      refine And.intro hv (And.intro hv (And.intro hv ?_))
      rw [e, u3, u4, u5]
      refine And.intro (fun h0 => ?_) (fun h0 => ?_)
      · refine And.intro hv ?_
        rw [e, u3]
        refine And.intro (fun h1 => ?_) (fun h1 => ?_)
        · refine And.intro hv ?_
          rw [e, u3]
          refine And.intro (fun h2 => ?_) (fun h2 => ?_)
          · refine And.intro hv ?_
            rw [e, u3]
            refine And.intro (fun h3 => ?_) (fun h3 => ?_)
            · refine And.intro hv ?_
              rw [e, u3]
              refine And.intro (fun h4 => ?_) (fun h4 => ?_)
              · obtain ⟨a, ha, ea⟩ := wa h0 h1 h2 h3 h4
                have eca : (nI a).toNatClampNeg = a := nI_clamp (by omega)
                have hva : vp_in (nI a) 24 := vp_in_nI (by omega) (by omega)
                refine And.intro hv ?_
                rw [e, u3, ea]
                refine And.intro (fun h5 => ?_) (fun h5 => ?_)
                · obtain ⟨b, hb9, eb⟩ := wb h0 h1 h2 h3 h4 h5
                  have ecb : (nI b).toNatClampNeg = b := nI_clamp (by omega)
                  have hvb : vp_in (nI b) 24 := vp_in_nI (by omega) (by omega)
                  refine And.intro hv ?_
                  rw [e, u3, eb]
                  refine And.intro (fun h6 => ?_) (fun h6 => ?_)
                  · have eh : pf_ho (S 3 k) (S 4 k) (S 5 k) (S 0 37) (S 0 38) (S 0 39) (S 0 26) ti tb (pm_T S ti tb k) = decide (px_in (pm_T S ti tb k) (nI a) ∨ px_in (pm_T S ti tb k) (nI b)) := by
                      rw [pf_ho, if_neg h0, if_neg h1, if_neg h2, if_neg h3, if_neg h4, if_neg h5, if_neg h6, ea, eb]
                    refine And.intro hva ?_
                    rw [eca]
                    refine And.intro (fun h9 => ?_) (fun h9 => ?_)
                    · refine And.intro (Or.inr rfl) (And.intro hv ?_)
                      rw [e]
                      refine fin _ ?_
                      rw [eh, px_z_dec, px_z_t (Or.inl (Classical.not_not.mp (fun q => h9 ((hol a ha).mpr q))))]
                    · refine And.intro hvb ?_
                      rw [ecb]
                      refine And.intro (fun h10 => ?_) (fun h10 => ?_)
                      · refine And.intro (Or.inl rfl) (And.intro hv ?_)
                        rw [e]
                        refine fin _ ?_
                        rw [eh, px_z_dec, px_z_f (fun q => q.elim ((hol a ha).mp h9) ((hol b hb9).mp h10))]
                      · refine And.intro (Or.inr rfl) (And.intro hv ?_)
                        rw [e]
                        refine fin _ ?_
                        rw [eh, px_z_dec, px_z_t (Or.inr (Classical.not_not.mp (fun q => h10 ((hol b hb9).mpr q))))]
                  · have eh : pf_ho (S 3 k) (S 4 k) (S 5 k) (S 0 37) (S 0 38) (S 0 39) (S 0 26) ti tb (pm_T S ti tb k) = decide (px_in (pm_T S ti tb k) (nI a) ∧ px_in (pm_T S ti tb k) (nI b)) := by
                      rw [pf_ho, if_neg h0, if_neg h1, if_neg h2, if_neg h3, if_neg h4, if_neg h5, if_pos h6, ea, eb]
                    refine And.intro hva ?_
                    rw [eca]
                    refine And.intro (fun h9 => ?_) (fun h9 => ?_)
                    · refine And.intro (Or.inl rfl) (And.intro hv ?_)
                      rw [e]
                      refine fin _ ?_
                      rw [eh, px_z_dec, px_z_f (fun q => (hol a ha).mp h9 q.1)]
                    · refine And.intro hvb ?_
                      rw [ecb]
                      refine And.intro (fun h10 => ?_) (fun h10 => ?_)
                      · refine And.intro (Or.inl rfl) (And.intro hv ?_)
                        rw [e]
                        refine fin _ ?_
                        rw [eh, px_z_dec, px_z_f (fun q => (hol b hb9).mp h10 q.2)]
                      · refine And.intro (Or.inr rfl) (And.intro hv ?_)
                        rw [e]
                        refine fin _ ?_
                        rw [eh, px_z_dec, px_z_t ⟨Classical.not_not.mp (fun q => h9 ((hol a ha).mpr q)), Classical.not_not.mp (fun q => h10 ((hol b hb9).mpr q))⟩]
                · have eh : pf_ho (S 3 k) (S 4 k) (S 5 k) (S 0 37) (S 0 38) (S 0 39) (S 0 26) ti tb (pm_T S ti tb k) = decide (¬ px_in (pm_T S ti tb k) (nI a)) := by
                    rw [pf_ho, if_neg h0, if_neg h1, if_neg h2, if_neg h3, if_neg h4, if_pos h5, ea]
                  refine And.intro hva ?_
                  rw [eca]
                  refine And.intro (fun h9 => ?_) (fun h9 => ?_)
                  · refine And.intro (Or.inl rfl) (And.intro hv ?_)
                    rw [e]
                    refine fin _ ?_
                    rw [eh, px_z_dec, px_z_f (fun q => h9 ((hol a ha).mpr q))]
                  · refine And.intro (Or.inr rfl) (And.intro hv ?_)
                    rw [e]
                    refine fin _ ?_
                    rw [eh, px_z_dec, px_z_t ((hol a ha).mp h9)]
              · obtain ⟨a, ha, ea⟩ := w4 h4
                have eca : (nI a).toNatClampNeg = a := nI_clamp (by omega)
                have eh : pf_ho (S 3 k) (S 4 k) (S 5 k) (S 0 37) (S 0 38) (S 0 39) (S 0 26) ti tb (pm_T S ti tb k) = decide (px_in (S 0 26) (nI a) ∧ S 5 k ≤ pf_tm ti tb (nI a)) := by
                  rw [pf_ho, if_neg h0, if_neg h1, if_neg h2, if_neg h3, if_pos h4, ea]
                rw [ea]
                refine fx_ex1 (ct_Md_in hq _ _) ?_
                rw [u0]
                refine And.intro (fun h9 => ?_) (fun h9 => ?_)
                · refine And.intro (Or.inl rfl) (And.intro hv ?_)
                  rw [e]
                  refine fin _ ?_
                  rw [eh, px_z_dec, px_z_f (fun q => px_z_eq0.mp h9 q.1)]
                · refine And.intro (vp_in_nI (by omega) (by omega)) ?_
                  rw [eca, u20, hps a ha]
                  refine And.intro (fun h10 => ?_) (fun h10 => ?_)
                  · refine And.intro (Or.inl rfl) (And.intro hv ?_)
                    rw [e]
                    refine fin _ ?_
                    rw [eh, px_z_dec, px_z_f (fun q => Int32.not_lt.mpr q.2 h10)]
                  · refine And.intro (Or.inr rfl) (And.intro hv ?_)
                    rw [e]
                    refine fin _ ?_
                    rw [eh, px_z_dec, px_z_t ⟨px_z_ne0.mp h9, Int32.not_lt.mp h10⟩]
            · refine fx_ex1 (ct_Md_in hq _ _) ?_
              refine And.intro (px_z01 _) (And.intro hv ?_)
              rw [e, u0]
              refine fin _ ?_
              rw [pf_ho, if_neg h0, if_neg h1, if_neg h2, if_pos h3, px_z_dec]
          · refine fx_ex1 (ct_Md_in hq _ _) ?_
            refine And.intro (px_z01 _) (And.intro hv ?_)
            rw [e, u0]
            refine fin _ ?_
            rw [pf_ho, if_neg h0, if_neg h1, if_pos h2, px_z_dec]
        · refine fx_ex1 (ct_Md_in hq _ _) ?_
          refine And.intro (px_z01 _) (And.intro hv ?_)
          rw [e, u0]
          refine fin _ ?_
          rw [pf_ho, if_neg h0, if_pos h1, px_z_dec]
      · refine fx_ex1 (ct_Md_in hq _ _) ?_
        refine And.intro (px_z01 _) (And.intro hv ?_)
        rw [e, u0]
        refine fin _ ?_
        rw [pf_ho, if_pos h0, px_z_dec]
  refine fx_go_ok [(2, 2)] 200 hT ht ?_
  exact loop n 0 _ _ (by omega) rfl (fun _ _ => rfl) (fun j hj => absurd hj (by omega))
theorem ct_Md_ruling (hq : fx_I κ lyM.length) {n : Nat} (hn : S 0 13 = nI n) (hb : n ≤ 4) (p : Int32) : MC_Md_ruling κ [.inr 0, .inl p] S (fun r S' => S' = S ∧ r = pf_rul (S 12) (S 11) p (S 0 40) n 0) := by
  refine mo_Md_ruling hq (Nat.le_of_ble_eq_true rfl) ?_
  intro J hT ht
  have loop : ∀ (k : Nat) (x i : Int32), k ≤ n → (k = 0 → i < 0) → (∀ m, k = m + 1 → i = nI m) → x = pf_rul (S 12) (S 11) p (S 0 40) (n - k) k → J 9 [.inr 0, .inl p, .inl x, .inl i] [] S := by
    intro k
    induction k with
    | zero =>
      intro x i hk h0 _ hx
      refine fx_go_ok [] 99 hT ht ?_
      refine And.intro (fun _ => ?_) (fun h => absurd (h0 rfl) h)
      exact ⟨rfl, hx⟩
    | succ k ih =>
      intro x i hk _ h1 hx
      have hi := h1 k rfl
      subst hi
      have e : (nI k).toNatClampNeg = k := nI_clamp (by omega)
      have hv : vp_in (nI k) 4 := vp_in_nI (by omega) (by omega)
      have nx0 : k = 0 → nI k + -1 < 0 := fun h => by subst h; decide
      have nx1 : ∀ m, k = m + 1 → nI k + -1 = nI m := fun m h => by rw [h]; exact pk_m1 m
      have un : pf_rul (S 12) (S 11) p (S 0 40) (n - k) k = if S 12 k = p ∧ px_in (S 0 40) (S 11 k) then nI k else pf_rul (S 12) (S 11) p (S 0 40) (n - (k + 1)) (k + 1) := by
        rw [show n - k = (n - (k + 1)) + 1 by omega, pf_rul]
      refine fx_go_ok [(9, 4)] 99 hT ht ?_
      refine And.intro (fun h => absurd h (nI_pos (by omega))) (fun _ => ?_)
      refine And.intro hv ?_
      rw [e]
      refine And.intro (fun h => ?_) (fun h => ?_)
      · refine ih _ _ (by omega) nx0 nx1 ?_
        rw [un, if_neg (fun q => h q.1)]; exact hx
      · refine And.intro hv ?_
        rw [e]
        refine fx_ex1 (ct_Md_in hq _ _) ?_
        refine And.intro (fun h2 => ?_) (fun h2 => ?_)
        · refine ih _ _ (by omega) nx0 nx1 ?_
          rw [un, if_neg (fun q => px_z_eq0.mp h2 q.2)]; exact hx
        · refine ih _ _ (by omega) nx0 nx1 ?_
          rw [un, if_pos ⟨h, px_z_ne0.mp h2⟩]
  refine fx_go_ok [(9, 4)] 99 hT ht ?_
  refine loop n _ _ (Nat.le_refl n) (fun h => ?_) (fun m h => ?_) ?_
  · rw [hn, h]; decide
  · rw [hn, h]; exact nI_pred m
  · rw [Nat.sub_self]
    rfl
theorem ct_Md_move (hq : fx_I κ lyM.length) {n : Nat} (hn : S 0 9 = nI n) (hb : n ≤ 12) (hcd : ∀ t, t < n → vp_in (S 10 t) 24) (mine : Int32) {dh : Int32} (hdh : ∀ t, t < n → (px_in dh (nI t) ↔ px_sub (S 8 t) mine ∧ px_sub (S 8 t) (S 0 26) ∧ ¬ S 7 (S 10 t).toNatClampNeg = 0)) : MC_Md_move κ [.inr 0, .inl mine] S (fun _ S' => S' = fx_up (fx_up S 0 41 (S 0 41 ||| pm_C (S 0 25) (S 8) dh n)) 0 40 (S 0 40 ||| ((S 0 26 &&& mine) &&& (pf_un (S 8) (pm_C (S 0 25) (S 8) dh n) n ^^^ (-1)) ||| pf_un (S 9) (pm_C (S 0 25) (S 8) dh n) n))) := by
  refine mo_Md_move hq (Nat.le_of_ble_eq_true rfl) ?_
  intro J hT ht
  have loop : ∀ (j k : Nat) (x y i : Int32) (U : fx_S), k + j = n → i = nI k → x = pf_un (S 8) (pm_C (S 0 25) (S 8) dh k) k → y = pf_un (S 9) (pm_C (S 0 25) (S 8) dh k) k → U = fx_up S 0 41 (S 0 41 ||| pm_C (S 0 25) (S 8) dh k) → J 7 [.inr 0, .inl mine, .inl x, .inl y, .inl i] [] U := by
    intro j
    induction j with
    | zero =>
      intro k x y i U hk hi hx hy hU
      have hk : k = n := by omega
      subst hk; subst hi; subst hU
      refine fx_go_ok [] 150 hT ht ?_
      refine And.intro (fun _ => ?_) (fun h => ?_)
      · show fx_up _ 0 40 ((S 0 40 ||| y) ||| ((S 0 26 &&& mine) &&& (x ^^^ (-1)))) = _
        rw [or_mv, hx, hy]
      · exact absurd (show S 0 9 ≤ nI k by rw [hn]; exact nI_le (by omega) (by omega)) h
    | succ j ih =>
      intro k x y i U hk hi hx hy hU
      subst hi
      have e : (nI k).toNatClampNeg = k := nI_clamp (by omega)
      have hv : vp_in (nI k) 12 := vp_in_nI (by omega) (by omega)
      have hd := hdh k (by omega)
      obtain ⟨ct, cs⟩ := pm_C_s (S 0 25) (S 8) dh (k := k) (by omega)
      have lo := pm_C_lo (S 0 25) (S 8) dh (k := k) (by omega)
      have nin := px_lo_in (by omega) lo
      have ub : ∀ b, b ≠ 0 → U b = S b := fun b h => by rw [hU, fx_up_ne _ _ _ h]
      have u25 : U 0 25 = S 0 25 := by rw [hU]; rfl
      have u26 : U 0 26 = S 0 26 := by rw [hU]; rfl
      have u8 : U 8 = S 8 := ub 8 (by decide)
      have u9 : U 9 = S 9 := ub 9 (by decide)
      have u10 : U 10 = S 10 := ub 10 (by decide)
      have u7 : U 7 = S 7 := ub 7 (by decide)
      have skip : ¬ (px_in dh (nI k) ∧ (¬ S 0 25 = 0 ∨ S 8 k &&& pf_un (S 8) (pm_C (S 0 25) (S 8) dh k) k = 0)) → J 7 [.inr 0, .inl mine, .inl x, .inl y, .inl (nI k + 1)] [] U := by
        intro hc
        refine ih (k + 1) _ _ _ _ (by omega) (nI_1 k) ?_ ?_ ?_
        · rw [cs hc, pf_un_skip _ nin]; exact hx
        · rw [cs hc, pf_un_skip _ nin]; exact hy
        · rw [cs hc]; exact hU
      have take : (px_in dh (nI k) ∧ (¬ S 0 25 = 0 ∨ S 8 k &&& pf_un (S 8) (pm_C (S 0 25) (S 8) dh k) k = 0)) → J 7 [.inr 0, .inl mine, .inl (x ||| S 8 k), .inl (y ||| S 9 k), .inl (nI k + 1)] [] (fx_up U 0 41 (U 0 41 ||| 1 <<< (nI k &&& 31))) := by
        intro hc
        refine ih (k + 1) _ _ _ _ (by omega) (nI_1 k) ?_ ?_ ?_
        · rw [ct hc, pf_un_take _ (by omega), hx]
        · rw [ct hc, pf_un_take _ (by omega), hy]
        · rw [ct hc, hU]
          funext a j
          by_cases ha : a = 0
          · subst ha
            by_cases hj : j = 41
            · subst hj
              rw [fx_up_at, fx_up_at, fx_up_at, or_asc]
            · rw [fx_up_ne2 _ _ _ hj, fx_up_ne2 _ _ _ hj, fx_up_ne2 _ _ _ hj]
          · rw [fx_up_ne _ _ _ ha, fx_up_ne _ _ _ ha, fx_up_ne _ _ _ ha]
      refine fx_go_ok [(7, 5)] 150 hT ht ?_
      refine And.intro (fun h => absurd (show S 0 9 ≤ nI k by rw [hU] at h; exact h) (by rw [hn]; exact nI_ge (by omega) (by omega))) (fun _ => ?_)
      refine And.intro hv ?_
      rw [e, u8]
      refine And.intro (fun h1 => ?_) (fun h1 => ?_)
      · refine And.intro (fun _ => ?_) (fun q => absurd rfl q)
        exact skip (fun q => h1 (hd.mp q.1).1)
      · refine fx_ex1 (ct_Md_isEnabled hq (by omega)) ?_
        rw [u8, u26]
        refine And.intro (fun h2 => ?_) (fun h2 => ?_)
        · refine And.intro (fun _ => ?_) (fun q => absurd rfl q)
          exact skip (fun q => px_z_eq0.mp h2 (hd.mp q.1).2.1)
        · have h2 := px_z_ne0.mp h2
          refine And.intro hv ?_
          rw [e, u10]
          refine And.intro (hcd k (by omega)) ?_
          rw [u7]
          refine And.intro (fun h3 => ?_) (fun h3 => ?_)
          · refine And.intro (fun _ => ?_) (fun q => absurd rfl q)
            exact skip (fun q => (hd.mp q.1).2.2 h3)
          · have hin := hd.mpr ⟨h1, h2, h3⟩
            refine And.intro (fun q => absurd q (by decide)) (fun _ => ?_)
            refine And.intro (fun h4 => ?_) (fun h4 => ?_)
            · have h4 : ¬ S 0 25 = 0 := by rw [← u25]; exact h4
              refine And.intro hv ?_
              rw [e, u8]
              refine And.intro hv ?_
              rw [e, u9]
              exact take ⟨hin, Or.inl h4⟩
            · have h4 : S 0 25 = 0 := by rw [← u25]; exact h4
              refine And.intro hv ?_
              rw [e, u8]
              refine And.intro (fun h5 => ?_) (fun h5 => ?_)
              · refine skip (fun q => ?_)
                rcases q.2 with q | q
                · exact q h4
                · rw [hx] at h5; exact h5 q
              · refine And.intro hv ?_
                rw [e, u8]
                refine And.intro hv ?_
                rw [e, u9]
                refine take ⟨hin, Or.inr ?_⟩
                rw [hx] at h5; exact h5
  refine fx_go_ok [(7, 5)] 150 hT ht ?_
  have C0 : pm_C (S 0 25) (S 8) dh 0 = 0 := by
    unfold pm_C
    by_cases h : S 0 25 = 0
    · rw [if_pos h]; rfl
    · rw [if_neg h]; rfl
  refine loop n 0 _ _ _ _ (by omega) rfl rfl rfl ?_
  rw [C0]
  have : S 0 41 ||| 0 = S 0 41 := by
    apply b_ext
    intro i hi
    rw [b_or, b_0, Bool.or_false]
  rw [this, fx_up_self]
end MDE
