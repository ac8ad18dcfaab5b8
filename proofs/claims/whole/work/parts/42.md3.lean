/-! the reference: expression, start, stop -/
def pm_up8 (S : fx_S) : fx_S := fx_up (fx_up (fx_up (fx_up (fx_up (fx_up (fx_up (fx_up S 0 26 0) 0 28 0) 0 29 0) 0 30 0) 0 31 0) 0 32 0) 0 33 0) 0 34 0
def pm_blank (S : fx_S) : fx_S := fx_row (fx_row (fx_row (pm_up8 S) 20 (pf_z8 (S 20) 8)) 18 (pf_z8 (S 18) 12)) 19 (pf_z8 (S 19) 12)
theorem pf_z8_0 (f : Nat → Int32) : pf_z8 f 0 = f := by funext b; unfold pf_z8; rw [if_neg (by omega)]
theorem pf_z8_s (f : Nat → Int32) (k : Nat) : upd (pf_z8 f k) k 0 = pf_z8 f (k + 1) := by
  funext b
  unfold upd pf_z8
  by_cases hbk : b = k
  · subst hbk; rw [if_pos rfl, if_pos (by omega)]
  · rw [if_neg hbk]
    by_cases hlt : b < k
    · rw [if_pos hlt, if_pos (by omega)]
    · rw [if_neg hlt, if_neg (by omega)]
theorem fx_row_row (S : fx_S) {c d : Nat} (f g : Nat → Int32) (h : c ≠ d) : fx_row (fx_row S c f) d g = fx_row (fx_row S d g) c f := by
  funext a
  by_cases ha : a = d
  · subst ha; rw [fx_row_at, fx_row_ne _ _ (Ne.symm h), fx_row_at]
  · rw [fx_row_ne _ _ ha]
    by_cases hc : a = c
    · subst hc; rw [fx_row_at, fx_row_at]
    · rw [fx_row_ne _ _ hc, fx_row_ne _ _ hc, fx_row_ne _ _ ha]
section MDC
variable {κ : fx_K} {S : fx_S}
theorem ct_Md_blank (hq : fx_I κ lyM.length) : MC_Md_blank κ [.inr 0] S (fun _ S' => S' = pm_blank S) := by
  refine mo_Md_blank hq (Nat.le_of_ble_eq_true rfl) ?_
  intro J hT ht
  have loop2 : ∀ (j k : Nat) (i : Int32) (U : fx_S), k + j = 12 → i = nI k → U = fx_row (fx_row (fx_row (pm_up8 S) 20 (pf_z8 (S 20) 8)) 18 (pf_z8 (S 18) k)) 19 (pf_z8 (S 19) k) → J 63 [.inr 0, .inl i] [] U := by
    intro j
    induction j with
    | zero =>
      intro k i U hk hi hU
      have hk : k = 12 := by omega
      subst hk; subst hi; subst hU
      refine fx_go_ok [] 99 hT ht ?_
      refine And.intro (fun _ => ?_) (fun h => absurd (by decide) h)
      exact (rfl : _ = _)
    | succ j ih =>
      intro k i U hk hi hU
      subst hi
      have e : (nI k).toNatClampNeg = k := nI_clamp (by omega)
      have hv : vp_in (nI k) 12 := vp_in_nI (by omega) (by omega)
      refine fx_go_ok [(63, 2)] 99 hT ht ?_
      refine And.intro (fun h => absurd (show nI 12 ≤ nI k from h) (nI_ge (by omega) (by omega))) (fun _ => ?_)
      refine And.intro (Or.inl rfl) (And.intro hv (And.intro hv ?_))
      refine ih (k + 1) _ _ (by omega) (nI_1 k) ?_
      rw [e, hU, fx_row_row _ _ _ (show (18 : Nat) ≠ 19 by decide), fx_row_up, pf_z8_s, fx_row_row _ _ _ (show (19 : Nat) ≠ 18 by decide), fx_row_up, pf_z8_s]
  have loop1 : ∀ (j k : Nat) (i : Int32) (U : fx_S), k + j = 8 → i = nI k → U = fx_row (pm_up8 S) 20 (pf_z8 (S 20) k) → J 42 [.inr 0, .inl i] [] U := by
    intro j
    induction j with
    | zero =>
      intro k i U hk hi hU
      have hk : k = 8 := by omega
      subst hk; subst hi
      refine fx_go_ok [(63, 2)] 99 hT ht ?_
      refine And.intro (fun _ => ?_) (fun h => absurd (by decide) h)
      refine loop2 12 0 _ _ rfl rfl ?_
      rw [pf_z8_0, pf_z8_0, hU]
      rw [fx_row_rf (fx_row (pm_up8 S) 20 (pf_z8 (S 20) 8)) 18 (S 18) rfl, fx_row_rf (fx_row (pm_up8 S) 20 (pf_z8 (S 20) 8)) 19 (S 19) rfl]
    | succ j ih =>
      intro k i U hk hi hU
      subst hi
      refine fx_go_ok [(42, 2)] 99 hT ht ?_
      refine And.intro (fun h => absurd (show nI 8 ≤ nI k from h) (nI_ge (by omega) (by omega))) (fun _ => ?_)
      refine And.intro (vp_in_nI (by omega) (by omega)) ?_
      refine ih (k + 1) _ _ (by omega) (nI_1 k) ?_
      rw [nI_clamp (by omega), hU, fx_row_up, pf_z8_s]
  refine fx_go_ok [(42, 2)] 99 hT ht ?_
  refine loop1 8 0 _ _ rfl rfl ?_
  rw [pf_z8_0]
  exact (fx_row_rf (pm_up8 S) 20 (S 20) rfl).symm
theorem ct_Md_start (hq : fx_I κ lyM.length) {n : Nat} (hn : S 0 0 = nI n) (hb : n ≤ 8) {st : Int32} (hst : st = 0 ∨ st = 1) : MC_Md_start κ [.inr 0, .inl st] S (fun r S' => if S 0 24 = 0 ∧ ¬ pf_ini (S 2) n = 0 then r = 1 ∧ S' = fx_up (fx_up (fx_up (pm_blank S) 0 24 1) 0 25 st) 0 26 (pf_ini (S 2) n) else r = 0 ∧ S' = S) := by
  refine mo_Md_start hq (Nat.le_of_ble_eq_true rfl) ?_
  intro J hT ht
  refine fx_go_ok [] 99 hT ht ?_
  refine And.intro (fun h => ?_) (fun h => ?_)
  · refine And.intro (Or.inl rfl) ?_
    show ite _ _ _
    rw [if_neg (fun hc => h hc.1)]; exact ⟨rfl, rfl⟩
  · refine fx_ex1 (ct_Md_initials hq hn hb) ?_
    refine And.intro (fun h2 => ?_) (fun h2 => ?_)
    · refine fx_ex _ (ct_Md_blank hq) ?_
      intro r V hV
      subst hV
      refine And.intro (Or.inr rfl) (And.intro hst ?_)
      refine fx_ex1 (ct_Md_initials hq (n := n) (by exact hn) hb) ?_
      refine And.intro (Or.inr rfl) ?_
      show ite _ _ _
      rw [if_pos ⟨h, h2⟩]; exact ⟨rfl, rfl⟩
    · refine And.intro (Or.inl rfl) ?_
      show ite _ _ _
      rw [if_neg (fun hc => hc.2 h2)]; exact ⟨rfl, rfl⟩
theorem ct_Md_stop (hq : fx_I κ lyM.length) : MC_Md_stop κ [.inr 0] S (fun _ S' => S' = fx_up (pm_blank S) 0 24 0) := by
  refine mo_Md_stop hq (Nat.le_of_ble_eq_true rfl) ?_
  intro J hT ht
  refine fx_go_ok [] 99 hT ht ?_
  refine fx_ex _ (ct_Md_blank hq) ?_
  intro r V hV
  subst hV
  exact And.intro (Or.inl rfl) (rfl : _ = _)
/-- a kind of at least 5, of at least 6 -/
theorem i32_kd {x : Int32} (h0 : 0 ≤ x) (h7 : ¬ (7 : Int32) < x) : ∃ j : Nat, j ≤ 7 ∧ x = nI j := by
  obtain ⟨j, hj, e⟩ := nI_le_of (n := 8) h0 (i32_lt8.mp h7) (by omega)
  exact ⟨j, by omega, e⟩
theorem ct_Md_expression (hq : fx_I κ lyM.length) {n : Nat} (hn : S 0 3 = nI n) (hb : n ≤ 24) (hdp : ∀ k, k < n → ∃ d, d ≤ 4 ∧ S 6 k = nI d) (kd a b : Int32) : MC_Md_expression κ [.inr 0, .inl kd, .inl a, .inl b] S (fun r S' => if S 0 24 = 0 ∧ n < 24 ∧ pf_al (S 0 0) (S 0 3) (S 6) kd a b = true then r = nI n ∧ S' = pm_addE S n kd a b else r = -2 ∧ S' = S) := by
  refine mo_Md_expression hq (Nat.le_of_ble_eq_true rfl) ?_
  intro J hT ht
  refine fx_go_ok [(84, 5)] 150 hT ht ?_
  refine And.intro (fun h => ?_) (fun h => And.intro (fun h2 => ?_) (fun h2 => And.intro (fun h3 => ?_) (fun h3 => And.intro (fun h4 => ?_) (fun h4 => ?_))))
  · show ite _ _ _
    rw [if_neg (fun hc => h hc.1)]; exact ⟨rfl, rfl⟩
  · show ite _ _ _
    rw [if_neg (fun hc => absurd h2 (by rw [hn]; exact nI_ge (b := 24) hc.2.1 (by omega)))]; exact ⟨rfl, rfl⟩
  · have nk : ∀ c : Int32, 0 ≤ c → ¬ kd = c := fun c hc he => Int32.not_lt.mpr (by rw [he]; exact hc) h3
    show ite _ _ _
    rw [if_neg (fun hc => by
      have h9 := hc.2.2
      rw [pf_al, if_neg (fun h => h.elim (nk 0 (by decide)) (fun h => h.elim (nk 1 (by decide)) (nk 2 (by decide)))), if_neg (nk 3 (by decide)), if_neg (nk 4 (by decide)), if_neg (nk 5 (by decide)), if_neg (fun h => h.elim (nk 6 (by decide)) (nk 7 (by decide)))] at h9
      cases h9)]
    exact ⟨rfl, rfl⟩
  · have nk : ∀ c : Int32, c ≤ 7 → ¬ kd = c := fun c hc he => Int32.not_lt.mpr (by rw [he]; exact hc) h4
    show ite _ _ _
    rw [if_neg (fun hc => by
      have h9 := hc.2.2
      rw [pf_al, if_neg (fun h => h.elim (nk 0 (by decide)) (fun h => h.elim (nk 1 (by decide)) (nk 2 (by decide)))), if_neg (nk 3 (by decide)), if_neg (nk 4 (by decide)), if_neg (nk 5 (by decide)), if_neg (fun h => h.elim (nk 6 (by decide)) (nk 7 (by decide)))] at h9
      cases h9)]
    exact ⟨rfl, rfl⟩
  · have h8 : n < 24 := by
      rw [hn] at h2
      exact Nat.not_le.mp (fun hc => h2 (nI_le (a := 24) hc (by omega)))
    have h3 := Int32.not_lt.mp h3
    obtain ⟨j, hj7, rfl⟩ := i32_kd h3 h4
    have e : (nI n).toNatClampNeg = n := nI_clamp (by omega)
    have hv : vp_in (S 0 3) 24 := by rw [hn]; exact vp_in_nI (by omega) (by omega)
    -- the end, with the depth that was found
    have tail : ∀ d : Nat, d ≤ 5 → (d ≤ 4 → pf_al (S 0 0) (S 0 3) (S 6) (nI j) a b = true ∧ nI d = pf_dep (S 6) (nI j) a b) → (¬ d ≤ 4 → ¬ pf_al (S 0 0) (S 0 3) (S 6) (nI j) a b = true) → J 84 [.inr 0, .inl (nI j), .inl a, .inl b, .inl (nI d)] [] S := by
      intro d hd5 ok bad
      refine fx_go_ok [] 99 hT ht ?_
      refine And.intro (fun h5 => ?_) (fun h5 => ?_)
      · have hd : d ≤ 4 := (nI_leI (by omega) (b := 4) (by omega)).mp h5
        obtain ⟨o1, o2⟩ := ok hd
        refine And.intro hv (And.intro hv (And.intro hv (And.intro hv ?_)))
        show ite _ _ _
        rw [if_pos ⟨h, h8, o1⟩]
        refine ⟨?_, ?_⟩
        · show S 0 3 + 1 - 1 = nI n
          rw [hn, nI_1, nI_pred]
        · show fx_up (fx_up (fx_up (fx_up (fx_up S 3 (S 0 3).toNatClampNeg (nI j)) 4 (S 0 3).toNatClampNeg a) 5 (S 0 3).toNatClampNeg b) 6 (S 0 3).toNatClampNeg (nI d)) 0 3 (S 0 3 + 1) = _
          rw [hn, e, nI_1, o2]
          rfl
      · have hd : ¬ d ≤ 4 := fun hc => h5 ((nI_leI (by omega) (b := 4) (by omega)).mpr hc)
        show ite _ _ _
        rw [if_neg (fun hc => bad hd hc.2.2)]; exact ⟨rfl, rfl⟩
    refine fx_ex1 (ct_Md_fits hq h3 a b) ?_
    have ne : ∀ c : Nat, j ≠ c → c < 2 ^ 31 → ¬ nI j = nI c := fun c hc h9 => nI_ne hc (by omega) h9
    have ne3 : j ≠ 3 → ¬ nI j = 3 := fun h => ne 3 h (by omega)
    have ne4 : j ≠ 4 → ¬ nI j = 4 := fun h => ne 4 h (by omega)
    have ne5 : j ≠ 5 → ¬ nI j = 5 := fun h => ne 5 h (by omega)
    have ne6 : j ≠ 6 → ¬ nI j = 6 := fun h => ne 6 h (by omega)
    have ne7 : j ≠ 7 → ¬ nI j = 7 := fun h => ne 7 h (by omega)
    have nlow : 5 ≤ j → ¬ (nI j = 0 ∨ nI j = 1 ∨ nI j = 2) := fun h9 hc => hc.elim (ne 0 (by omega) (by omega)) (fun hc => hc.elim (ne 1 (by omega) (by omega)) (ne 2 (by omega) (by omega)))
    refine And.intro (fun h5 => ?_) (fun h5 => ?_)
    · have h5 := px_z_ne0.mp h5
      -- kinds of their own
      refine And.intro (fun h6 => ?_) (fun h6 => ?_)
      · -- below 5
        have hj : j < 5 := (nI_ltI (by omega) (b := 5) (by omega)).mp h6
        have al : pf_al (S 0 0) (S 0 3) (S 6) (nI j) a b = true ∧ nI 0 = pf_dep (S 6) (nI j) a b := by
          refine ⟨?_, ?_⟩
          · rcases (show j = 0 ∨ j = 1 ∨ j = 2 ∨ j = 3 ∨ j = 4 by omega) with rfl | rfl | rfl | rfl | rfl
            · exact h5
            · exact h5
            · exact h5
            · exact h5
            · exact h5
          · unfold pf_dep
            rw [if_neg (ne5 (by omega)), if_neg (fun hc => hc.elim (ne6 (by omega)) (ne7 (by omega)))]
            rfl
        refine And.intro (fun _ => ?_) (fun h7 => ?_)
        · exact tail 0 (by omega) (fun _ => al) (fun hc => absurd (by omega) hc)
        · exact absurd (show nI j < nI 6 from nI_lt (by omega) (by omega)) h7
      · have hj : 5 ≤ j := Nat.not_lt.mp (fun hc => h6 (show nI j < nI 5 from nI_lt hc (by omega)))
        have hfa : 0 ≤ a ∧ a < S 0 3 := by
          rw [pm_fit, if_neg (nlow hj), if_neg (ne3 (by omega)), if_neg (ne4 (by omega))] at h5
          by_cases hc : nI j = 5
          · rw [if_pos hc] at h5; exact of_decide_eq_true h5
          · rw [if_neg hc] at h5; exact (of_decide_eq_true h5).1
        obtain ⟨ka, hka, rfl⟩ := nI_le_of (n := n) hfa.1 (by rw [← hn]; exact hfa.2) (by omega)
        have ea : (nI ka).toNatClampNeg = ka := nI_clamp (by omega)
        obtain ⟨da, hda, eda⟩ := hdp ka hka
        refine And.intro (vp_in_nI (by omega) (by omega)) ?_
        rw [ea, eda]
        refine And.intro (fun h7 => ?_) (fun h7 => ?_)
        · have hj5 : j = 5 := by
            have := (nI_ltI (by omega) (b := 6) (by omega)).mp h7
            omega
          subst hj5
          have e5 : pf_al (S 0 0) (S 0 3) (S 6) (nI 5) (nI ka) b = decide ((0 ≤ nI ka ∧ nI ka < S 0 3) ∧ S 6 (nI ka).toNatClampNeg < 4) := by
            rw [pf_al, if_neg (nlow (by omega)), if_neg (ne3 (by omega)), if_neg (ne4 (by omega)), if_pos (show nI 5 = 5 from rfl)]
          rw [nI_1]
          refine tail (da + 1) (by omega) (fun hd => ⟨?_, ?_⟩) (fun hd => ?_)
          · rw [e5, ea, eda]
            exact decide_eq_true ⟨hfa, show nI da < nI 4 from nI_lt (by omega) (by omega)⟩
          · rw [pf_dep, if_pos (show nI 5 = 5 from rfl), ea, eda, nI_1]
          · rw [e5, ea, eda]
            intro hc
            have := (nI_ltI (by omega) (b := 4) (by omega)).mp (of_decide_eq_true hc).2
            omega
        · have hj6 : 6 ≤ j := Nat.not_lt.mp (fun hc => h7 (show nI j < nI 6 from nI_lt hc (by omega)))
          have hj67 : nI j = 6 ∨ nI j = 7 := by
            rcases (show j = 6 ∨ j = 7 by omega) with rfl | rfl
            · exact Or.inl rfl
            · exact Or.inr rfl
          have hfb : 0 ≤ b ∧ b < S 0 3 := by
            rw [pm_fit, if_neg (nlow hj), if_neg (ne3 (by omega)), if_neg (ne4 (by omega)), if_neg (ne5 (by omega))] at h5
            exact (of_decide_eq_true h5).2
          obtain ⟨kb, hkb, rfl⟩ := nI_le_of (n := n) hfb.1 (by rw [← hn]; exact hfb.2) (by omega)
          have eb : (nI kb).toNatClampNeg = kb := nI_clamp (by omega)
          obtain ⟨db, hdb, edb⟩ := hdp kb hkb
          have e6 : pf_al (S 0 0) (S 0 3) (S 6) (nI j) (nI ka) (nI kb) = decide (((0 ≤ nI ka ∧ nI ka < S 0 3) ∧ S 6 (nI ka).toNatClampNeg < 4) ∧ ((0 ≤ nI kb ∧ nI kb < S 0 3) ∧ S 6 (nI kb).toNatClampNeg < 4)) := by
            rw [pf_al, if_neg (nlow hj), if_neg (ne3 (by omega)), if_neg (ne4 (by omega)), if_neg (ne5 (by omega)), if_pos hj67]
          have e7 : pf_dep (S 6) (nI j) (nI ka) (nI kb) = (if nI da < nI db then nI db else nI da) + 1 := by
            rw [pf_dep, if_neg (ne5 (by omega)), if_pos hj67, ea, eb, eda, edb]
            rfl
          have lt4 : ∀ d : Nat, d ≤ 4 → (nI d < 4 ↔ d < 4) := fun d hd => nI_ltI (by omega) (b := 4) (by omega)
          refine And.intro (vp_in_nI (by omega) (by omega)) ?_
          rw [eb, edb, nI_1]
          refine And.intro (fun h9 => ?_) (fun h9 => ?_)
          · have hlt : db < da + 1 := (nI_ltI (by omega) (by omega)).mp h9
            refine tail (da + 1) (by omega) (fun hd => ⟨?_, ?_⟩) (fun hd => ?_)
            · rw [e6, ea, eb, eda, edb]
              exact decide_eq_true ⟨⟨hfa, (lt4 da hda).mpr (by omega)⟩, hfb, (lt4 db hdb).mpr (by omega)⟩
            · rw [e7, if_neg (nI_nlt (by omega) (by omega)), nI_1]
            · rw [e6, ea, eb, eda, edb]
              intro hc
              have := (lt4 da hda).mp (of_decide_eq_true hc).1.2
              omega
          · have hge : da + 1 ≤ db := Nat.not_lt.mp (fun hc => h9 (nI_lt hc (by omega)))
            refine And.intro (vp_in_nI (by omega) (by omega)) ?_
            rw [eb, edb]
            show J 84 [.inr 0, .inl (nI j), .inl (nI ka), .inl (nI kb), .inl (nI db + 1)] [] S
            rw [nI_1]
            refine tail (db + 1) (by omega) (fun hd => ⟨?_, ?_⟩) (fun hd => ?_)
            · rw [e6, ea, eb, eda, edb]
              exact decide_eq_true ⟨⟨hfa, (lt4 da hda).mpr (by omega)⟩, hfb, (lt4 db hdb).mpr (by omega)⟩
            · rw [e7, if_pos (nI_lt (by omega) (by omega)), nI_1]
            · rw [e6, ea, eb, eda, edb]
              intro hc
              have := (lt4 db hdb).mp (of_decide_eq_true hc).2.2
              omega
    · have h5 := px_z_eq0.mp h5
      show ite _ _ _
      rw [if_neg (fun hc => h5 ?_)]
      · exact ⟨rfl, rfl⟩
      · have h9 := hc.2.2
        rcases (show j = 0 ∨ j = 1 ∨ j = 2 ∨ j = 3 ∨ j = 4 ∨ j = 5 ∨ j = 6 ∨ j = 7 by omega) with rfl | rfl | rfl | rfl | rfl | rfl | rfl | rfl
        · exact h9
        · exact h9
        · exact h9
        · exact h9
        · exact h9
        · exact decide_eq_true (of_decide_eq_true (p := (0 ≤ a ∧ a < S 0 3) ∧ S 6 a.toNatClampNeg < 4) h9).1
        · have h9 := of_decide_eq_true (p := ((0 ≤ a ∧ a < S 0 3) ∧ S 6 a.toNatClampNeg < 4) ∧ ((0 ≤ b ∧ b < S 0 3) ∧ S 6 b.toNatClampNeg < 4)) h9
          exact decide_eq_true ⟨h9.1.1, h9.2.1⟩
        · have h9 := of_decide_eq_true (p := ((0 ≤ a ∧ a < S 0 3) ∧ S 6 a.toNatClampNeg < 4) ∧ ((0 ≤ b ∧ b < S 0 3) ∧ S 6 b.toNatClampNeg < 4)) h9
          exact decide_eq_true ⟨h9.1.1, h9.2.1⟩
end MDC
