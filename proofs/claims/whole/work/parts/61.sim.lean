/-! a call of building keeps the relation, and both answer alike -/
def RR (X M : fx_S) : Prop := ∃ nS nE nT nO nA, RS X M nS nE nT nO nA ∧ RD X M nS
theorem px_sub_or_r {a b : Int32} (c : Int32) (h : px_sub a b) : px_sub a (b ||| c) := px_sub_tr h (px_sub_l b c)
theorem RD_of {X M X' M' : fx_S} {nS nS' : Nat} (h : RD X M nS) (hn : nS ≤ nS') (x0 : ∀ j, 7 ≤ j → X' 0 j = X 0 j) (x7 : X' 7 = X 7) (x56 : X' 5 6 = X 5 6) (x25 : X' 25 = X 25) (m0 : ∀ j, 24 ≤ j → M' 0 j = M 0 j) (m18 : M' 18 = M 18) (m19 : M' 19 = M 19) (m20 : M' 20 = M 20) : RD X' M' nS' := by
  unfold RD at h ⊢
  rw [x0 7 (by decide), x0 8 (by decide), x0 9 (by decide), x0 10 (by decide), x0 11 (by decide), x0 12 (by decide), x0 13 (by decide), x0 14 (by decide), x0 15 (by decide), x0 16 (by decide), x7, x56, x25, m0 24 (by decide), m0 25 (by decide), m0 26 (by decide), m0 28 (by decide), m0 29 (by decide), m0 30 (by decide), m0 31 (by decide), m0 32 (by decide), m0 33 (by decide), m0 34 (by decide), m18, m19, m20]
  obtain ⟨a1, a2, a3, a4, a5, a6, a7, a8, a9, a10, a11, a12, a13⟩ := h
  exact ⟨a1, a2, a3, a4, a5, a6, a7, a8, a9, a10, a11, px_lo_up hn a12, a13⟩
theorem sim_step {X M X' M' : fx_S} {nS nE nT nO nA : Nat} (hs : RS X M nS nE nT nO nA) (hd : RD X M nS) {part it r r' : Int32} (px : if X 0 7 = 0 ∧ nS < 8 ∧ 0 ≤ part ∧ part < 3 then r = nI nS ∧ X' = pf_addS X nS part it else r = -2 ∧ X' = X) (pm : if M 0 24 = 0 ∧ nS < 8 ∧ 0 ≤ part ∧ part < 3 then r' = nI nS ∧ M' = pm_addS M nS part it else r' = -2 ∧ M' = M) : r = r' ∧ RR X' M' := by
  have e7 : X 0 7 = M 0 24 := hd.1
  rw [e7] at px
  by_cases hc : M 0 24 = 0 ∧ nS < 8 ∧ 0 ≤ part ∧ part < 3
  · rw [if_pos hc] at px pm
    obtain ⟨p1, p2⟩ := px
    obtain ⟨q1, q2⟩ := pm
    obtain ⟨p, hp, rfl⟩ := nI_le_of (n := 3) hc.2.2.1 hc.2.2.2 (by omega)
    have ep : (nI p).toNatClampNeg = p := nI_clamp (by omega)
    have hn8 := hc.2.1
    -- the cells behind it
    have xb : ∀ b, b ≠ 1 → b ≠ 8 → b ≠ 9 → X' b = X b := by
      intro b h1 h8 h9
      rw [p2, pf_addS]
      by_cases hit : it = 0
      · rw [if_pos hit, fx_up_ne _ _ _ h9, fx_up_ne _ _ _ h8, fx_up_ne _ _ _ h1]
      · rw [if_neg hit, fx_up_ne _ _ _ h1, fx_up_ne _ _ _ h9, fx_up_ne _ _ _ h8, fx_up_ne _ _ _ h1]
    have x8 : X' 8 = upd (X 8) nS (nI p) := by
      rw [p2, pf_addS]
      by_cases hit : it = 0
      · rw [if_pos hit, fx_up_ne _ _ _ (by decide), fx_up_row, fx_up_ne _ _ _ (by decide)]
      · rw [if_neg hit, fx_up_ne _ _ _ (by decide), fx_up_ne _ _ _ (by decide), fx_up_row, fx_up_ne _ _ _ (by decide)]
    have x9 : ∀ q, X' 9 q = if q = p then X 9 p ||| px_b nS else X 9 q := by
      intro q
      rw [p2, pf_addS, ep]
      have e9 : fx_up (fx_up (fx_up X 1 2 (nI (nS + 1))) 8 nS (nI p)) 9 p (X 9 p ||| px_b nS) 9 q = if q = p then X 9 p ||| px_b nS else X 9 q := by
        by_cases hqp : q = p
        · subst hqp; rw [fx_up_at, if_pos rfl]
        · rw [fx_up_ne2 _ _ _ hqp, if_neg hqp, fx_up_ne1 _ _ _ _ (by decide), fx_up_ne1 _ _ _ _ (by decide)]
      by_cases hit : it = 0
      · rw [if_pos hit]; exact e9
      · rw [if_neg hit, fx_up_ne1 _ _ _ _ (by decide)]; exact e9
    have x12 : X' 1 2 = nI (nS + 1) := by
      rw [p2, pf_addS]
      by_cases hit : it = 0
      · rw [if_pos hit]; rfl
      · rw [if_neg hit]; rfl
    have x13 : X' 1 3 = if it = 0 then X 1 3 else X 1 3 ||| px_b nS := by
      rw [p2, pf_addS]
      by_cases hit : it = 0
      · rw [if_pos hit, if_pos hit]; rfl
      · rw [if_neg hit, if_neg hit]; rfl
    have mb : ∀ b, b ≠ 0 → b ≠ 1 → b ≠ 2 → M' b = M b := fun b h0 h1 h2 => by
      rw [q2, pm_addS, fx_up_ne _ _ _ h0, fx_up_ne _ _ _ h2, fx_up_ne _ _ _ h1]
    have m1 : M' 1 = upd (M 1) nS (nI p) := by
      rw [q2, pm_addS, fx_up_ne _ _ _ (by decide), fx_up_ne _ _ _ (by decide), fx_up_row]
    have m2 : M' 2 = upd (M 2) nS it := by
      rw [q2, pm_addS, fx_up_ne _ _ _ (by decide), fx_up_row, fx_up_ne _ _ _ (by decide)]
    have m00 : M' 0 0 = nI (nS + 1) := by rw [q2]; rfl
    have m0 : ∀ j, j ≠ 0 → M' 0 j = M 0 j := fun j hj => by
      rw [q2, pm_addS, fx_up_ne2 _ _ _ hj, fx_up_ne1 _ _ _ _ (by decide), fx_up_ne1 _ _ _ _ (by decide)]
    refine ⟨p1.trans q1.symm, nS + 1, nE, nT, nO, nA, ?_, ?_⟩
    · obtain ⟨⟨s1, s2, s3⟩, ⟨e1, e2, e3⟩, ⟨t1, t2, t3⟩, ⟨o1, o2, o3⟩, ⟨a1, a2, a3⟩, ⟨w8, w10, w11, w12, w13, w14, w15, w16, w18, w19, w20, w21, w22, w23, w24⟩, ⟨g9, g17, g3⟩, gp, ge, gt, go, ga⟩ := hs
      have lo8 : ∀ t, t < nT → px_lo nS (M 8 t) := fun t ht => by
        obtain ⟨-, -, q, hq, hs⟩ := gt t ht
        exact px_lo_sub (px_sub_or.mp hs).1 (pf_part_lo (M 1) (nI q) nS (by omega))
      have mp : ∀ q, q < 3 → rl_P M' (nS + 1) q = if q = p then rl_P M nS p ||| px_b nS else rl_P M nS q := by
        intro q hq
        unfold rl_P
        rw [m1, pf_part, pk_us, pf_part_congr (nI q) nS (fun k hk => upd_lt hk)]
        by_cases hpq : q = p
        · subst hpq; rw [if_pos rfl, if_pos rfl]
        · rw [if_neg hpq, if_neg (nI_ne (fun h => hpq h.symm) (by omega) (by omega))]
      have grow : ∀ (x : Int32) q, q < 3 → px_sub x (rl_P M nS q) → px_sub x (rl_P M' (nS + 1) q) := by
        intro x q hq hx
        rw [mp q hq]
        by_cases hpq : q = p
        · subst hpq; rw [if_pos rfl]; exact px_sub_or_r _ hx
        · rw [if_neg hpq]; exact hx
      refine ⟨⟨x12, m00, by omega⟩, ⟨?_, ?_, e3⟩, ⟨?_, ?_, t3⟩, ⟨?_, ?_, o3⟩, ⟨?_, ?_, a3⟩, ⟨?_, ?_, ?_, ?_, ?_, ?_, ?_, ?_, ?_, ?_, ?_, ?_, ?_, ?_, ?_⟩, ⟨?_, ?_, ?_⟩, ?_, ?_, ?_, ?_, ?_⟩
      · rw [xb 2 (by decide) (by decide) (by decide)]; exact e1
      · rw [m0 3 (by decide)]; exact e2
      · rw [xb 3 (by decide) (by decide) (by decide)]; exact t1
      · rw [m0 9 (by decide)]; exact t2
      · rw [xb 4 (by decide) (by decide) (by decide)]; exact o1
      · rw [m0 13 (by decide)]; exact o2
      · rw [xb 5 (by decide) (by decide) (by decide)]; exact a1
      · rw [m0 17 (by decide)]; exact a2
      · rw [x8, m1, w8]
      · rw [xb 10 (by decide) (by decide) (by decide), mb 3 (by decide) (by decide) (by decide)]; exact w10
      · rw [xb 11 (by decide) (by decide) (by decide), mb 4 (by decide) (by decide) (by decide)]; exact w11
      · rw [xb 12 (by decide) (by decide) (by decide), mb 5 (by decide) (by decide) (by decide)]; exact w12
      · rw [xb 13 (by decide) (by decide) (by decide), mb 6 (by decide) (by decide) (by decide)]; exact w13
      · rw [xb 14 (by decide) (by decide) (by decide), mb 8 (by decide) (by decide) (by decide)]; exact w14
      · rw [xb 15 (by decide) (by decide) (by decide), mb 9 (by decide) (by decide) (by decide)]; exact w15
      · rw [xb 16 (by decide) (by decide) (by decide), mb 10 (by decide) (by decide) (by decide)]; exact w16
      · rw [xb 18 (by decide) (by decide) (by decide), mb 11 (by decide) (by decide) (by decide)]; exact w18
      · rw [xb 19 (by decide) (by decide) (by decide), mb 12 (by decide) (by decide) (by decide)]; exact w19
      · rw [xb 20 (by decide) (by decide) (by decide), mb 13 (by decide) (by decide) (by decide)]; exact w20
      · rw [xb 21 (by decide) (by decide) (by decide), mb 14 (by decide) (by decide) (by decide)]; exact w21
      · rw [xb 22 (by decide) (by decide) (by decide), mb 15 (by decide) (by decide) (by decide)]; exact w22
      · rw [xb 23 (by decide) (by decide) (by decide), mb 16 (by decide) (by decide) (by decide)]; exact w23
      · rw [xb 24 (by decide) (by decide) (by decide), mb 17 (by decide) (by decide) (by decide)]; exact w24
      · intro q hq
        rw [x9 q, mp q hq, g9 p hp, g9 q hq]
      · intro q hq
        rw [xb 17 (by decide) (by decide) (by decide), mb 8 (by decide) (by decide) (by decide), g17 q hq, x9 q]
        refine pf_en_congr nT (fun t ht => ?_)
        by_cases hpq : q = p
        · subst hpq; rw [if_pos rfl]; exact (px_sub_b (by omega) (lo8 t ht)).symm
        · rw [if_neg hpq]
      · rw [x13, m2, pf_ini, pk_us, pf_ini_congr nS (fun k hk => upd_lt hk), g3]
      · intro k hk
        rw [m1]
        by_cases hkn : k = nS
        · subst hkn; exact ⟨p, hp, pk_us⟩
        · rw [pk_un hkn]; exact gp k (by omega)
      · rw [mb 3 (by decide) (by decide) (by decide), mb 4 (by decide) (by decide) (by decide), mb 5 (by decide) (by decide) (by decide), mb 6 (by decide) (by decide) (by decide)]; exact ge
      · intro t ht
        rw [mb 8 (by decide) (by decide) (by decide), mb 9 (by decide) (by decide) (by decide), mb 10 (by decide) (by decide) (by decide)]
        obtain ⟨h1, h2, q, hq, h3⟩ := gt t ht
        exact ⟨h1, h2, q, hq, grow _ q hq h3⟩
      · intro k hk
        rw [mb 13 (by decide) (by decide) (by decide)]
        rcases go k hk with h | ⟨q, hq, h⟩
        · exact Or.inl h
        · exact Or.inr ⟨q, hq, grow _ q hq h⟩
      · rw [mb 14 (by decide) (by decide) (by decide), mb 16 (by decide) (by decide) (by decide)]; exact ga
    · refine RD_of hd (Nat.le_succ nS) ?_ ?_ ?_ ?_ ?_ ?_ ?_ ?_
      · intro j _; rw [xb 0 (by decide) (by decide) (by decide)]
      · exact xb 7 (by decide) (by decide) (by decide)
      · rw [xb 5 (by decide) (by decide) (by decide)]
      · exact xb 25 (by decide) (by decide) (by decide)
      · intro j hj; exact m0 j (by omega)
      · exact mb 18 (by decide) (by decide) (by decide)
      · exact mb 19 (by decide) (by decide) (by decide)
      · exact mb 20 (by decide) (by decide) (by decide)
  · rw [if_neg hc] at px pm
    obtain ⟨p1, rfl⟩ := px
    obtain ⟨q1, rfl⟩ := pm
    exact ⟨p1.trans q1.symm, nS, nE, nT, nO, nA, hs, hd⟩
theorem pf_al_wf {st ex : Int32} {dp : Nat → Int32} {kd a b : Int32} {nS nE : Nat} (hst : st = nI nS) (hS : nS ≤ 8) (hex : ex = nI nE) (hE : nE ≤ 24) (hdp : ∀ k, k < nE → ∃ d, d ≤ 4 ∧ dp k = nI d) (h : pf_al st ex dp kd a b = true) : (kd = 4 → ∃ x, x < 8 ∧ a = nI x) ∧ (¬ kd = 0 → ¬ kd = 1 → ¬ kd = 2 → ¬ kd = 3 → ¬ kd = 4 → ∃ x, x < nE ∧ a = nI x) ∧ (¬ kd = 0 → ¬ kd = 1 → ¬ kd = 2 → ¬ kd = 3 → ¬ kd = 4 → ¬ kd = 5 → ∃ x, x < nE ∧ b = nI x) ∧ ∃ d, d ≤ 4 ∧ pf_dep dp kd a b = nI d := by
  subst hst; subst hex
  have low : (kd = 0 ∨ kd = 1 ∨ kd = 2 ∨ kd = 3 ∨ kd = 4) → ∃ d, d ≤ 4 ∧ pf_dep dp kd a b = nI d := by
    intro hk
    refine ⟨0, by omega, ?_⟩
    unfold pf_dep
    rw [if_neg (by rcases hk with rfl | rfl | rfl | rfl | rfl <;> decide), if_neg (by rcases hk with rfl | rfl | rfl | rfl | rfl <;> decide)]
    rfl
  have lt4 : ∀ k, k < nE → dp k < 4 → ∃ d, d < 4 ∧ dp k = nI d := fun k hk hl => by
    obtain ⟨d, h1, h2⟩ := hdp k hk
    rw [h2] at hl
    exact ⟨d, (nI_ltI (by omega) (b := 4) (by omega)).mp hl, h2⟩
  rw [pf_al] at h
  by_cases h0 : kd = 0 ∨ kd = 1 ∨ kd = 2
  · refine ⟨fun h4 => ?_, fun n0 n1 n2 => ?_, fun n0 n1 n2 => ?_, low ?_⟩
    · subst h4; exact absurd h0 (by decide)
    · exact absurd h0 (fun q => q.elim n0 (fun q => q.elim n1 n2))
    · exact absurd h0 (fun q => q.elim n0 (fun q => q.elim n1 n2))
    · exact h0.imp id (fun q => q.imp id Or.inl)
  · rw [if_neg h0] at h
    by_cases h3 : kd = 3
    · refine ⟨fun h4 => ?_, fun n0 n1 n2 n3 => absurd h3 n3, fun n0 n1 n2 n3 => absurd h3 n3, low (Or.inr (Or.inr (Or.inr (Or.inl h3))))⟩
      subst h4; exact absurd h3 (by decide)
    · rw [if_neg h3] at h
      by_cases h4 : kd = 4
      · rw [if_pos h4] at h
        have h := of_decide_eq_true h
        refine ⟨fun _ => ?_, fun n0 n1 n2 n3 n4 => absurd h4 n4, fun n0 n1 n2 n3 n4 => absurd h4 n4, low (Or.inr (Or.inr (Or.inr (Or.inr h4))))⟩
        obtain ⟨x, hx, e⟩ := nI_le_of (n := nS) h.1.1 h.1.2 (by omega)
        exact ⟨x, by omega, e⟩
      · rw [if_neg h4] at h
        by_cases h5 : kd = 5
        · rw [if_pos h5] at h
          have h := of_decide_eq_true h
          obtain ⟨x, hx, e⟩ := nI_le_of (n := nE) h.1.1 h.1.2 (by omega)
          refine ⟨fun q => absurd q h4, fun _ _ _ _ _ => ⟨x, hx, e⟩, fun _ _ _ _ _ n5 => absurd h5 n5, ?_⟩
          have hl := h.2
          rw [e, nI_clamp (by omega)] at hl
          obtain ⟨d, d1, d2⟩ := lt4 x hx hl
          refine ⟨d + 1, by omega, ?_⟩
          rw [pf_dep, if_pos h5, e, nI_clamp (by omega), d2, nI_1]
        · rw [if_neg h5] at h
          by_cases h6 : kd = 6 ∨ kd = 7
          · rw [if_pos h6] at h
            have h := of_decide_eq_true h
            obtain ⟨x, hx, e⟩ := nI_le_of (n := nE) h.1.1.1 h.1.1.2 (by omega)
            obtain ⟨y, hy, e'⟩ := nI_le_of (n := nE) h.2.1.1 h.2.1.2 (by omega)
            refine ⟨fun q => absurd q h4, fun _ _ _ _ _ => ⟨x, hx, e⟩, fun _ _ _ _ _ _ => ⟨y, hy, e'⟩, ?_⟩
            have hl := h.1.2
            have hl' := h.2.2
            rw [e, nI_clamp (by omega)] at hl
            rw [e', nI_clamp (by omega)] at hl'
            obtain ⟨d, d1, d2⟩ := lt4 x hx hl
            obtain ⟨d', d1', d2'⟩ := lt4 y hy hl'
            rw [pf_dep, if_neg h5, if_pos h6, e, e', nI_clamp (by omega), nI_clamp (by omega), d2, d2']
            unfold fx_max
            by_cases hlt : nI d < nI d'
            · rw [if_pos hlt]; exact ⟨d' + 1, by omega, nI_1 d'⟩
            · rw [if_neg hlt]; exact ⟨d + 1, by omega, nI_1 d⟩
          · rw [if_neg h6] at h; cases h
theorem sim_expression {X M X' M' : fx_S} {nS nE nT nO nA : Nat} (hs : RS X M nS nE nT nO nA) (hd : RD X M nS) {kd a b r r' : Int32} (px : if X 0 7 = 0 ∧ nE < 24 ∧ pf_allow X kd a b = true then r = nI nE ∧ X' = pf_addE X nE kd a b else r = -2 ∧ X' = X) (pm : if M 0 24 = 0 ∧ nE < 24 ∧ pf_al (M 0 0) (M 0 3) (M 6) kd a b = true then r' = nI nE ∧ M' = pm_addE M nE kd a b else r' = -2 ∧ M' = M) : r = r' ∧ RR X' M' := by
  have e7 : X 0 7 = M 0 24 := hd.1
  have eal : pf_allow X kd a b = pf_al (M 0 0) (M 0 3) (M 6) kd a b := by
    rw [pf_al_X, hs.1.1, hs.1.2.1, hs.2.1.1, hs.2.1.2.1, hs.2.2.2.2.2.1.2.2.2.2.1]
  rw [e7, eal] at px
  by_cases hc : M 0 24 = 0 ∧ nE < 24 ∧ pf_al (M 0 0) (M 0 3) (M 6) kd a b = true
  · rw [if_pos hc] at px pm
    obtain ⟨p1, p2⟩ := px
    obtain ⟨q1, q2⟩ := pm
    have xb : ∀ b, b ≠ 2 → b ≠ 10 → b ≠ 11 → b ≠ 12 → b ≠ 13 → X' b = X b := fun b h1 h2 h3 h4 h5 => by
      rw [p2, pf_addE, fx_up_ne _ _ _ h5, fx_up_ne _ _ _ h4, fx_up_ne _ _ _ h3, fx_up_ne _ _ _ h2, fx_up_ne _ _ _ h1]
    have x24 : X' 2 4 = nI (nE + 1) := by rw [p2]; rfl
    have x10 : X' 10 = upd (X 10) nE kd := by rw [p2, pf_addE, fx_up_ne _ _ _ (by decide), fx_up_ne _ _ _ (by decide), fx_up_ne _ _ _ (by decide), fx_up_row, fx_up_ne _ _ _ (by decide)]
    have x11 : X' 11 = upd (X 11) nE a := by rw [p2, pf_addE, fx_up_ne _ _ _ (by decide), fx_up_ne _ _ _ (by decide), fx_up_row, fx_up_ne _ _ _ (by decide), fx_up_ne _ _ _ (by decide)]
    have x12 : X' 12 = upd (X 12) nE b := by rw [p2, pf_addE, fx_up_ne _ _ _ (by decide), fx_up_row, fx_up_ne _ _ _ (by decide), fx_up_ne _ _ _ (by decide), fx_up_ne _ _ _ (by decide)]
    have x13 : X' 13 = upd (X 13) nE (pf_dep (X 13) kd a b) := by rw [p2, pf_addE, fx_up_row, fx_up_ne _ _ _ (by decide), fx_up_ne _ _ _ (by decide), fx_up_ne _ _ _ (by decide), fx_up_ne _ _ _ (by decide)]
    have mb : ∀ b, b ≠ 0 → b ≠ 3 → b ≠ 4 → b ≠ 5 → b ≠ 6 → M' b = M b := fun b h0 h1 h2 h3 h4 => by
      rw [q2, pm_addE, fx_up_ne _ _ _ h0, fx_up_ne _ _ _ h4, fx_up_ne _ _ _ h3, fx_up_ne _ _ _ h2, fx_up_ne _ _ _ h1]
    have m03 : M' 0 3 = nI (nE + 1) := by rw [q2]; rfl
    have m0 : ∀ j, j ≠ 3 → M' 0 j = M 0 j := fun j hj => by
      rw [q2, pm_addE, fx_up_ne2 _ _ _ hj, fx_up_ne1 _ _ _ _ (by decide), fx_up_ne1 _ _ _ _ (by decide), fx_up_ne1 _ _ _ _ (by decide), fx_up_ne1 _ _ _ _ (by decide)]
    have m3 : M' 3 = upd (M 3) nE kd := by rw [q2, pm_addE, fx_up_ne _ _ _ (by decide), fx_up_ne _ _ _ (by decide), fx_up_ne _ _ _ (by decide), fx_up_ne _ _ _ (by decide), fx_up_row]
    have m4 : M' 4 = upd (M 4) nE a := by rw [q2, pm_addE, fx_up_ne _ _ _ (by decide), fx_up_ne _ _ _ (by decide), fx_up_ne _ _ _ (by decide), fx_up_row, fx_up_ne _ _ _ (by decide)]
    have m5 : M' 5 = upd (M 5) nE b := by rw [q2, pm_addE, fx_up_ne _ _ _ (by decide), fx_up_ne _ _ _ (by decide), fx_up_row, fx_up_ne _ _ _ (by decide), fx_up_ne _ _ _ (by decide)]
    have m6 : M' 6 = upd (M 6) nE (pf_dep (M 6) kd a b) := by rw [q2, pm_addE, fx_up_ne _ _ _ (by decide), fx_up_row, fx_up_ne _ _ _ (by decide), fx_up_ne _ _ _ (by decide), fx_up_ne _ _ _ (by decide)]
    refine ⟨p1.trans q1.symm, nS, nE + 1, nT, nO, nA, ?_, ?_⟩
    · obtain ⟨⟨s1, s2, s3⟩, ⟨e1, e2, e3⟩, ⟨t1, t2, t3⟩, ⟨o1, o2, o3⟩, ⟨a1, a2, a3⟩, ⟨w8, w10, w11, w12, w13, w14, w15, w16, w18, w19, w20, w21, w22, w23, w24⟩, ⟨g9, g17, g3⟩, gp, ⟨ge, gdp⟩, gt, go, ga⟩ := hs
      obtain ⟨f1, f2, f3, f4⟩ := pf_al_wf s2 s3 e2 e3 gdp hc.2.2
      have rp : rl_P M' nS = rl_P M nS := by
        funext q
        unfold rl_P
        rw [mb 1 (by decide) (by decide) (by decide) (by decide) (by decide)]
      refine ⟨⟨?_, ?_, s3⟩, ⟨x24, m03, by omega⟩, ⟨?_, ?_, t3⟩, ⟨?_, ?_, o3⟩, ⟨?_, ?_, a3⟩, ⟨?_, ?_, ?_, ?_, ?_, ?_, ?_, ?_, ?_, ?_, ?_, ?_, ?_, ?_, ?_⟩, ⟨?_, ?_, ?_⟩, ?_, ⟨?_, ?_⟩, ?_, ?_, ?_⟩
      · rw [xb 1 (by decide) (by decide) (by decide) (by decide) (by decide)]; exact s1
      · rw [m0 0 (by decide)]; exact s2
      · rw [xb 3 (by decide) (by decide) (by decide) (by decide) (by decide)]; exact t1
      · rw [m0 9 (by decide)]; exact t2
      · rw [xb 4 (by decide) (by decide) (by decide) (by decide) (by decide)]; exact o1
      · rw [m0 13 (by decide)]; exact o2
      · rw [xb 5 (by decide) (by decide) (by decide) (by decide) (by decide)]; exact a1
      · rw [m0 17 (by decide)]; exact a2
      · rw [xb 8 (by decide) (by decide) (by decide) (by decide) (by decide), mb 1 (by decide) (by decide) (by decide) (by decide) (by decide)]; exact w8
      · rw [x10, m3, w10]
      · rw [x11, m4, w11]
      · rw [x12, m5, w12]
      · rw [x13, m6, w13]
      · rw [xb 14 (by decide) (by decide) (by decide) (by decide) (by decide), mb 8 (by decide) (by decide) (by decide) (by decide) (by decide)]; exact w14
      · rw [xb 15 (by decide) (by decide) (by decide) (by decide) (by decide), mb 9 (by decide) (by decide) (by decide) (by decide) (by decide)]; exact w15
      · rw [xb 16 (by decide) (by decide) (by decide) (by decide) (by decide), mb 10 (by decide) (by decide) (by decide) (by decide) (by decide)]; exact w16
      · rw [xb 18 (by decide) (by decide) (by decide) (by decide) (by decide), mb 11 (by decide) (by decide) (by decide) (by decide) (by decide)]; exact w18
      · rw [xb 19 (by decide) (by decide) (by decide) (by decide) (by decide), mb 12 (by decide) (by decide) (by decide) (by decide) (by decide)]; exact w19
      · rw [xb 20 (by decide) (by decide) (by decide) (by decide) (by decide), mb 13 (by decide) (by decide) (by decide) (by decide) (by decide)]; exact w20
      · rw [xb 21 (by decide) (by decide) (by decide) (by decide) (by decide), mb 14 (by decide) (by decide) (by decide) (by decide) (by decide)]; exact w21
      · rw [xb 22 (by decide) (by decide) (by decide) (by decide) (by decide), mb 15 (by decide) (by decide) (by decide) (by decide) (by decide)]; exact w22
      · rw [xb 23 (by decide) (by decide) (by decide) (by decide) (by decide), mb 16 (by decide) (by decide) (by decide) (by decide) (by decide)]; exact w23
      · rw [xb 24 (by decide) (by decide) (by decide) (by decide) (by decide), mb 17 (by decide) (by decide) (by decide) (by decide) (by decide)]; exact w24
      · intro q hq
        rw [xb 9 (by decide) (by decide) (by decide) (by decide) (by decide), rp]; exact g9 q hq
      · intro q hq
        rw [xb 17 (by decide) (by decide) (by decide) (by decide) (by decide), xb 9 (by decide) (by decide) (by decide) (by decide) (by decide), mb 8 (by decide) (by decide) (by decide) (by decide) (by decide)]; exact g17 q hq
      · rw [xb 1 (by decide) (by decide) (by decide) (by decide) (by decide), mb 2 (by decide) (by decide) (by decide) (by decide) (by decide)]; exact g3
      · rw [mb 1 (by decide) (by decide) (by decide) (by decide) (by decide)]; exact gp
      · rw [m3, m4, m5]
        intro k hk
        by_cases hkn : k = nE
        · subst hkn
          rw [pk_us, pk_us, pk_us]
          exact ⟨f1, f2, f3⟩
        · rw [pk_un hkn, pk_un hkn, pk_un hkn]
          exact ge k (by omega)
      · intro k hk
        rw [m6]
        by_cases hkn : k = nE
        · subst hkn; rw [pk_us]; exact f4
        · rw [pk_un hkn]; exact gdp k (by omega)
      · intro t ht
        rw [mb 8 (by decide) (by decide) (by decide) (by decide) (by decide), mb 9 (by decide) (by decide) (by decide) (by decide) (by decide), mb 10 (by decide) (by decide) (by decide) (by decide) (by decide), rp]
        obtain ⟨⟨x, hx, e⟩, h2⟩ := gt t ht
        exact ⟨⟨x, by omega, e⟩, h2⟩
      · rw [mb 13 (by decide) (by decide) (by decide) (by decide) (by decide), rp]; exact go
      · rw [mb 14 (by decide) (by decide) (by decide) (by decide) (by decide), mb 16 (by decide) (by decide) (by decide) (by decide) (by decide)]; exact ga
    · refine RD_of hd (Nat.le_refl nS) ?_ ?_ ?_ ?_ ?_ ?_ ?_ ?_
      · intro j _; rw [xb 0 (by decide) (by decide) (by decide) (by decide) (by decide)]
      · exact xb 7 (by decide) (by decide) (by decide) (by decide) (by decide)
      · rw [xb 5 (by decide) (by decide) (by decide) (by decide) (by decide)]
      · exact xb 25 (by decide) (by decide) (by decide) (by decide) (by decide)
      · intro j hj; exact m0 j (by omega)
      · exact mb 18 (by decide) (by decide) (by decide) (by decide) (by decide)
      · exact mb 19 (by decide) (by decide) (by decide) (by decide) (by decide)
      · exact mb 20 (by decide) (by decide) (by decide) (by decide) (by decide)
  · rw [if_neg hc] at px pm
    obtain ⟨p1, rfl⟩ := px
    obtain ⟨q1, rfl⟩ := pm
    exact ⟨p1.trans q1.symm, nS, nE, nT, nO, nA, hs, hd⟩
