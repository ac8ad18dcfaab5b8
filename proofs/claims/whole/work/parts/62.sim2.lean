/-! transition, order and action keep the relation, and both answer alike -/
theorem pf_pw_congr {f g : Nat → Int32} (h : ∀ p, p < 3 → f p = g p) (se : Int32) : pf_pw f se = pf_pw g se := by
  unfold pf_pw; rw [h 0 (by omega), h 1 (by omega), h 2 (by omega)]
theorem pf_pw_ok {ip : Nat → Int32} {se : Int32} (h : ¬ pf_pw ip se = -1) : ∃ p, p < 3 ∧ pf_pw ip se = nI p ∧ px_sub se (ip p) := by
  unfold pf_pw at h ⊢
  by_cases h0 : px_sub se (ip 0)
  · rw [if_pos h0]; exact ⟨0, by omega, rfl, h0⟩
  · rw [if_neg h0] at h ⊢
    by_cases h1 : px_sub se (ip 1)
    · rw [if_pos h1]; exact ⟨1, by omega, rfl, h1⟩
    · rw [if_neg h1] at h ⊢
      by_cases h2 : px_sub se (ip 2)
      · rw [if_pos h2]; exact ⟨2, by omega, rfl, h2⟩
      · rw [if_neg h2] at h; exact absurd rfl h
theorem sim_transition {X M X' M' : fx_S} {nS nE nT nO nA : Nat} (hs : RS X M nS nE nT nO nA) (hd : RD X M nS) {bf af cd r r' : Int32} (px : if X 0 7 = 0 ∧ nT < 12 ∧ ¬ bf = 0 ∧ ¬ af = 0 ∧ ¬ pf_pw (X 9) (bf ||| af) = -1 ∧ 0 ≤ cd ∧ cd < X 2 4 then r = nI nT ∧ X' = pf_addT X nT (pf_pw (X 9) (bf ||| af)).toNatClampNeg bf af cd else r = -2 ∧ X' = X) (pm : if M 0 24 = 0 ∧ nT < 12 ∧ ¬ bf = 0 ∧ ¬ af = 0 ∧ ¬ pf_pw (fun p => pf_part (M 1) (nI p) nS) (bf ||| af) = -1 ∧ 0 ≤ cd ∧ cd < M 0 3 then r' = nI nT ∧ M' = pm_addT M nT bf af cd else r' = -2 ∧ M' = M) : r = r' ∧ RR X' M' := by
  have e7 : X 0 7 = M 0 24 := hd.1
  have hs0 := hs
  obtain ⟨⟨s1, s2, s3⟩, ⟨e1, e2, e3⟩, ⟨t1, t2, t3⟩, ⟨o1, o2, o3⟩, ⟨a1, a2, a3⟩, ⟨w8, w10, w11, w12, w13, w14, w15, w16, w18, w19, w20, w21, w22, w23, w24⟩, ⟨g9, g17, g3⟩, gp, ⟨ge, gdp⟩, gt, go, ga⟩ := hs0
  rw [pf_pw_congr g9] at px
  rw [e7, e1] at px
  have pm : if M 0 24 = 0 ∧ nT < 12 ∧ ¬ bf = 0 ∧ ¬ af = 0 ∧ ¬ pf_pw (rl_P M nS) (bf ||| af) = -1 ∧ 0 ≤ cd ∧ cd < M 0 3 then r' = nI nT ∧ M' = pm_addT M nT bf af cd else r' = -2 ∧ M' = M := pm
  rw [e2] at pm
  by_cases hc : M 0 24 = 0 ∧ nT < 12 ∧ ¬ bf = 0 ∧ ¬ af = 0 ∧ ¬ pf_pw (rl_P M nS) (bf ||| af) = -1 ∧ 0 ≤ cd ∧ cd < nI nE
  · rw [if_pos hc] at px pm
    obtain ⟨p1, p2⟩ := px
    obtain ⟨q1, q2⟩ := pm
    obtain ⟨p, hp, ep, ps⟩ := pf_pw_ok hc.2.2.2.2.1
    rw [ep, nI_clamp (by omega)] at p2
    have xb : ∀ b, b ≠ 3 → b ≠ 14 → b ≠ 15 → b ≠ 16 → b ≠ 17 → X' b = X b := fun b h3 h14 h15 h16 h17 => by
      rw [p2, pf_addT, fx_up_ne _ _ _ h17, fx_up_ne _ _ _ h16, fx_up_ne _ _ _ h15, fx_up_ne _ _ _ h14, fx_up_ne _ _ _ h3]
    have x17 : X' 17 = upd (X 17) p (X 17 p ||| px_b nT) := by rw [p2, pf_addT, fx_up_row, fx_up_ne _ _ _ (by decide), fx_up_ne _ _ _ (by decide), fx_up_ne _ _ _ (by decide), fx_up_ne _ _ _ (by decide)]
    have x16 : X' 16 = upd (X 16) nT cd := by rw [p2, pf_addT, fx_up_ne _ _ _ (by decide), fx_up_row, fx_up_ne _ _ _ (by decide), fx_up_ne _ _ _ (by decide), fx_up_ne _ _ _ (by decide)]
    have x15 : X' 15 = upd (X 15) nT af := by rw [p2, pf_addT, fx_up_ne _ _ _ (by decide), fx_up_ne _ _ _ (by decide), fx_up_row, fx_up_ne _ _ _ (by decide), fx_up_ne _ _ _ (by decide)]
    have x14 : X' 14 = upd (X 14) nT bf := by rw [p2, pf_addT, fx_up_ne _ _ _ (by decide), fx_up_ne _ _ _ (by decide), fx_up_ne _ _ _ (by decide), fx_up_row, fx_up_ne _ _ _ (by decide)]
    have xc : X' 3 4 = nI (nT + 1) := by rw [p2]; rfl
    have mb : ∀ b, b ≠ 0 → b ≠ 8 → b ≠ 9 → b ≠ 10 → M' b = M b := fun b h0 h8 h9 h10 => by
      rw [q2, pm_addT, fx_up_ne _ _ _ h0, fx_up_ne _ _ _ h10, fx_up_ne _ _ _ h9, fx_up_ne _ _ _ h8]
    have m10 : M' 10 = upd (M 10) nT cd := by rw [q2, pm_addT, fx_up_ne _ _ _ (by decide), fx_up_row, fx_up_ne _ _ _ (by decide), fx_up_ne _ _ _ (by decide)]
    have m9 : M' 9 = upd (M 9) nT af := by rw [q2, pm_addT, fx_up_ne _ _ _ (by decide), fx_up_ne _ _ _ (by decide), fx_up_row, fx_up_ne _ _ _ (by decide)]
    have m8 : M' 8 = upd (M 8) nT bf := by rw [q2, pm_addT, fx_up_ne _ _ _ (by decide), fx_up_ne _ _ _ (by decide), fx_up_ne _ _ _ (by decide), fx_up_row]
    have mc : M' 0 9 = nI (nT + 1) := by rw [q2]; rfl
    have m0 : ∀ j, j ≠ 9 → M' 0 j = M 0 j := fun j hj => by
      rw [q2, pm_addT, fx_up_ne2 _ _ _ hj, fx_up_ne1 _ _ _ _ (by decide), fx_up_ne1 _ _ _ _ (by decide), fx_up_ne1 _ _ _ _ (by decide)]
    have rp : rl_P M' nS = rl_P M nS := by
      funext q
      unfold rl_P
      rw [mb 1 (by decide) (by decide) (by decide) (by decide)]
    refine ⟨p1.trans q1.symm, nS, nE, nT + 1, nO, nA, ?_, ?_⟩
    · refine ⟨⟨?_, ?_, s3⟩, ⟨?_, ?_, e3⟩, ⟨?_, ?_, by omega⟩, ⟨?_, ?_, o3⟩, ⟨?_, ?_, a3⟩, ⟨?_, ?_, ?_, ?_, ?_, ?_, ?_, ?_, ?_, ?_, ?_, ?_, ?_, ?_, ?_⟩, ⟨?_, ?_, ?_⟩, ?_, ⟨?_, ?_⟩, ?_, ?_, ?_⟩
      · rw [xb 1 (by decide) (by decide) (by decide) (by decide) (by decide)]; exact s1
      · rw [m0 0 (by decide)]; exact s2
      · rw [xb 2 (by decide) (by decide) (by decide) (by decide) (by decide)]; exact e1
      · rw [m0 3 (by decide)]; exact e2
      · exact xc
      · exact mc
      · rw [xb 4 (by decide) (by decide) (by decide) (by decide) (by decide)]; exact o1
      · rw [m0 13 (by decide)]; exact o2
      · rw [xb 5 (by decide) (by decide) (by decide) (by decide) (by decide)]; exact a1
      · rw [m0 17 (by decide)]; exact a2
      · rw [xb 8 (by decide) (by decide) (by decide) (by decide) (by decide), mb 1 (by decide) (by decide) (by decide) (by decide)]; exact w8
      · rw [xb 10 (by decide) (by decide) (by decide) (by decide) (by decide), mb 3 (by decide) (by decide) (by decide) (by decide)]; exact w10
      · rw [xb 11 (by decide) (by decide) (by decide) (by decide) (by decide), mb 4 (by decide) (by decide) (by decide) (by decide)]; exact w11
      · rw [xb 12 (by decide) (by decide) (by decide) (by decide) (by decide), mb 5 (by decide) (by decide) (by decide) (by decide)]; exact w12
      · rw [xb 13 (by decide) (by decide) (by decide) (by decide) (by decide), mb 6 (by decide) (by decide) (by decide) (by decide)]; exact w13
      · rw [x14, m8, w14]
      · rw [x15, m9, w15]
      · rw [x16, m10, w16]
      · rw [xb 18 (by decide) (by decide) (by decide) (by decide) (by decide), mb 11 (by decide) (by decide) (by decide) (by decide)]; exact w18
      · rw [xb 19 (by decide) (by decide) (by decide) (by decide) (by decide), mb 12 (by decide) (by decide) (by decide) (by decide)]; exact w19
      · rw [xb 20 (by decide) (by decide) (by decide) (by decide) (by decide), mb 13 (by decide) (by decide) (by decide) (by decide)]; exact w20
      · rw [xb 21 (by decide) (by decide) (by decide) (by decide) (by decide), mb 14 (by decide) (by decide) (by decide) (by decide)]; exact w21
      · rw [xb 22 (by decide) (by decide) (by decide) (by decide) (by decide), mb 15 (by decide) (by decide) (by decide) (by decide)]; exact w22
      · rw [xb 23 (by decide) (by decide) (by decide) (by decide) (by decide), mb 16 (by decide) (by decide) (by decide) (by decide)]; exact w23
      · rw [xb 24 (by decide) (by decide) (by decide) (by decide) (by decide), mb 17 (by decide) (by decide) (by decide) (by decide)]; exact w24
      · intro q hq; rw [xb 9 (by decide) (by decide) (by decide) (by decide) (by decide), rp]; exact g9 q hq
      · intro q hq
        rw [xb 9 (by decide) (by decide) (by decide) (by decide) (by decide), x17, m8, pf_en, pk_us, pf_en_congr (g := M 8) (t := X 9 q) nT (fun k hk => by rw [upd_lt hk])]
        by_cases hqp : q = p
        · subst hqp
          rw [pk_us, if_pos (by rw [g9 q hq]; exact (px_sub_or.mp ps).1), g17 q hq]
        · rw [pk_un hqp, if_neg ?_, g17 q hq]
          intro hsb
          obtain ⟨i, hi, hb⟩ := px_ne0_bt.mp hc.2.2.1
          rw [g9 q hq] at hsb
          refine pf_part_dis (M 1) (p := nI q) (q := nI p) (nI_ne hqp (by omega) (by omega)) nS (by omega) i hi ?_ ?_
          · exact px_sub_bt.mp hsb i hi hb
          · exact px_sub_bt.mp (px_sub_or.mp ps).1 i hi hb
      · rw [xb 1 (by decide) (by decide) (by decide) (by decide) (by decide), mb 2 (by decide) (by decide) (by decide) (by decide)]; exact g3
      · rw [mb 1 (by decide) (by decide) (by decide) (by decide)]; exact gp
      · rw [mb 3 (by decide) (by decide) (by decide) (by decide), mb 4 (by decide) (by decide) (by decide) (by decide), mb 5 (by decide) (by decide) (by decide) (by decide)]; exact ge
      · rw [mb 6 (by decide) (by decide) (by decide) (by decide)]; exact gdp
      · intro t ht
        rw [m8, m9, m10, rp]
        by_cases htn : t = nT
        · subst htn
          rw [pk_us, pk_us, pk_us]
          exact ⟨nI_le_of hc.2.2.2.2.2.1 hc.2.2.2.2.2.2 (by omega), hc.2.2.1, p, hp, ps⟩
        · rw [pk_un htn, pk_un htn, pk_un htn]
          exact gt t (by omega)
      · rw [mb 13 (by decide) (by decide) (by decide) (by decide), rp]; exact go
      · rw [mb 14 (by decide) (by decide) (by decide) (by decide), mb 16 (by decide) (by decide) (by decide) (by decide)]; exact ga
    · refine RD_of hd (Nat.le_refl nS) ?_ ?_ ?_ ?_ ?_ ?_ ?_ ?_
      · intro j _; rw [xb 0 (by decide) (by decide) (by decide) (by decide) (by decide)]
      · exact xb 7 (by decide) (by decide) (by decide) (by decide) (by decide)
      · rw [xb 5 (by decide) (by decide) (by decide) (by decide) (by decide)]
      · exact xb 25 (by decide) (by decide) (by decide) (by decide) (by decide)
      · intro j hj; exact m0 j (by omega)
      · exact mb 18 (by decide) (by decide) (by decide) (by decide)
      · exact mb 19 (by decide) (by decide) (by decide) (by decide)
      · exact mb 20 (by decide) (by decide) (by decide) (by decide)
  · rw [if_neg hc] at px pm
    obtain ⟨p1, rfl⟩ := px
    obtain ⟨q1, rfl⟩ := pm
    exact ⟨p1.trans q1.symm, nS, nE, nT, nO, nA, hs, hd⟩
theorem sim_order {X M X' M' : fx_S} {nS nE nT nO nA : Nat} (hs : RS X M nS nE nT nO nA) (hd : RD X M nS) {st part fx r r' : Int32} (px : if X 0 7 = 0 ∧ nO < 4 ∧ (0 ≤ st ∧ st < X 1 2) ∧ X 8 st.toNatClampNeg < part ∧ part < 3 ∧ (fx = -1 ∨ px_sub fx (X 9 part.toNatClampNeg)) then r = nI nO ∧ X' = pf_addO X nO st part fx else r = -2 ∧ X' = X) (pm : if M 0 24 = 0 ∧ nO < 4 ∧ (0 ≤ st ∧ st < M 0 0) ∧ M 1 st.toNatClampNeg < part ∧ part < 3 ∧ (fx = -1 ∨ px_sub fx (pf_part (M 1) part nS)) then r' = nI nO ∧ M' = pm_addO M nO st part fx else r' = -2 ∧ M' = M) : r = r' ∧ RR X' M' := by
  have e7 : X 0 7 = M 0 24 := hd.1
  have hs0 := hs
  obtain ⟨⟨s1, s2, s3⟩, ⟨e1, e2, e3⟩, ⟨t1, t2, t3⟩, ⟨o1, o2, o3⟩, ⟨a1, a2, a3⟩, ⟨w8, w10, w11, w12, w13, w14, w15, w16, w18, w19, w20, w21, w22, w23, w24⟩, ⟨g9, g17, g3⟩, gp, ⟨ge, gdp⟩, gt, go, ga⟩ := hs0
  have ppos : (0 ≤ st ∧ st < nI nS) → M 1 st.toNatClampNeg < part → part < 3 → ∃ p, p < 3 ∧ part = nI p := fun h1 h2 h3 => by
    obtain ⟨j, hj, rfl⟩ := nI_le_of h1.1 h1.2 (by omega)
    rw [nI_clamp (by omega)] at h2
    obtain ⟨p, hp, e⟩ := gp j hj
    rw [e] at h2
    exact nI_le_of (n := 3) (Int32.le_of_lt (Int32.lt_of_le_of_lt (nI_pos' (n := p) (by omega)) h2)) h3 (by omega)
  have ec : (X 0 7 = 0 ∧ nO < 4 ∧ (0 ≤ st ∧ st < X 1 2) ∧ X 8 st.toNatClampNeg < part ∧ part < 3 ∧ (fx = -1 ∨ px_sub fx (X 9 part.toNatClampNeg))) ↔ (M 0 24 = 0 ∧ nO < 4 ∧ (0 ≤ st ∧ st < nI nS) ∧ M 1 st.toNatClampNeg < part ∧ part < 3 ∧ (fx = -1 ∨ px_sub fx (pf_part (M 1) part nS))) := by
    rw [e7, s1, w8]
    have key : (0 ≤ st ∧ st < nI nS) → M 1 st.toNatClampNeg < part → part < 3 → X 9 part.toNatClampNeg = pf_part (M 1) part nS := fun h1 h2 h3 => by
      obtain ⟨p, hp, rfl⟩ := ppos h1 h2 h3
      rw [nI_clamp (by omega)]; exact g9 p hp
    constructor
    · rintro ⟨h1, h2, h3, h4, h5, h6⟩
      rw [key h3 h4 h5] at h6; exact ⟨h1, h2, h3, h4, h5, h6⟩
    · rintro ⟨h1, h2, h3, h4, h5, h6⟩
      rw [← key h3 h4 h5] at h6; exact ⟨h1, h2, h3, h4, h5, h6⟩
  replace px : if M 0 24 = 0 ∧ nO < 4 ∧ (0 ≤ st ∧ st < nI nS) ∧ M 1 st.toNatClampNeg < part ∧ part < 3 ∧ (fx = -1 ∨ px_sub fx (pf_part (M 1) part nS)) then r = nI nO ∧ X' = pf_addO X nO st part fx else r = -2 ∧ X' = X := by
    by_cases hz : M 0 24 = 0 ∧ nO < 4 ∧ (0 ≤ st ∧ st < nI nS) ∧ M 1 st.toNatClampNeg < part ∧ part < 3 ∧ (fx = -1 ∨ px_sub fx (pf_part (M 1) part nS))
    · rw [if_pos hz]; rw [if_pos (ec.mpr hz)] at px; exact px
    · rw [if_neg hz]; rw [if_neg (fun q => hz (ec.mp q))] at px; exact px
  rw [s2] at pm
  by_cases hc : M 0 24 = 0 ∧ nO < 4 ∧ (0 ≤ st ∧ st < nI nS) ∧ M 1 st.toNatClampNeg < part ∧ part < 3 ∧ (fx = -1 ∨ px_sub fx (pf_part (M 1) part nS))
  · rw [if_pos hc] at px pm
    obtain ⟨p1, p2⟩ := px
    obtain ⟨q1, q2⟩ := pm
    have xb : ∀ b, b ≠ 4 → b ≠ 18 → b ≠ 19 → b ≠ 20 → X' b = X b := fun b h4 h18 h19 h20 => by
      rw [p2, pf_addO, fx_up_ne _ _ _ h20, fx_up_ne _ _ _ h19, fx_up_ne _ _ _ h18, fx_up_ne _ _ _ h4]
    have x20 : X' 20 = upd (X 20) nO fx := by rw [p2, pf_addO, fx_up_row, fx_up_ne _ _ _ (by decide), fx_up_ne _ _ _ (by decide), fx_up_ne _ _ _ (by decide)]
    have x19 : X' 19 = upd (X 19) nO part := by rw [p2, pf_addO, fx_up_ne _ _ _ (by decide), fx_up_row, fx_up_ne _ _ _ (by decide), fx_up_ne _ _ _ (by decide)]
    have x18 : X' 18 = upd (X 18) nO st := by rw [p2, pf_addO, fx_up_ne _ _ _ (by decide), fx_up_ne _ _ _ (by decide), fx_up_row, fx_up_ne _ _ _ (by decide)]
    have xc : X' 4 3 = nI (nO + 1) := by rw [p2]; rfl
    have mb : ∀ b, b ≠ 0 → b ≠ 11 → b ≠ 12 → b ≠ 13 → M' b = M b := fun b h0 h11 h12 h13 => by
      rw [q2, pm_addO, fx_up_ne _ _ _ h0, fx_up_ne _ _ _ h13, fx_up_ne _ _ _ h12, fx_up_ne _ _ _ h11]
    have m13 : M' 13 = upd (M 13) nO fx := by rw [q2, pm_addO, fx_up_ne _ _ _ (by decide), fx_up_row, fx_up_ne _ _ _ (by decide), fx_up_ne _ _ _ (by decide)]
    have m12 : M' 12 = upd (M 12) nO part := by rw [q2, pm_addO, fx_up_ne _ _ _ (by decide), fx_up_ne _ _ _ (by decide), fx_up_row, fx_up_ne _ _ _ (by decide)]
    have m11 : M' 11 = upd (M 11) nO st := by rw [q2, pm_addO, fx_up_ne _ _ _ (by decide), fx_up_ne _ _ _ (by decide), fx_up_ne _ _ _ (by decide), fx_up_row]
    have mc : M' 0 13 = nI (nO + 1) := by rw [q2]; rfl
    have m0 : ∀ j, j ≠ 13 → M' 0 j = M 0 j := fun j hj => by
      rw [q2, pm_addO, fx_up_ne2 _ _ _ hj, fx_up_ne1 _ _ _ _ (by decide), fx_up_ne1 _ _ _ _ (by decide), fx_up_ne1 _ _ _ _ (by decide)]
    have rp : rl_P M' nS = rl_P M nS := by
      funext q
      unfold rl_P
      rw [mb 1 (by decide) (by decide) (by decide) (by decide)]
    refine ⟨p1.trans q1.symm, nS, nE, nT, nO + 1, nA, ?_, ?_⟩
    · refine ⟨⟨?_, ?_, s3⟩, ⟨?_, ?_, e3⟩, ⟨?_, ?_, t3⟩, ⟨?_, ?_, by omega⟩, ⟨?_, ?_, a3⟩, ⟨?_, ?_, ?_, ?_, ?_, ?_, ?_, ?_, ?_, ?_, ?_, ?_, ?_, ?_, ?_⟩, ⟨?_, ?_, ?_⟩, ?_, ⟨?_, ?_⟩, ?_, ?_, ?_⟩
      · rw [xb 1 (by decide) (by decide) (by decide) (by decide)]; exact s1
      · rw [m0 0 (by decide)]; exact s2
      · rw [xb 2 (by decide) (by decide) (by decide) (by decide)]; exact e1
      · rw [m0 3 (by decide)]; exact e2
      · rw [xb 3 (by decide) (by decide) (by decide) (by decide)]; exact t1
      · rw [m0 9 (by decide)]; exact t2
      · exact xc
      · exact mc
      · rw [xb 5 (by decide) (by decide) (by decide) (by decide)]; exact a1
      · rw [m0 17 (by decide)]; exact a2
      · rw [xb 8 (by decide) (by decide) (by decide) (by decide), mb 1 (by decide) (by decide) (by decide) (by decide)]; exact w8
      · rw [xb 10 (by decide) (by decide) (by decide) (by decide), mb 3 (by decide) (by decide) (by decide) (by decide)]; exact w10
      · rw [xb 11 (by decide) (by decide) (by decide) (by decide), mb 4 (by decide) (by decide) (by decide) (by decide)]; exact w11
      · rw [xb 12 (by decide) (by decide) (by decide) (by decide), mb 5 (by decide) (by decide) (by decide) (by decide)]; exact w12
      · rw [xb 13 (by decide) (by decide) (by decide) (by decide), mb 6 (by decide) (by decide) (by decide) (by decide)]; exact w13
      · rw [xb 14 (by decide) (by decide) (by decide) (by decide), mb 8 (by decide) (by decide) (by decide) (by decide)]; exact w14
      · rw [xb 15 (by decide) (by decide) (by decide) (by decide), mb 9 (by decide) (by decide) (by decide) (by decide)]; exact w15
      · rw [xb 16 (by decide) (by decide) (by decide) (by decide), mb 10 (by decide) (by decide) (by decide) (by decide)]; exact w16
      · rw [x18, m11, w18]
      · rw [x19, m12, w19]
      · rw [x20, m13, w20]
      · rw [xb 21 (by decide) (by decide) (by decide) (by decide), mb 14 (by decide) (by decide) (by decide) (by decide)]; exact w21
      · rw [xb 22 (by decide) (by decide) (by decide) (by decide), mb 15 (by decide) (by decide) (by decide) (by decide)]; exact w22
      · rw [xb 23 (by decide) (by decide) (by decide) (by decide), mb 16 (by decide) (by decide) (by decide) (by decide)]; exact w23
      · rw [xb 24 (by decide) (by decide) (by decide) (by decide), mb 17 (by decide) (by decide) (by decide) (by decide)]; exact w24
      · intro q hq; rw [xb 9 (by decide) (by decide) (by decide) (by decide), rp]; exact g9 q hq
      · intro q hq; rw [xb 17 (by decide) (by decide) (by decide) (by decide), xb 9 (by decide) (by decide) (by decide) (by decide), mb 8 (by decide) (by decide) (by decide) (by decide)]; exact g17 q hq
      · rw [xb 1 (by decide) (by decide) (by decide) (by decide), mb 2 (by decide) (by decide) (by decide) (by decide)]; exact g3
      · rw [mb 1 (by decide) (by decide) (by decide) (by decide)]; exact gp
      · rw [mb 3 (by decide) (by decide) (by decide) (by decide), mb 4 (by decide) (by decide) (by decide) (by decide), mb 5 (by decide) (by decide) (by decide) (by decide)]; exact ge
      · rw [mb 6 (by decide) (by decide) (by decide) (by decide)]; exact gdp
      · rw [mb 8 (by decide) (by decide) (by decide) (by decide), mb 9 (by decide) (by decide) (by decide) (by decide), mb 10 (by decide) (by decide) (by decide) (by decide), rp]; exact gt
      · intro k hk
        rw [m13, rp]
        by_cases hkn : k = nO
        · subst hkn
          rw [pk_us]
          rcases hc.2.2.2.2.2 with h | h
          · exact Or.inl h
          · obtain ⟨p, hp, e⟩ := ppos hc.2.2.1 hc.2.2.2.1 hc.2.2.2.2.1
            rw [e] at h
            exact Or.inr ⟨p, hp, h⟩
        · rw [pk_un hkn]; exact go k (by omega)
      · rw [mb 14 (by decide) (by decide) (by decide) (by decide), mb 16 (by decide) (by decide) (by decide) (by decide)]; exact ga
    · refine RD_of hd (Nat.le_refl nS) ?_ ?_ ?_ ?_ ?_ ?_ ?_ ?_
      · intro j _; rw [xb 0 (by decide) (by decide) (by decide) (by decide)]
      · exact xb 7 (by decide) (by decide) (by decide) (by decide)
      · rw [xb 5 (by decide) (by decide) (by decide) (by decide)]
      · exact xb 25 (by decide) (by decide) (by decide) (by decide)
      · intro j hj; exact m0 j (by omega)
      · exact mb 18 (by decide) (by decide) (by decide) (by decide)
      · exact mb 19 (by decide) (by decide) (by decide) (by decide)
      · exact mb 20 (by decide) (by decide) (by decide) (by decide)
  · rw [if_neg hc] at px pm
    obtain ⟨p1, rfl⟩ := px
    obtain ⟨q1, rfl⟩ := pm
    exact ⟨p1.trans q1.symm, nS, nE, nT, nO, nA, hs, hd⟩
theorem sim_action {X M X' M' : fx_S} {nS nE nT nO nA : Nat} (hs : RS X M nS nE nT nO nA) (hd : RD X M nS) {st qu va du r r' : Int32} (px : if X 0 7 = 0 ∧ nA < 12 ∧ (0 ≤ st ∧ st < X 1 2) ∧ (0 ≤ qu ∧ qu ≤ 9) ∧ (0 ≤ va ∧ va < 8) ∧ (0 ≤ du ∧ du ≤ 1000000) then r = nI nA ∧ X' = pf_addA X nA st qu va du else r = -2 ∧ X' = X) (pm : if M 0 24 = 0 ∧ nA < 12 ∧ (0 ≤ st ∧ st < M 0 0) ∧ (0 ≤ qu ∧ qu ≤ 9) ∧ (0 ≤ va ∧ va < 8) ∧ (0 ≤ du ∧ du ≤ 1000000) then r' = nI nA ∧ M' = pm_addA M nA st qu va du else r' = -2 ∧ M' = M) : r = r' ∧ RR X' M' := by
  have e7 : X 0 7 = M 0 24 := hd.1
  have hs0 := hs
  obtain ⟨⟨s1, s2, s3⟩, ⟨e1, e2, e3⟩, ⟨t1, t2, t3⟩, ⟨o1, o2, o3⟩, ⟨a1, a2, a3⟩, ⟨w8, w10, w11, w12, w13, w14, w15, w16, w18, w19, w20, w21, w22, w23, w24⟩, ⟨g9, g17, g3⟩, gp, ⟨ge, gdp⟩, gt, go, ga⟩ := hs0
  rw [e7, s1] at px
  rw [s2] at pm
  by_cases hc : M 0 24 = 0 ∧ nA < 12 ∧ (0 ≤ st ∧ st < nI nS) ∧ (0 ≤ qu ∧ qu ≤ 9) ∧ (0 ≤ va ∧ va < 8) ∧ (0 ≤ du ∧ du ≤ 1000000)
  · rw [if_pos hc] at px pm
    obtain ⟨p1, p2⟩ := px
    obtain ⟨q1, q2⟩ := pm
    have xb : ∀ b, b ≠ 5 → b ≠ 21 → b ≠ 22 → b ≠ 23 → b ≠ 24 → X' b = X b := fun b h5 h21 h22 h23 h24 => by
      rw [p2, pf_addA, fx_up_ne _ _ _ h24, fx_up_ne _ _ _ h23, fx_up_ne _ _ _ h22, fx_up_ne _ _ _ h21, fx_up_ne _ _ _ h5]
    have x24 : X' 24 = upd (X 24) nA du := by rw [p2, pf_addA, fx_up_row, fx_up_ne _ _ _ (by decide), fx_up_ne _ _ _ (by decide), fx_up_ne _ _ _ (by decide), fx_up_ne _ _ _ (by decide)]
    have x23 : X' 23 = upd (X 23) nA va := by rw [p2, pf_addA, fx_up_ne _ _ _ (by decide), fx_up_row, fx_up_ne _ _ _ (by decide), fx_up_ne _ _ _ (by decide), fx_up_ne _ _ _ (by decide)]
    have x22 : X' 22 = upd (X 22) nA qu := by rw [p2, pf_addA, fx_up_ne _ _ _ (by decide), fx_up_ne _ _ _ (by decide), fx_up_row, fx_up_ne _ _ _ (by decide), fx_up_ne _ _ _ (by decide)]
    have x21 : X' 21 = upd (X 21) nA st := by rw [p2, pf_addA, fx_up_ne _ _ _ (by decide), fx_up_ne _ _ _ (by decide), fx_up_ne _ _ _ (by decide), fx_up_row, fx_up_ne _ _ _ (by decide)]
    have xc : X' 5 5 = nI (nA + 1) := by rw [p2]; rfl
    have mb : ∀ b, b ≠ 0 → b ≠ 14 → b ≠ 15 → b ≠ 16 → b ≠ 17 → M' b = M b := fun b h0 h14 h15 h16 h17 => by
      rw [q2, pm_addA, fx_up_ne _ _ _ h0, fx_up_ne _ _ _ h17, fx_up_ne _ _ _ h16, fx_up_ne _ _ _ h15, fx_up_ne _ _ _ h14]
    have m17 : M' 17 = upd (M 17) nA du := by rw [q2, pm_addA, fx_up_ne _ _ _ (by decide), fx_up_row, fx_up_ne _ _ _ (by decide), fx_up_ne _ _ _ (by decide), fx_up_ne _ _ _ (by decide)]
    have m16 : M' 16 = upd (M 16) nA va := by rw [q2, pm_addA, fx_up_ne _ _ _ (by decide), fx_up_ne _ _ _ (by decide), fx_up_row, fx_up_ne _ _ _ (by decide), fx_up_ne _ _ _ (by decide)]
    have m15 : M' 15 = upd (M 15) nA qu := by rw [q2, pm_addA, fx_up_ne _ _ _ (by decide), fx_up_ne _ _ _ (by decide), fx_up_ne _ _ _ (by decide), fx_up_row, fx_up_ne _ _ _ (by decide)]
    have m14 : M' 14 = upd (M 14) nA st := by rw [q2, pm_addA, fx_up_ne _ _ _ (by decide), fx_up_ne _ _ _ (by decide), fx_up_ne _ _ _ (by decide), fx_up_ne _ _ _ (by decide), fx_up_row]
    have mc : M' 0 17 = nI (nA + 1) := by rw [q2]; rfl
    have m0 : ∀ j, j ≠ 17 → M' 0 j = M 0 j := fun j hj => by
      rw [q2, pm_addA, fx_up_ne2 _ _ _ hj, fx_up_ne1 _ _ _ _ (by decide), fx_up_ne1 _ _ _ _ (by decide), fx_up_ne1 _ _ _ _ (by decide), fx_up_ne1 _ _ _ _ (by decide)]
    have rp : rl_P M' nS = rl_P M nS := by
      funext q
      unfold rl_P
      rw [mb 1 (by decide) (by decide) (by decide) (by decide) (by decide)]
    refine ⟨p1.trans q1.symm, nS, nE, nT, nO, nA + 1, ?_, ?_⟩
    · refine ⟨⟨?_, ?_, s3⟩, ⟨?_, ?_, e3⟩, ⟨?_, ?_, t3⟩, ⟨?_, ?_, o3⟩, ⟨?_, ?_, by omega⟩, ⟨?_, ?_, ?_, ?_, ?_, ?_, ?_, ?_, ?_, ?_, ?_, ?_, ?_, ?_, ?_⟩, ⟨?_, ?_, ?_⟩, ?_, ⟨?_, ?_⟩, ?_, ?_, ?_⟩
      · rw [xb 1 (by decide) (by decide) (by decide) (by decide) (by decide)]; exact s1
      · rw [m0 0 (by decide)]; exact s2
      · rw [xb 2 (by decide) (by decide) (by decide) (by decide) (by decide)]; exact e1
      · rw [m0 3 (by decide)]; exact e2
      · rw [xb 3 (by decide) (by decide) (by decide) (by decide) (by decide)]; exact t1
      · rw [m0 9 (by decide)]; exact t2
      · rw [xb 4 (by decide) (by decide) (by decide) (by decide) (by decide)]; exact o1
      · rw [m0 13 (by decide)]; exact o2
      · exact xc
      · exact mc
      · rw [xb 8 (by decide) (by decide) (by decide) (by decide) (by decide), mb 1 (by decide) (by decide) (by decide) (by decide) (by decide)]; exact w8
      · rw [xb 10 (by decide) (by decide) (by decide) (by decide) (by decide), mb 3 (by decide) (by decide) (by decide) (by decide) (by decide)]; exact w10
      · rw [xb 11 (by decide) (by decide) (by decide) (by decide) (by decide), mb 4 (by decide) (by decide) (by decide) (by decide) (by decide)]; exact w11
      · rw [xb 12 (by decide) (by decide) (by decide) (by decide) (by decide), mb 5 (by decide) (by decide) (by decide) (by decide) (by decide)]; exact w12
      · rw [xb 13 (by decide) (by decide) (by decide) (by decide) (by decide), mb 6 (by decide) (by decide) (by decide) (by decide) (by decide)]; exact w13
      · rw [xb 14 (by decide) (by decide) (by decide) (by decide) (by decide), mb 8 (by decide) (by decide) (by decide) (by decide) (by decide)]; exact w14
      · rw [xb 15 (by decide) (by decide) (by decide) (by decide) (by decide), mb 9 (by decide) (by decide) (by decide) (by decide) (by decide)]; exact w15
      · rw [xb 16 (by decide) (by decide) (by decide) (by decide) (by decide), mb 10 (by decide) (by decide) (by decide) (by decide) (by decide)]; exact w16
      · rw [xb 18 (by decide) (by decide) (by decide) (by decide) (by decide), mb 11 (by decide) (by decide) (by decide) (by decide) (by decide)]; exact w18
      · rw [xb 19 (by decide) (by decide) (by decide) (by decide) (by decide), mb 12 (by decide) (by decide) (by decide) (by decide) (by decide)]; exact w19
      · rw [xb 20 (by decide) (by decide) (by decide) (by decide) (by decide), mb 13 (by decide) (by decide) (by decide) (by decide) (by decide)]; exact w20
      · rw [x21, m14, w21]
      · rw [x22, m15, w22]
      · rw [x23, m16, w23]
      · rw [x24, m17, w24]
      · intro q hq; rw [xb 9 (by decide) (by decide) (by decide) (by decide) (by decide), rp]; exact g9 q hq
      · intro q hq; rw [xb 17 (by decide) (by decide) (by decide) (by decide) (by decide), xb 9 (by decide) (by decide) (by decide) (by decide) (by decide), mb 8 (by decide) (by decide) (by decide) (by decide) (by decide)]; exact g17 q hq
      · rw [xb 1 (by decide) (by decide) (by decide) (by decide) (by decide), mb 2 (by decide) (by decide) (by decide) (by decide) (by decide)]; exact g3
      · rw [mb 1 (by decide) (by decide) (by decide) (by decide) (by decide)]; exact gp
      · rw [mb 3 (by decide) (by decide) (by decide) (by decide) (by decide), mb 4 (by decide) (by decide) (by decide) (by decide) (by decide), mb 5 (by decide) (by decide) (by decide) (by decide) (by decide)]; exact ge
      · rw [mb 6 (by decide) (by decide) (by decide) (by decide) (by decide)]; exact gdp
      · rw [mb 8 (by decide) (by decide) (by decide) (by decide) (by decide), mb 9 (by decide) (by decide) (by decide) (by decide) (by decide), mb 10 (by decide) (by decide) (by decide) (by decide) (by decide), rp]; exact gt
      · rw [mb 13 (by decide) (by decide) (by decide) (by decide) (by decide), rp]; exact go
      · intro k hk
        rw [m14, m16]
        by_cases hkn : k = nA
        · subst hkn
          rw [pk_us, pk_us]
          obtain ⟨o, ho, e⟩ := nI_le_of hc.2.2.1.1 hc.2.2.1.2 (by omega)
          exact ⟨⟨o, by omega, e⟩, nI_le_of (n := 8) hc.2.2.2.2.1.1 hc.2.2.2.2.1.2 (by omega)⟩
        · rw [pk_un hkn, pk_un hkn]; exact ga k (by omega)
    · refine RD_of hd (Nat.le_refl nS) ?_ ?_ ?_ ?_ ?_ ?_ ?_ ?_
      · intro j _; rw [xb 0 (by decide) (by decide) (by decide) (by decide) (by decide)]
      · exact xb 7 (by decide) (by decide) (by decide) (by decide) (by decide)
      · rw [p2]; rfl
      · exact xb 25 (by decide) (by decide) (by decide) (by decide) (by decide)
      · intro j hj; exact m0 j (by omega)
      · exact mb 18 (by decide) (by decide) (by decide) (by decide) (by decide)
      · exact mb 19 (by decide) (by decide) (by decide) (by decide) (by decide)
      · exact mb 20 (by decide) (by decide) (by decide) (by decide) (by decide)
  · rw [if_neg hc] at px pm
    obtain ⟨p1, rfl⟩ := px
    obtain ⟨q1, rfl⟩ := pm
    exact ⟨p1.trans q1.symm, nS, nE, nT, nO, nA, hs, hd⟩
