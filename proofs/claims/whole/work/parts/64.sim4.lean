/-! start, stop and scan -/
theorem forget_ne {X : fx_S} {b : Nat} (h0 : b ≠ 0) (h5 : b ≠ 5) (h7 : b ≠ 7) : pf_forget X b = X b := by
  unfold pf_forget
  rw [fx_up_ne _ _ _ h0, fx_up_ne _ _ _ h0, fx_up_ne _ _ _ h0, fx_up_ne _ _ _ h0, fx_up_ne _ _ _ h0, fx_up_ne _ _ _ h0, fx_up_ne _ _ _ h0, fx_up_ne _ _ _ h0, fx_up_ne _ _ _ h5, fx_row_ne _ _ h7]
theorem blank_ne {M : fx_S} {b : Nat} (h0 : b ≠ 0) (h18 : b ≠ 18) (h19 : b ≠ 19) (h20 : b ≠ 20) : pm_blank M b = M b := by
  unfold pm_blank pm_up8
  rw [fx_row_ne _ _ h19, fx_row_ne _ _ h18, fx_row_ne _ _ h20, fx_up_ne _ _ _ h0, fx_up_ne _ _ _ h0, fx_up_ne _ _ _ h0, fx_up_ne _ _ _ h0, fx_up_ne _ _ _ h0, fx_up_ne _ _ _ h0, fx_up_ne _ _ _ h0, fx_up_ne _ _ _ h0]
theorem blank_0 {M : fx_S} {j : Nat} (hj : j < 26) : pm_blank M 0 j = M 0 j := by
  unfold pm_blank pm_up8
  rw [fx_row_ne _ _ (by decide), fx_row_ne _ _ (by decide), fx_row_ne _ _ (by decide), fx_up_ne2 _ _ _ (by omega), fx_up_ne2 _ _ _ (by omega), fx_up_ne2 _ _ _ (by omega), fx_up_ne2 _ _ _ (by omega), fx_up_ne2 _ _ _ (by omega), fx_up_ne2 _ _ _ (by omega), fx_up_ne2 _ _ _ (by omega), fx_up_ne2 _ _ _ (by omega)]
theorem rel_0 (ag kp gg : Nat → Int32) : pm_rel 0 ag (pf_z8 kp 12) gg := by
  intro j hj
  rw [b_0]
  refine ⟨?_, fun h => by cases h⟩
  unfold pf_z8
  rw [if_pos hj]; rfl
theorem sim_stop {X M X' M' : fx_S} {nS nE nT nO nA : Nat} (hs : RS X M nS nE nT nO nA) (hd : RD X M nS) (px : X' = fx_up (pf_forget X) 0 7 0) (pm : M' = fx_up (pm_blank M) 0 24 0) : RR X' M' := by
  subst px; subst pm
  refine ⟨nS, nE, nT, nO, nA, RS_of hs ?_ rfl ?_ ?_, ?_⟩
  · intro b b0 b5 b6 b7 _ _ _
    rw [fx_up_ne _ _ _ b0, forget_ne b0 b5 b7]
  · intro j hj
    rw [fx_up_ne2 _ _ _ (by omega), blank_0 (by omega)]
  · intro b b0 b7 b18 b19 b20 _ _
    rw [fx_up_ne _ _ _ b0, blank_ne b0 b18 b19 b20]
  · refine ⟨rfl, ?_, rfl, rfl, rfl, rfl, rfl, rfl, rfl, rfl, ?_, ?_, ?_⟩
    · rw [fx_up_ne2 _ _ _ (by decide), fx_up_ne2 _ _ _ (by decide), blank_0 (by omega)]; exact hd.2.1
    · intro k hk
      show pf_z8 (X 7) 8 k = pf_z8 (M 20) 8 k
      unfold pf_z8; rw [if_pos hk, if_pos hk]
    · exact px_lo_0 nS
    · exact rel_0 _ _ _
theorem sim_start {X M X' M' : fx_S} {nS nE nT nO nA : Nat} (hs : RS X M nS nE nT nO nA) (hd : RD X M nS) {st r r' : Int32} (px : if X 0 7 = 0 ∧ ¬ X 1 3 = 0 then r = 1 ∧ X' = fx_up (fx_up (fx_up (pf_forget X) 0 7 1) 0 8 st) 0 9 (X 1 3) else r = 0 ∧ X' = X) (pm : if M 0 24 = 0 ∧ ¬ pf_ini (M 2) nS = 0 then r' = 1 ∧ M' = fx_up (fx_up (fx_up (pm_blank M) 0 24 1) 0 25 st) 0 26 (pf_ini (M 2) nS) else r' = 0 ∧ M' = M) : r = r' ∧ RR X' M' := by
  have s3 : nS ≤ 8 := hs.1.2.2
  have g3 : X 1 3 = pf_ini (M 2) nS := hs.2.2.2.2.2.2.1.2.2
  rw [hd.1, g3] at px
  by_cases hc : M 0 24 = 0 ∧ ¬ pf_ini (M 2) nS = 0
  · rw [if_pos hc] at px pm
    obtain ⟨p1, rfl⟩ := px
    obtain ⟨q1, rfl⟩ := pm
    refine ⟨p1.trans q1.symm, nS, nE, nT, nO, nA, RS_of hs ?_ rfl ?_ ?_, ?_⟩
    · intro b b0 b5 b6 b7 _ _ _
      rw [fx_up_ne _ _ _ b0, fx_up_ne _ _ _ b0, fx_up_ne _ _ _ b0, forget_ne b0 b5 b7]
    · intro j hj
      rw [fx_up_ne2 _ _ _ (by omega), fx_up_ne2 _ _ _ (by omega), fx_up_ne2 _ _ _ (by omega), blank_0 (by omega)]
    · intro b b0 b7 b18 b19 b20 _ _
      rw [fx_up_ne _ _ _ b0, fx_up_ne _ _ _ b0, fx_up_ne _ _ _ b0, blank_ne b0 b18 b19 b20]
    · refine ⟨rfl, rfl, rfl, rfl, rfl, rfl, rfl, rfl, rfl, rfl, ?_, ?_, ?_⟩
      · intro k hk
        show pf_z8 (X 7) 8 k = pf_z8 (M 20) 8 k
        unfold pf_z8; rw [if_pos hk, if_pos hk]
      · exact pf_ini_lo (M 2) nS (by omega)
      · exact rel_0 _ _ _
  · rw [if_neg hc] at px pm
    obtain ⟨p1, rfl⟩ := px
    obtain ⟨q1, rfl⟩ := pm
    exact ⟨p1.trans q1.symm, nS, nE, nT, nO, nA, hs, hd⟩
theorem RS_wfM {X M : fx_S} {nS nE nT nO nA : Nat} (hs : RS X M nS nE nT nO nA) : wfM M nS nE nT nO := by
  obtain ⟨⟨s1, s2, s3⟩, ⟨e1, e2, e3⟩, ⟨t1, t2, t3⟩, ⟨o1, o2, o3⟩, ⟨a1, a2, a3⟩, _, _, _, ⟨ge, _⟩, gt, go, _⟩ := hs
  exact ⟨s2, s3, e2, e3, ge, t2, t3, fun t ht => (gt t ht).1, o2, o3⟩
theorem RS_ok {X M : fx_S} {nS nE nT nO nA : Nat} (hs : RS X M nS nE nT nO nA) : pf_ok (chM M nS nT) nS nT nO := by
  have s3 : nS ≤ 8 := hs.1.2.2
  exact ⟨(RS_lo hs).1, (RS_lo hs).2, fun p _ => pf_part_lo _ _ nS (by omega)⟩
theorem scX_congr {S S' : fx_S} {r lv dt : Int32} {c c' : pf_C} {z : Nat × Nat × Nat × Int32 × Int32 × Int32 × Int32 × (Nat → Int32) × Int32 × Int32} {nA : Nat} (h : (∀ i, pf_q (c, z) i = pf_q (c', z) i) ∧ (∀ i, pf_idle (c, z) i ↔ pf_idle (c', z) i) ∧ (∀ i, pf_qs (c, z) i = pf_qs (c', z) i) ∧ ∀ i, pf_on_way (c, z) i ↔ pf_on_way (c', z) i) (hx : pf_scX S S' r lv dt (c, z) nA) : pf_scX S S' r lv dt (c', z) nA := by
  obtain ⟨hq, hi, hs, hw⟩ := h
  rcases hx with ⟨i, h1, h2, h3⟩ | ⟨h1, i, d, h2, h3, h4, h5, h6, h7, h8⟩ | ⟨h1, h2, h3⟩
  · refine Or.inl ⟨i, ?_, h2, ?_⟩
    · rcases h1 with ⟨g1, g2⟩ | ⟨g1, g2, g3, g4⟩
      · exact Or.inl ⟨g1, g2.imp (fun q => ⟨q.1, (hi 0).mp q.2⟩) (fun q => ⟨q.1, fun w => q.2 ((hi 0).mpr w)⟩)⟩
      · exact Or.inr ⟨g1, g2, (hw i).mp g3, (hi i).mp g4⟩
    · rw [hq i] at h3; exact h3
  · exact Or.inr (Or.inl ⟨h1, i, d, h2, (hw i).mp h3, fun w => h4 ((hi i).mpr w), h5, h6, by rw [← hs d, ← hs (i + 1)]; exact h7, h8⟩)
  · exact Or.inr (Or.inr ⟨h1, (hw 512).mp h2, h3⟩)
theorem ch_congr {X M : fx_S} {nS nE nT nO nA : Nat} (hs : RS X M nS nE nT nO nA) : (∀ r, 1 ≤ r → r ≤ 9 → chX X r = chM M nS nT r) ∧ (∀ p, p < 3 → chX X 10 p = chM M nS nT 10 p) ∧ ∀ p, p < 3 → chX X 11 p = chM M nS nT 11 p := by
  obtain ⟨⟨s1, s2, s3⟩, ⟨e1, e2, e3⟩, ⟨t1, t2, t3⟩, ⟨o1, o2, o3⟩, ⟨a1, a2, a3⟩, ⟨w8, w10, w11, w12, w13, w14, w15, w16, w18, w19, w20, w21, w22, w23, w24⟩, ⟨g9, g17, g3⟩, _⟩ := hs
  refine ⟨fun r h1 h9 => ?_, fun p hp => g9 p hp, fun p hp => ?_⟩
  · have hr : r = 1 ∨ r = 2 ∨ r = 3 ∨ r = 4 ∨ r = 5 ∨ r = 6 ∨ r = 7 ∨ r = 8 ∨ r = 9 := by omega
    rcases hr with rfl | rfl | rfl | rfl | rfl | rfl | rfl | rfl | rfl
    · exact w10
    · exact w11
    · exact w12
    · exact w14
    · exact w15
    · exact w16
    · exact w18
    · exact w19
    · exact w20
  · show X 17 p = pf_en (M 8) (rl_P M nS p) nT
    rw [g17 p hp, g9 p hp]
theorem sim_scan {X M X' M' : fx_S} {nS nE nT nO nA : Nat} (hs : RS X M nS nE nT nO nA) (hd : RD X M nS) {lv dt r r' : Int32} {tb : Nat → Int32} (px : (¬ (¬ X 0 7 = 0 ∧ 0 ≤ dt ∧ dt ≤ 1000000) ∧ r = -2 ∧ X' = X) ∨ ((¬ X 0 7 = 0 ∧ 0 ≤ dt ∧ dt ≤ 1000000) ∧ pf_scX X X' r lv dt (chX X, nE, nT, nO, X 0 8, lv &&& 255, (lv &&& 255) &&& (X 0 11 ^^^ (-1)), X 0 11 &&& ((lv &&& 255) ^^^ (-1)), tb, X 0 9, pf_tmd (X 0 9) (fun k => X 7 k + dt) 8) nA)) (pm : (¬ (¬ M 0 24 = 0 ∧ 0 ≤ dt ∧ dt ≤ 1000000) ∧ r' = -2 ∧ M' = M) ∨ ((¬ M 0 24 = 0 ∧ 0 ≤ dt ∧ dt ≤ 1000000) ∧ pf_aok (pm_sa M nS nE nT nO lv dt tb) nS ∧ pm_sc M M' r' lv dt (pm_sa M nS nE nT nO lv dt tb) (X 5 6) (X 25) nA)) : r = r' ∧ RR X' M' := by
  have cg := ch_congr hs
  have hs0 := hs
  obtain ⟨⟨s1, s2, s3⟩, ⟨e1, e2, e3⟩, ⟨t1, t2, t3⟩, ⟨o1, o2, o3⟩, ⟨a1, a2, a3⟩, ⟨w8, w10, w11, w12, w13, w14, w15, w16, w18, w19, w20, w21, w22, w23, w24⟩, ⟨g9, g17, g3⟩, gp, ⟨ge, gdp⟩, gt, go, ga⟩ := hs0
  have hd0 := hd
  obtain ⟨d7, d8, d9, d10, d11, d12, d13, d14, d15, d16, dt7, dlo, drel⟩ := hd0
  rw [d7] at px
  rcases px with ⟨c1, p1, rfl⟩ | ⟨c1, p1⟩
  · rcases pm with ⟨_, q1, rfl⟩ | ⟨c2, _⟩
    · exact ⟨p1.trans q1.symm, nS, nE, nT, nO, nA, hs, hd⟩
    · exact absurd c2 c1
  · rcases pm with ⟨c2, _⟩ | ⟨_, ok, q1⟩
    · exact absurd c1 c2
    rw [d8, d9, d11, pf_tmd_congr (M 0 26) (f := fun k => X 7 k + dt) (g := fun k => M 20 k + dt) 8 (fun k hk => by show X 7 k + dt = M 20 k + dt; rw [dt7 k hk])] at p1
    have p1 := scX_congr (pf_congr cg.1 cg.2.1 cg.2.2 _) p1
    have p1 : pf_scX X X' r lv dt (pm_sa M nS nE nT nO lv dt tb) nA := p1
    have htb : (pm_sa M nS nE nT nO lv dt tb).2.2.2.2.2.2.2.2.1 = tb := rfl
    generalize pm_sa M nS nE nT nO lv dt tb = a at p1 q1 ok htb
    unfold pf_scX at p1
    unfold pm_sc at q1
    rw [d8] at p1
    rcases p1 with ⟨i, h1, h2, h3, h4, h5, h6, h7, h8⟩ | ⟨h1, i, d, h2, h3, h4, h5, h6, h7, h8, h9, h10, h11, h12⟩ | ⟨h1, h2, _⟩
    · rcases q1 with ⟨j, k1, k2, k3⟩ | ⟨k1, j, e, k2, k3, k4, k5, k6, k7, _⟩
      · have hij : i = j := by
          rcases h1 with ⟨u1, u2⟩ | ⟨u1, u2, u3, u4⟩
          · rcases k1 with ⟨v1, v2⟩ | ⟨v1, _⟩
            · rcases u2 with ⟨x1, x2⟩ | ⟨x1, x2⟩
              · rcases v2 with ⟨y1, y2⟩ | ⟨y1, y2⟩
                · omega
                · exact absurd x2 y2
              · rcases v2 with ⟨y1, y2⟩ | ⟨y1, y2⟩
                · exact absurd y2 x2
                · omega
            · exact absurd u1 v1
          · rcases k1 with ⟨v1, _⟩ | ⟨v1, v2, v3, v4⟩
            · exact absurd v1 u1
            · exact out_ss u3 u4 v3 v4
        subst hij
        obtain ⟨n1, n2, n3, n4, n5, n6, n7, n8, n9, n10⟩ := h3
        obtain ⟨m1, m2, m3, m4, m5, m6, m7, m8, m9, m10, m11, m12⟩ := k3
        have t7 : ∀ x, x < 8 → X' 7 x = M' 20 x := fun x hx => by
          rw [n6, m3 x hx]; unfold pf_t8; rw [if_pos hx]
        have ea : pf_acts X (pf_q a i).1 (pf_q a i).2.1 a.2.2.2.2.2.2.2.2.1 dt nA = pf_act (M 14) (M 15) (M 16) (M 17) (pf_q a i).1 (M 0 28) (pf_rs (M 14) (M 15) (M 16) (pf_q a i).1 nA) (M' 20) (X 5 6, pf_gr (X 25) (X 5 6) dt nA) nA := by
          unfold pf_acts
          rw [w21, w22, w23, w24, d10, ← n6]
          refine pf_act_congr nA (fun k hk => ?_)
          obtain ⟨⟨o, ho, e⟩, _⟩ := ga k hk
          rw [e, nI_clamp (by omega)]
          exact t7 o ho
        rw [ea] at n3 n7 n8
        refine ⟨h2.trans k2.symm, nS, nE, nT, nO, nA, RS_of hs n10 (n9 5 (by decide)) (fun j hj => m11 j (by omega)) m12, ?_⟩
        refine ⟨?_, ?_, n1.trans m1.symm, n2.trans m2.symm, h6.trans m6.symm, ?_, n4.trans m5.symm, n5.trans m4.symm, h7.trans m7.symm, h8.trans m8.symm, t7, ?_, ?_⟩
        · rw [h4, m11 24 (by decide)]; exact d7
        · rw [h5, m11 25 (by decide)]
        · rw [n3, m9, w21, w22, w23]
        · rw [m1]; exact pf_q_lo ok i
        · rw [n7, n8]; exact m10
      · rcases h1 with ⟨u1, _⟩ | ⟨u1, u2, u3, u4⟩
        · exact absurd u1 k1
        · exact (out_su u3 u4 k3 k4 k5 k6 k7).elim
    · rcases q1 with ⟨j, k1, k2, k3⟩ | ⟨k1, j, e, k2, k3, k4, k5, k6, k7, k8, k9, k10, k11, k12, k13⟩
      · rcases k1 with ⟨u1, _⟩ | ⟨u1, u2, u3, u4⟩
        · exact absurd u1 h1
        · exact (out_su u3 u4 h3 h4 h5 h6 h7).elim
      · obtain ⟨hij, hde⟩ := out_uu h3 h5 h6 h7 k3 k5 k6 k7
        subst hij; subst hde
        refine ⟨h8.trans k8.symm, nS, nE, nT, nO, nA, RS_of hs (fun b b0 _ b6 _ _ b26 b27 => h12 b b0 b6 b26 b27) ?_ (fun j hj => k12 j (by omega)) (fun b b0 b7 _ _ b20 b21 b22 => k13 b b0 b7 b20 b21 b22), ?_⟩
        · rw [h12 5 (by decide) (by decide) (by decide) (by decide)]
        · have x0 : ∀ j, j ≠ 15 → j ≠ 16 → X' 0 j = X 0 j := h11
          refine ⟨?_, ?_, ?_, ?_, ?_, ?_, ?_, ?_, h9.trans k9.symm, h10.trans k10.symm, ?_, ?_, ?_⟩
          · rw [x0 7 (by decide) (by decide), k12 24 (by decide)]; exact d7
          · rw [x0 8 (by decide) (by decide), k12 25 (by decide)]; exact d8
          · rw [x0 9 (by decide) (by decide), k12 26 (by decide)]; exact d9
          · rw [x0 10 (by decide) (by decide), k12 28 (by decide)]; exact d10
          · rw [x0 11 (by decide) (by decide), k12 29 (by decide)]; exact d11
          · rw [x0 12 (by decide) (by decide), k12 30 (by decide)]; exact d12
          · rw [x0 13 (by decide) (by decide), k12 31 (by decide)]; exact d13
          · rw [x0 14 (by decide) (by decide), k12 32 (by decide)]; exact d14
          · intro k hk
            rw [h12 7 (by decide) (by decide) (by decide) (by decide), k11 k hk]; exact dt7 k hk
          · rw [k12 26 (by decide)]; exact dlo
          · rw [h12 5 (by decide) (by decide) (by decide) (by decide), h12 25 (by decide) (by decide) (by decide) (by decide), k13 18 (by decide) (by decide) (by decide) (by decide) (by decide), k13 19 (by decide) (by decide) (by decide) (by decide) (by decide)]; exact drel
    · exact absurd h2 (pf_no512 ok)
