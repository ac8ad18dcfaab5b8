/-! the law, case by case: both answer alike, and the relation stays -/
theorem lw_bmod {L : Nat} (hL : L ≤ 2560) : (nI L - 5).toInt = (L : Int) - 5 := by
  rw [Int32.toInt_sub, nI_toInt (by omega)]
  show Int.bmod ((L : Int) - 5) (2 ^ 32) = _
  rw [Int.bmod_def]
  omega
theorem lw_cmp {L k : Nat} (hL : L ≤ 2560) (hk : 5 * k ≤ L + 5) : nI L - 5 < nI (5 * k) ↔ L < 5 * k + 5 := by
  rw [Int32.lt_iff_toInt_lt, lw_bmod hL, nI_toInt (by omega)]
  omega
section LAWC
variable {J : fx_J LS2} {κX κM : fx_K} {L : Nat} {xs : Nat → Int32} {i : Int32} {X M : fx_S}
theorem lc_120 (hX : fx_I κX lyX.length) (hM : fx_I κM lyM.length) (hT : ∀ r ∈ tl_120 κX κM L xs, fx_Snd J r.1 r.2) (ht : ∀ pc k ls st S, J pc (ls.take k) st S → J pc ls st S) (v1 : vp_in (i + 1) L) (v2 : vp_in (i + 2) L) (v3 : vp_in (i + 3) L) (v4 : vp_in (i + 4) L) (hR : RR X M) (nx : ∀ X' M', RR X' M' → J 584 [.inr 2, .inr 0, .inr 1, .inl i] [] (X', M')) : J 120 [.inr 2, .inr 0, .inr 1, .inl i] [] (X, M) := by
  obtain ⟨nS, nE, nT, nO, nA, hs, hd⟩ := hR
  have hs0 := hs
  obtain ⟨⟨s1, s2, s3⟩, ⟨e1, e2, e3⟩, ⟨t1, t2, t3⟩, ⟨o1, o2, o3⟩, ⟨a1, a2, a3⟩, ⟨w8, w10, w11, w12, w13, w14, w15, w16, w18, w19, w20, w21, w22, w23, w24⟩, ⟨g9, g17, g3⟩, gp, ⟨ge, gdp⟩, gt, go, ga⟩ := hs0
  refine fx_go_ok [(584, 4)] 99 hT ht ?_
  refine And.intro v1 (And.intro v2 (And.intro (fun h0 => ?_) (fun h0 => ?_)))
  · refine fx_ex _ (ct_Fc_step hX s1 s3 _ 0) ?_
    intro r X' hx
    refine And.intro v1 (And.intro v2 (And.intro (fun _ => ?_) (fun h => absurd h0 h)))
    refine fx_ex _ (ct_Md_step hM s2 s3 _ (Or.inl rfl)) ?_
    intro r' M' hm
    have z := sim_step hs hd hx hm
    exact And.intro (fun _ => nx _ _ z.2) (fun h => absurd z.1 h)
  · refine fx_ex _ (ct_Fc_step hX s1 s3 _ 1) ?_
    intro r X' hx
    refine And.intro v1 (And.intro v2 (And.intro (fun h => absurd h h0) (fun _ => ?_)))
    refine fx_ex _ (ct_Md_step hM s2 s3 _ (Or.inr rfl)) ?_
    intro r' M' hm
    have z := sim_step hs hd hx hm
    exact And.intro (fun _ => nx _ _ z.2) (fun h => absurd z.1 h)
theorem lc_169 (hX : fx_I κX lyX.length) (hM : fx_I κM lyM.length) (hT : ∀ r ∈ tl_169 κX κM L xs, fx_Snd J r.1 r.2) (ht : ∀ pc k ls st S, J pc (ls.take k) st S → J pc ls st S) (v1 : vp_in (i + 1) L) (v2 : vp_in (i + 2) L) (v3 : vp_in (i + 3) L) (v4 : vp_in (i + 4) L) (hR : RR X M) (nx : ∀ X' M', RR X' M' → J 584 [.inr 2, .inr 0, .inr 1, .inl i] [] (X', M')) : J 169 [.inr 2, .inr 0, .inr 1, .inl i] [] (X, M) := by
  obtain ⟨nS, nE, nT, nO, nA, hs, hd⟩ := hR
  have hs0 := hs
  obtain ⟨⟨s1, s2, s3⟩, ⟨e1, e2, e3⟩, ⟨t1, t2, t3⟩, ⟨o1, o2, o3⟩, ⟨a1, a2, a3⟩, ⟨w8, w10, w11, w12, w13, w14, w15, w16, w18, w19, w20, w21, w22, w23, w24⟩, ⟨g9, g17, g3⟩, gp, ⟨ge, gdp⟩, gt, go, ga⟩ := hs0
  refine fx_go_ok [(584, 4)] 99 hT ht ?_
  refine And.intro v1 (And.intro v2 (And.intro v3 (?_)))
  refine fx_ex _ (ct_Fc_expression hX e1 e3 _ _ _) ?_
  intro r X' hx
  refine And.intro v1 (And.intro v2 (And.intro v3 (?_)))
  refine fx_ex _ (ct_Md_expression hM e2 e3 gdp _ _ _) ?_
  intro r' M' hm
  have z := sim_expression hs hd hx hm
  exact And.intro (fun _ => nx _ _ z.2) (fun h => absurd z.1 h)
theorem lc_212 (hX : fx_I κX lyX.length) (hM : fx_I κM lyM.length) (hT : ∀ r ∈ tl_212 κX κM L xs, fx_Snd J r.1 r.2) (ht : ∀ pc k ls st S, J pc (ls.take k) st S → J pc ls st S) (v1 : vp_in (i + 1) L) (v2 : vp_in (i + 2) L) (v3 : vp_in (i + 3) L) (v4 : vp_in (i + 4) L) (hR : RR X M) (nx : ∀ X' M', RR X' M' → J 584 [.inr 2, .inr 0, .inr 1, .inl i] [] (X', M')) : J 212 [.inr 2, .inr 0, .inr 1, .inl i] [] (X, M) := by
  obtain ⟨nS, nE, nT, nO, nA, hs, hd⟩ := hR
  have hs0 := hs
  obtain ⟨⟨s1, s2, s3⟩, ⟨e1, e2, e3⟩, ⟨t1, t2, t3⟩, ⟨o1, o2, o3⟩, ⟨a1, a2, a3⟩, ⟨w8, w10, w11, w12, w13, w14, w15, w16, w18, w19, w20, w21, w22, w23, w24⟩, ⟨g9, g17, g3⟩, gp, ⟨ge, gdp⟩, gt, go, ga⟩ := hs0
  refine fx_go_ok [(584, 4)] 99 hT ht ?_
  refine And.intro v1 (And.intro v2 (And.intro v3 (?_)))
  refine fx_ex _ (ct_Fc_transition hX t1 t3 _ _ _) ?_
  intro r X' hx
  refine And.intro v1 (And.intro v2 (And.intro v3 (?_)))
  refine fx_ex _ (ct_Md_transition hM t2 t3 s2 s3 _ _ _) ?_
  intro r' M' hm
  have z := sim_transition hs hd hx hm
  exact And.intro (fun _ => nx _ _ z.2) (fun h => absurd z.1 h)
theorem lc_255 (hX : fx_I κX lyX.length) (hM : fx_I κM lyM.length) (hT : ∀ r ∈ tl_255 κX κM L xs, fx_Snd J r.1 r.2) (ht : ∀ pc k ls st S, J pc (ls.take k) st S → J pc ls st S) (v1 : vp_in (i + 1) L) (v2 : vp_in (i + 2) L) (v3 : vp_in (i + 3) L) (v4 : vp_in (i + 4) L) (hR : RR X M) (nx : ∀ X' M', RR X' M' → J 584 [.inr 2, .inr 0, .inr 1, .inl i] [] (X', M')) : J 255 [.inr 2, .inr 0, .inr 1, .inl i] [] (X, M) := by
  obtain ⟨nS, nE, nT, nO, nA, hs, hd⟩ := hR
  have hs0 := hs
  obtain ⟨⟨s1, s2, s3⟩, ⟨e1, e2, e3⟩, ⟨t1, t2, t3⟩, ⟨o1, o2, o3⟩, ⟨a1, a2, a3⟩, ⟨w8, w10, w11, w12, w13, w14, w15, w16, w18, w19, w20, w21, w22, w23, w24⟩, ⟨g9, g17, g3⟩, gp, ⟨ge, gdp⟩, gt, go, ga⟩ := hs0
  refine fx_go_ok [(584, 4)] 99 hT ht ?_
  refine And.intro v1 (And.intro v2 (And.intro v3 (?_)))
  refine fx_ex _ (ct_Fc_order hX o1 o3 s1 s3 (fun k hk => by show ∃ p, p < 3 ∧ X 8 k = nI p; rw [w8]; exact gp k hk) _ _ _) ?_
  intro r X' hx
  refine And.intro v1 (And.intro v2 (And.intro v3 (?_)))
  refine fx_ex _ (ct_Md_order hM o2 o3 s2 s3 _ _ _) ?_
  intro r' M' hm
  have z := sim_order hs hd hx hm
  exact And.intro (fun _ => nx _ _ z.2) (fun h => absurd z.1 h)
theorem lc_298 (hX : fx_I κX lyX.length) (hM : fx_I κM lyM.length) (hT : ∀ r ∈ tl_298 κX κM L xs, fx_Snd J r.1 r.2) (ht : ∀ pc k ls st S, J pc (ls.take k) st S → J pc ls st S) (v1 : vp_in (i + 1) L) (v2 : vp_in (i + 2) L) (v3 : vp_in (i + 3) L) (v4 : vp_in (i + 4) L) (hR : RR X M) (nx : ∀ X' M', RR X' M' → J 584 [.inr 2, .inr 0, .inr 1, .inl i] [] (X', M')) : J 298 [.inr 2, .inr 0, .inr 1, .inl i] [] (X, M) := by
  obtain ⟨nS, nE, nT, nO, nA, hs, hd⟩ := hR
  have hs0 := hs
  obtain ⟨⟨s1, s2, s3⟩, ⟨e1, e2, e3⟩, ⟨t1, t2, t3⟩, ⟨o1, o2, o3⟩, ⟨a1, a2, a3⟩, ⟨w8, w10, w11, w12, w13, w14, w15, w16, w18, w19, w20, w21, w22, w23, w24⟩, ⟨g9, g17, g3⟩, gp, ⟨ge, gdp⟩, gt, go, ga⟩ := hs0
  refine fx_go_ok [(584, 4)] 99 hT ht ?_
  refine And.intro v1 (And.intro v2 (And.intro v3 (And.intro v4 (?_))))
  refine fx_ex _ (ct_Fc_action hX a1 a3 _ _ _ _) ?_
  intro r X' hx
  refine And.intro v1 (And.intro v2 (And.intro v3 (And.intro v4 (?_))))
  refine fx_ex _ (ct_Md_action hM a2 a3 _ _ _ _) ?_
  intro r' M' hm
  have z := sim_action hs hd hx hm
  exact And.intro (fun _ => nx _ _ z.2) (fun h => absurd z.1 h)
theorem lc_351 (hX : fx_I κX lyX.length) (hM : fx_I κM lyM.length) (hT : ∀ r ∈ tl_351 κX κM L xs, fx_Snd J r.1 r.2) (ht : ∀ pc k ls st S, J pc (ls.take k) st S → J pc ls st S) (v1 : vp_in (i + 1) L) (v2 : vp_in (i + 2) L) (v3 : vp_in (i + 3) L) (v4 : vp_in (i + 4) L) (hR : RR X M) (nx : ∀ X' M', RR X' M' → J 584 [.inr 2, .inr 0, .inr 1, .inl i] [] (X', M')) : J 351 [.inr 2, .inr 0, .inr 1, .inl i] [] (X, M) := by
  obtain ⟨nS, nE, nT, nO, nA, hs, hd⟩ := hR
  have hs0 := hs
  obtain ⟨⟨s1, s2, s3⟩, ⟨e1, e2, e3⟩, ⟨t1, t2, t3⟩, ⟨o1, o2, o3⟩, ⟨a1, a2, a3⟩, ⟨w8, w10, w11, w12, w13, w14, w15, w16, w18, w19, w20, w21, w22, w23, w24⟩, ⟨g9, g17, g3⟩, gp, ⟨ge, gdp⟩, gt, go, ga⟩ := hs0
  refine fx_go_ok [(584, 4)] 99 hT ht ?_
  refine fx_ex _ (ct_Fc_unreached hX t1 t3 o1 o3) ?_
  intro r X' hx
  refine fx_ex _ (ct_Md_unreached hM s2 s3 t2 t3 o2 o3) ?_
  intro r' M' hm
  have z := sim_unreached hs hd hx hm
  exact And.intro (fun _ => nx _ _ z.2) (fun h => absurd z.1 h)
theorem lc_364 (hX : fx_I κX lyX.length) (hM : fx_I κM lyM.length) (hT : ∀ r ∈ tl_364 κX κM L xs, fx_Snd J r.1 r.2) (ht : ∀ pc k ls st S, J pc (ls.take k) st S → J pc ls st S) (v1 : vp_in (i + 1) L) (v2 : vp_in (i + 2) L) (v3 : vp_in (i + 3) L) (v4 : vp_in (i + 4) L) (hR : RR X M) (nx : ∀ X' M', RR X' M' → J 584 [.inr 2, .inr 0, .inr 1, .inl i] [] (X', M')) : J 364 [.inr 2, .inr 0, .inr 1, .inl i] [] (X, M) := by
  obtain ⟨nS, nE, nT, nO, nA, hs, hd⟩ := hR
  have hs0 := hs
  obtain ⟨⟨s1, s2, s3⟩, ⟨e1, e2, e3⟩, ⟨t1, t2, t3⟩, ⟨o1, o2, o3⟩, ⟨a1, a2, a3⟩, ⟨w8, w10, w11, w12, w13, w14, w15, w16, w18, w19, w20, w21, w22, w23, w24⟩, ⟨g9, g17, g3⟩, gp, ⟨ge, gdp⟩, gt, go, ga⟩ := hs0
  refine fx_go_ok [(584, 4)] 99 hT ht ?_
  refine And.intro v1 (And.intro (fun h0 => ?_) (fun h0 => ?_))
  · refine fx_ex _ (ct_Fc_start hX (st := 0) (Or.inl rfl)) ?_
    intro r X' hx
    refine And.intro v1 (And.intro (fun _ => ?_) (fun h => absurd h0 h))
    refine fx_ex _ (ct_Md_start hM s2 s3 (st := 0) (Or.inl rfl)) ?_
    intro r' M' hm
    have z := sim_start hs hd hx hm
    exact And.intro (fun _ => nx _ _ z.2) (fun h => absurd z.1 h)
  · refine fx_ex _ (ct_Fc_start hX (st := 1) (Or.inr rfl)) ?_
    intro r X' hx
    refine And.intro v1 (And.intro (fun h => absurd h h0) (fun _ => ?_))
    refine fx_ex _ (ct_Md_start hM s2 s3 (st := 1) (Or.inr rfl)) ?_
    intro r' M' hm
    have z := sim_start hs hd hx hm
    exact And.intro (fun _ => nx _ _ z.2) (fun h => absurd z.1 h)
theorem lc_403 (hX : fx_I κX lyX.length) (hM : fx_I κM lyM.length) (hT : ∀ r ∈ tl_403 κX κM L xs, fx_Snd J r.1 r.2) (ht : ∀ pc k ls st S, J pc (ls.take k) st S → J pc ls st S) (v1 : vp_in (i + 1) L) (v2 : vp_in (i + 2) L) (v3 : vp_in (i + 3) L) (v4 : vp_in (i + 4) L) (hR : RR X M) (nx : ∀ X' M', RR X' M' → J 584 [.inr 2, .inr 0, .inr 1, .inl i] [] (X', M')) : J 403 [.inr 2, .inr 0, .inr 1, .inl i] [] (X, M) := by
  obtain ⟨nS, nE, nT, nO, nA, hs, hd⟩ := hR
  have hs0 := hs
  obtain ⟨⟨s1, s2, s3⟩, ⟨e1, e2, e3⟩, ⟨t1, t2, t3⟩, ⟨o1, o2, o3⟩, ⟨a1, a2, a3⟩, ⟨w8, w10, w11, w12, w13, w14, w15, w16, w18, w19, w20, w21, w22, w23, w24⟩, ⟨g9, g17, g3⟩, gp, ⟨ge, gdp⟩, gt, go, ga⟩ := hs0
  refine fx_go_ok [(584, 4)] 99 hT ht ?_
  refine fx_ex _ (ct_Fc_stop hX) ?_
  intro r X' hx
  refine fx_ex _ (ct_Md_stop hM) ?_
  intro r' M' hm
  exact nx _ _ (sim_stop hs hd hx hm)
theorem lc_414 (hX : fx_I κX lyX.length) (hM : fx_I κM lyM.length) (hT : ∀ r ∈ tl_414 κX κM L xs, fx_Snd J r.1 r.2) (ht : ∀ pc k ls st S, J pc (ls.take k) st S → J pc ls st S) (v1 : vp_in (i + 1) L) (v2 : vp_in (i + 2) L) (v3 : vp_in (i + 3) L) (v4 : vp_in (i + 4) L) (hR : RR X M) (nx : ∀ X' M', RR X' M' → J 584 [.inr 2, .inr 0, .inr 1, .inl i] [] (X', M')) : J 414 [.inr 2, .inr 0, .inr 1, .inl i] [] (X, M) := by
  obtain ⟨nS, nE, nT, nO, nA, hs, hd⟩ := hR
  have hs0 := hs
  obtain ⟨⟨s1, s2, s3⟩, ⟨e1, e2, e3⟩, ⟨t1, t2, t3⟩, ⟨o1, o2, o3⟩, ⟨a1, a2, a3⟩, ⟨w8, w10, w11, w12, w13, w14, w15, w16, w18, w19, w20, w21, w22, w23, w24⟩, ⟨g9, g17, g3⟩, gp, ⟨ge, gdp⟩, gt, go, ga⟩ := hs0
  refine fx_go_ok [(584, 4)] 99 hT ht ?_
  refine And.intro v1 (And.intro v2 ?_)
  refine fx_ex _ (ct_Fc_scan hX e1 e3 (fun k hk h4 => by
    have h4 : X 10 k = 4 := h4
    show ∃ a, a < 8 ∧ X 11 k = nI a
    rw [w10] at h4; rw [w11]; exact (ge k hk).1 h4) t1 t3 o1 o3 a1 a3 (fun k hk => by
    show ∃ o, o < 8 ∧ X 21 k = nI o
    rw [w21]; exact (ga k hk).1) _ _) ?_
  intro r X' hx
  refine And.intro v1 (And.intro v2 ?_)
  rcases hx with hx | ⟨c1, tb, htb, hx⟩
  · refine fx_ex _ (ct_Md_scan hM (RS_wfM hs) a2 a3 (fun k hk => (ga k hk).1) (fun k hk => (ga k hk).2) hd.2.2.2.2.2.2.2.2.2.2.2.2 (RS_ok hs) hd.2.2.2.2.2.2.2.2.2.2.2.1 _ _ (fun k _ => rfl)) ?_
    intro r' M' hm
    have z := sim_scan hs hd (Or.inl hx) hm
    exact And.intro (fun _ => nx _ _ z.2) (fun h => absurd z.1 h)
  · refine fx_ex _ (ct_Md_scan hM (RS_wfM hs) a2 a3 (fun k hk => (ga k hk).1) (fun k hk => (ga k hk).2) hd.2.2.2.2.2.2.2.2.2.2.2.2 (RS_ok hs) hd.2.2.2.2.2.2.2.2.2.2.2.1 _ _ (tb := tb) (fun k hk => by rw [htb k hk]; show X 7 k + _ = M 20 k + _; rw [hd.2.2.2.2.2.2.2.2.2.2.1 k hk])) ?_
    intro r' M' hm
    have z := sim_scan hs hd (Or.inr ⟨c1, hx⟩) hm
    exact And.intro (fun _ => nx _ _ z.2) (fun h => absurd z.1 h)
theorem lc_447 (hX : fx_I κX lyX.length) (hM : fx_I κM lyM.length) (hT : ∀ r ∈ tl_447 κX κM L xs, fx_Snd J r.1 r.2) (ht : ∀ pc k ls st S, J pc (ls.take k) st S → J pc ls st S) (v1 : vp_in (i + 1) L) (v2 : vp_in (i + 2) L) (v3 : vp_in (i + 3) L) (v4 : vp_in (i + 4) L) (hR : RR X M) (nx : ∀ X' M', RR X' M' → J 584 [.inr 2, .inr 0, .inr 1, .inl i] [] (X', M')) : J 447 [.inr 2, .inr 0, .inr 1, .inl i] [] (X, M) := by
  obtain ⟨nS, nE, nT, nO, nA, hs, hd⟩ := hR
  have hs0 := hs
  obtain ⟨⟨s1, s2, s3⟩, ⟨e1, e2, e3⟩, ⟨t1, t2, t3⟩, ⟨o1, o2, o3⟩, ⟨a1, a2, a3⟩, ⟨w8, w10, w11, w12, w13, w14, w15, w16, w18, w19, w20, w21, w22, w23, w24⟩, ⟨g9, g17, g3⟩, gp, ⟨ge, gdp⟩, gt, go, ga⟩ := hs0
  refine fx_go_ok [(584, 4)] 99 hT ht ?_
  refine fx_ex _ (ct_Fc_active hX) ?_
  intro r X' hx
  refine fx_ex _ (ct_Md_active hM) ?_
  intro r' M' hm
  have z := sim_same hs hd (hd.2.2.1) hx hm
  exact And.intro (fun _ => nx _ _ z.2) (fun h => absurd z.1 h)
theorem lc_460 (hX : fx_I κX lyX.length) (hM : fx_I κM lyM.length) (hT : ∀ r ∈ tl_460 κX κM L xs, fx_Snd J r.1 r.2) (ht : ∀ pc k ls st S, J pc (ls.take k) st S → J pc ls st S) (v1 : vp_in (i + 1) L) (v2 : vp_in (i + 2) L) (v3 : vp_in (i + 3) L) (v4 : vp_in (i + 4) L) (hR : RR X M) (nx : ∀ X' M', RR X' M' → J 584 [.inr 2, .inr 0, .inr 1, .inl i] [] (X', M')) : J 460 [.inr 2, .inr 0, .inr 1, .inl i] [] (X, M) := by
  obtain ⟨nS, nE, nT, nO, nA, hs, hd⟩ := hR
  have hs0 := hs
  obtain ⟨⟨s1, s2, s3⟩, ⟨e1, e2, e3⟩, ⟨t1, t2, t3⟩, ⟨o1, o2, o3⟩, ⟨a1, a2, a3⟩, ⟨w8, w10, w11, w12, w13, w14, w15, w16, w18, w19, w20, w21, w22, w23, w24⟩, ⟨g9, g17, g3⟩, gp, ⟨ge, gdp⟩, gt, go, ga⟩ := hs0
  refine fx_go_ok [(584, 4)] 99 hT ht ?_
  refine And.intro v1 (?_)
  refine fx_ex _ (ct_Fc_time hX s1 s3 _) ?_
  intro r X' hx
  refine And.intro v1 (?_)
  refine fx_ex _ (ct_Md_time hM s2 s3 _) ?_
  intro r' M' hm
  have z := sim_same hs hd (sim_time hs hd _) hx hm
  exact And.intro (fun _ => nx _ _ z.2) (fun h => absurd z.1 h)
theorem lc_483 (hX : fx_I κX lyX.length) (hM : fx_I κM lyM.length) (hT : ∀ r ∈ tl_483 κX κM L xs, fx_Snd J r.1 r.2) (ht : ∀ pc k ls st S, J pc (ls.take k) st S → J pc ls st S) (v1 : vp_in (i + 1) L) (v2 : vp_in (i + 2) L) (v3 : vp_in (i + 3) L) (v4 : vp_in (i + 4) L) (hR : RR X M) (nx : ∀ X' M', RR X' M' → J 584 [.inr 2, .inr 0, .inr 1, .inl i] [] (X', M')) : J 483 [.inr 2, .inr 0, .inr 1, .inl i] [] (X, M) := by
  obtain ⟨nS, nE, nT, nO, nA, hs, hd⟩ := hR
  have hs0 := hs
  obtain ⟨⟨s1, s2, s3⟩, ⟨e1, e2, e3⟩, ⟨t1, t2, t3⟩, ⟨o1, o2, o3⟩, ⟨a1, a2, a3⟩, ⟨w8, w10, w11, w12, w13, w14, w15, w16, w18, w19, w20, w21, w22, w23, w24⟩, ⟨g9, g17, g3⟩, gp, ⟨ge, gdp⟩, gt, go, ga⟩ := hs0
  refine fx_go_ok [(584, 4)] 99 hT ht ?_
  refine fx_ex _ (ct_Fc_enabled hX t1 t3) ?_
  intro r X' hx
  refine fx_ex _ (ct_Md_enabled hM t2 t3) ?_
  intro r' M' hm
  have z := sim_same hs hd (sim_enabled hs hd) hx hm
  exact And.intro (fun _ => nx _ _ z.2) (fun h => absurd z.1 h)
theorem lc_496 (hX : fx_I κX lyX.length) (hM : fx_I κM lyM.length) (hT : ∀ r ∈ tl_496 κX κM L xs, fx_Snd J r.1 r.2) (ht : ∀ pc k ls st S, J pc (ls.take k) st S → J pc ls st S) (v1 : vp_in (i + 1) L) (v2 : vp_in (i + 2) L) (v3 : vp_in (i + 3) L) (v4 : vp_in (i + 4) L) (hR : RR X M) (nx : ∀ X' M', RR X' M' → J 584 [.inr 2, .inr 0, .inr 1, .inl i] [] (X', M')) : J 496 [.inr 2, .inr 0, .inr 1, .inl i] [] (X, M) := by
  obtain ⟨nS, nE, nT, nO, nA, hs, hd⟩ := hR
  have hs0 := hs
  obtain ⟨⟨s1, s2, s3⟩, ⟨e1, e2, e3⟩, ⟨t1, t2, t3⟩, ⟨o1, o2, o3⟩, ⟨a1, a2, a3⟩, ⟨w8, w10, w11, w12, w13, w14, w15, w16, w18, w19, w20, w21, w22, w23, w24⟩, ⟨g9, g17, g3⟩, gp, ⟨ge, gdp⟩, gt, go, ga⟩ := hs0
  refine fx_go_ok [(584, 4)] 99 hT ht ?_
  refine fx_ex _ (ct_Fc_outputs hX) ?_
  intro r X' hx
  refine fx_ex _ (ct_Md_outputs hM) ?_
  intro r' M' hm
  have z := sim_same hs hd (hd.2.2.2.2.2.1) hx hm
  exact And.intro (fun _ => nx _ _ z.2) (fun h => absurd z.1 h)
theorem lc_509 (hX : fx_I κX lyX.length) (hM : fx_I κM lyM.length) (hT : ∀ r ∈ tl_509 κX κM L xs, fx_Snd J r.1 r.2) (ht : ∀ pc k ls st S, J pc (ls.take k) st S → J pc ls st S) (v1 : vp_in (i + 1) L) (v2 : vp_in (i + 2) L) (v3 : vp_in (i + 3) L) (v4 : vp_in (i + 4) L) (hR : RR X M) (nx : ∀ X' M', RR X' M' → J 584 [.inr 2, .inr 0, .inr 1, .inl i] [] (X', M')) : J 509 [.inr 2, .inr 0, .inr 1, .inl i] [] (X, M) := by
  obtain ⟨nS, nE, nT, nO, nA, hs, hd⟩ := hR
  have hs0 := hs
  obtain ⟨⟨s1, s2, s3⟩, ⟨e1, e2, e3⟩, ⟨t1, t2, t3⟩, ⟨o1, o2, o3⟩, ⟨a1, a2, a3⟩, ⟨w8, w10, w11, w12, w13, w14, w15, w16, w18, w19, w20, w21, w22, w23, w24⟩, ⟨g9, g17, g3⟩, gp, ⟨ge, gdp⟩, gt, go, ga⟩ := hs0
  refine fx_go_ok [(584, 4)] 99 hT ht ?_
  refine And.intro v1 (?_)
  refine fx_ex _ (ct_Fc_stored hX _) ?_
  intro r X' hx
  refine And.intro v1 (?_)
  refine fx_ex _ (ct_Md_stored hM a2 a3 _) ?_
  intro r' M' hm
  have z := sim_same hs hd (sim_stored hs hd _) hx hm
  exact And.intro (fun _ => nx _ _ z.2) (fun h => absurd z.1 h)
theorem lc_532 (hX : fx_I κX lyX.length) (hM : fx_I κM lyM.length) (hT : ∀ r ∈ tl_532 κX κM L xs, fx_Snd J r.1 r.2) (ht : ∀ pc k ls st S, J pc (ls.take k) st S → J pc ls st S) (v1 : vp_in (i + 1) L) (v2 : vp_in (i + 2) L) (v3 : vp_in (i + 3) L) (v4 : vp_in (i + 4) L) (hR : RR X M) (nx : ∀ X' M', RR X' M' → J 584 [.inr 2, .inr 0, .inr 1, .inl i] [] (X', M')) : J 532 [.inr 2, .inr 0, .inr 1, .inl i] [] (X, M) := by
  obtain ⟨nS, nE, nT, nO, nA, hs, hd⟩ := hR
  have hs0 := hs
  obtain ⟨⟨s1, s2, s3⟩, ⟨e1, e2, e3⟩, ⟨t1, t2, t3⟩, ⟨o1, o2, o3⟩, ⟨a1, a2, a3⟩, ⟨w8, w10, w11, w12, w13, w14, w15, w16, w18, w19, w20, w21, w22, w23, w24⟩, ⟨g9, g17, g3⟩, gp, ⟨ge, gdp⟩, gt, go, ga⟩ := hs0
  refine fx_go_ok [(584, 4)] 99 hT ht ?_
  refine fx_ex _ (ct_Fc_evolutions hX) ?_
  intro r X' hx
  refine fx_ex _ (ct_Md_evolutions hM) ?_
  intro r' M' hm
  have z := sim_same hs hd (hd.2.2.2.2.2.2.1) hx hm
  exact And.intro (fun _ => nx _ _ z.2) (fun h => absurd z.1 h)
theorem lc_545 (hX : fx_I κX lyX.length) (hM : fx_I κM lyM.length) (hT : ∀ r ∈ tl_545 κX κM L xs, fx_Snd J r.1 r.2) (ht : ∀ pc k ls st S, J pc (ls.take k) st S → J pc ls st S) (v1 : vp_in (i + 1) L) (v2 : vp_in (i + 2) L) (v3 : vp_in (i + 3) L) (v4 : vp_in (i + 4) L) (hR : RR X M) (nx : ∀ X' M', RR X' M' → J 584 [.inr 2, .inr 0, .inr 1, .inl i] [] (X', M')) : J 545 [.inr 2, .inr 0, .inr 1, .inl i] [] (X, M) := by
  obtain ⟨nS, nE, nT, nO, nA, hs, hd⟩ := hR
  have hs0 := hs
  obtain ⟨⟨s1, s2, s3⟩, ⟨e1, e2, e3⟩, ⟨t1, t2, t3⟩, ⟨o1, o2, o3⟩, ⟨a1, a2, a3⟩, ⟨w8, w10, w11, w12, w13, w14, w15, w16, w18, w19, w20, w21, w22, w23, w24⟩, ⟨g9, g17, g3⟩, gp, ⟨ge, gdp⟩, gt, go, ga⟩ := hs0
  refine fx_go_ok [(584, 4)] 99 hT ht ?_
  refine fx_ex _ (ct_Fc_cleared hX) ?_
  intro r X' hx
  refine fx_ex _ (ct_Md_cleared hM) ?_
  intro r' M' hm
  have z := sim_same hs hd (hd.2.2.2.2.2.2.2.1) hx hm
  exact And.intro (fun _ => nx _ _ z.2) (fun h => absurd z.1 h)
theorem lc_558 (hX : fx_I κX lyX.length) (hM : fx_I κM lyM.length) (hT : ∀ r ∈ tl_558 κX κM L xs, fx_Snd J r.1 r.2) (ht : ∀ pc k ls st S, J pc (ls.take k) st S → J pc ls st S) (v1 : vp_in (i + 1) L) (v2 : vp_in (i + 2) L) (v3 : vp_in (i + 3) L) (v4 : vp_in (i + 4) L) (hR : RR X M) (nx : ∀ X' M', RR X' M' → J 584 [.inr 2, .inr 0, .inr 1, .inl i] [] (X', M')) : J 558 [.inr 2, .inr 0, .inr 1, .inl i] [] (X, M) := by
  obtain ⟨nS, nE, nT, nO, nA, hs, hd⟩ := hR
  have hs0 := hs
  obtain ⟨⟨s1, s2, s3⟩, ⟨e1, e2, e3⟩, ⟨t1, t2, t3⟩, ⟨o1, o2, o3⟩, ⟨a1, a2, a3⟩, ⟨w8, w10, w11, w12, w13, w14, w15, w16, w18, w19, w20, w21, w22, w23, w24⟩, ⟨g9, g17, g3⟩, gp, ⟨ge, gdp⟩, gt, go, ga⟩ := hs0
  refine fx_go_ok [(584, 4)] 99 hT ht ?_
  refine fx_ex _ (ct_Fc_lead hX) ?_
  intro r X' hx
  refine fx_ex _ (ct_Md_lead hM) ?_
  intro r' M' hm
  have z := sim_same hs hd (hd.2.2.2.2.2.2.2.2.1) hx hm
  exact And.intro (fun _ => nx _ _ z.2) (fun h => absurd z.1 h)
theorem lc_571 (hX : fx_I κX lyX.length) (hM : fx_I κM lyM.length) (hT : ∀ r ∈ tl_571 κX κM L xs, fx_Snd J r.1 r.2) (ht : ∀ pc k ls st S, J pc (ls.take k) st S → J pc ls st S) (v1 : vp_in (i + 1) L) (v2 : vp_in (i + 2) L) (v3 : vp_in (i + 3) L) (v4 : vp_in (i + 4) L) (hR : RR X M) (nx : ∀ X' M', RR X' M' → J 584 [.inr 2, .inr 0, .inr 1, .inl i] [] (X', M')) : J 571 [.inr 2, .inr 0, .inr 1, .inl i] [] (X, M) := by
  obtain ⟨nS, nE, nT, nO, nA, hs, hd⟩ := hR
  have hs0 := hs
  obtain ⟨⟨s1, s2, s3⟩, ⟨e1, e2, e3⟩, ⟨t1, t2, t3⟩, ⟨o1, o2, o3⟩, ⟨a1, a2, a3⟩, ⟨w8, w10, w11, w12, w13, w14, w15, w16, w18, w19, w20, w21, w22, w23, w24⟩, ⟨g9, g17, g3⟩, gp, ⟨ge, gdp⟩, gt, go, ga⟩ := hs0
  refine fx_go_ok [(584, 4)] 99 hT ht ?_
  refine fx_ex _ (ct_Fc_period hX) ?_
  intro r X' hx
  refine fx_ex _ (ct_Md_period hM) ?_
  intro r' M' hm
  have z := sim_same hs hd (hd.2.2.2.2.2.2.2.2.2.1) hx hm
  exact And.intro (fun _ => nx _ _ z.2) (fun h => absurd z.1 h)
end LAWC
