/-! a scan of the class -/
def pf_t8 (old : Nat → Int32) (ti : Int32) (tb : Nat → Int32) (k : Nat) : Nat → Int32 := fun j => if j < k then pf_tm ti tb (nI j) else old j
def pf_acts (S : fx_S) (si ti : Int32) (tb : Nat → Int32) (dt : Int32) (nA : Nat) : (Int32 × (Nat → Int32)) × Int32 :=
  pf_act (S 21) (S 22) (S 23) (S 24) si (S 0 10) (pf_rs (S 21) (S 22) (S 23) si nA) (pf_t8 (S 7) ti tb 8) (S 5 6, pf_gr (S 25) (S 5 6) dt nA) nA
/-- a trial is kept: situation, steps with a time, cleared, number of evolutions -/
def pf_keep (S S' : fx_S) (si ti cl n : Int32) (tb : Nat → Int32) (dt : Int32) (nA : Nat) : Prop :=
  S' 0 9 = si ∧ S' 0 10 = si ∧ S' 0 12 = (pf_acts S si ti tb dt nA).2 &&& (pf_rs (S 21) (S 22) (S 23) si nA ^^^ (-1)) ∧ S' 0 13 = n ∧ S' 0 14 = cl ∧ S' 7 = pf_t8 (S 7) ti tb 8 ∧ S' 5 6 = (pf_acts S si ti tb dt nA).1.1 ∧ S' 25 = (pf_acts S si ti tb dt nA).1.2 ∧ (∀ j, j ≠ 6 → S' 5 j = S 5 j) ∧ ∀ b, b ≠ 0 → b ≠ 5 → b ≠ 6 → b ≠ 7 → b ≠ 25 → b ≠ 26 → b ≠ 27 → S' b = S b
theorem pf_keep_of {S U S' : fx_S} (h : ∀ b, b ≠ 0 → b ≠ 6 → b ≠ 26 → b ≠ 27 → U b = S b) (h10 : U 0 10 = S 0 10) {si ti cl n : Int32} {tb : Nat → Int32} {dt : Int32} {nA : Nat} (hk : pf_keep U S' si ti cl n tb dt nA) : pf_keep S S' si ti cl n tb dt nA := by
  have g : ∀ b, b ≠ 0 → b ≠ 6 → b ≠ 26 → b ≠ 27 → U b = S b := h
  unfold pf_keep pf_acts at hk ⊢
  rw [g 21 (by decide) (by decide) (by decide) (by decide), g 22 (by decide) (by decide) (by decide) (by decide), g 23 (by decide) (by decide) (by decide) (by decide), g 24 (by decide) (by decide) (by decide) (by decide), g 5 (by decide) (by decide) (by decide) (by decide), g 7 (by decide) (by decide) (by decide) (by decide), g 25 (by decide) (by decide) (by decide) (by decide), h10] at hk
  obtain ⟨k1, k2, k3, k4, k5, k6, k7, k8, k9, k10⟩ := hk
  refine ⟨k1, k2, k3, k4, k5, k6, k7, k8, k9, fun b b0 b5 b6 b7 b25 b26 b27 => ?_⟩
  rw [k10 b b0 b5 b6 b7 b25 b26 b27]
  exact g b b0 b6 b26 b27
section SCAN
variable {κ : fx_K} {S : fx_S}
theorem ct_Fc_keepTrial (hq : fx_I κ lyX.length) {nA : Nat} (hnA : S 5 5 = nI nA) (hbA : nA ≤ 12) (ho : ∀ k, k < nA → ∃ o, o < 8 ∧ S 21 k = nI o) (dt : Int32) : MC_Fc_keepTrial κ [.inr 0, .inl dt] S (fun _ S' => pf_keep S S' (S 6 5) (S 6 6) (S 6 7) (S 6 8) (S 26) dt nA ∧ ∀ j, j ≠ 9 → j ≠ 10 → j ≠ 12 → j ≠ 13 → j ≠ 14 → S' 0 j = S 0 j) := by
  refine mo_Fc_keepTrial hq (Nat.le_of_ble_eq_true rfl) ?_
  intro J hT ht
  have loop : ∀ (j k : Nat) (i : Int32) (U : fx_S), k + j = 8 → i = nI k → U = fx_row (fx_up S 0 9 (S 6 5)) 7 (pf_t8 (S 7) (S 6 6) (S 26) k) → J 13 [.inr 0, .inl dt, .inl i] [] U := by
    intro j
    induction j with
    | zero =>
      intro k i U hk hi hU
      have hk : k = 8 := by omega
      subst hk; subst hi
      refine fx_go_ok [] 99 hT ht ?_
      refine And.intro (fun _ => ?_) (fun h => absurd (by decide) h)
      have a5 : U 5 = S 5 := by rw [hU]; rfl
      have a6 : U 6 = S 6 := by rw [hU]; rfl
      have a7 : U 7 = pf_t8 (S 7) (S 6 6) (S 26) 8 := by rw [hU]; rfl
      have a21 : U 21 = S 21 := by rw [hU]; rfl
      have a22 : U 22 = S 22 := by rw [hU]; rfl
      have a23 : U 23 = S 23 := by rw [hU]; rfl
      have a24 : U 24 = S 24 := by rw [hU]; rfl
      have a25 : U 25 = S 25 := by rw [hU]; rfl
      have a09 : U 0 9 = S 6 5 := by rw [hU]; rfl
      have a010 : U 0 10 = S 0 10 := by rw [hU]; rfl
      have a0 : ∀ j, j ≠ 9 → U 0 j = S 0 j := by
        intro j hj
        rw [hU, fx_row_ne _ _ (by decide), fx_up_ne2 _ _ _ hj]
      have ab : ∀ b, b ≠ 0 → b ≠ 7 → U b = S b := by
        intro b h0 h7
        rw [hU, fx_row_ne _ _ h7, fx_up_ne _ _ _ h0]
      refine fx_ex _ (ct_Ac_grow hq (n := nA) (by show U 5 5 = nI nA; rw [a5]; exact hnA) hbA dt) ?_
      intro r1 X hX
      obtain ⟨V, hV⟩ : ∃ V, fx_up (fx_up U 0 13 (U 6 8)) 0 14 (fx_up U 0 13 (U 6 8) 6 7) = V := ⟨_, rfl⟩
      rw [hV] at hX
      have vb : ∀ b, b ≠ 0 → V b = U b := by
        intro b h0
        rw [← hV, fx_up_ne _ _ _ h0, fx_up_ne _ _ _ h0]
      have v013 : V 0 13 = S 6 8 := by rw [← hV]; show U 6 8 = _; rw [a6]
      have v014 : V 0 14 = S 6 7 := by rw [← hV]; show U 6 7 = _; rw [a6]
      have v09 : V 0 9 = S 6 5 := by rw [← hV]; exact a09
      have v010 : V 0 10 = S 0 10 := by rw [← hV]; exact a010
      have v0 : ∀ j, j ≠ 9 → j ≠ 13 → j ≠ 14 → V 0 j = S 0 j := by
        intro j h9 h13 h14
        rw [← hV, fx_up_ne2 _ _ _ h14, fx_up_ne2 _ _ _ h13]
        exact a0 j h9
      have v5 : V 5 = S 5 := (vb 5 (by decide)).trans a5
      rw [v5, vb 25 (by decide), a25] at hX
      have xb : ∀ b, b ≠ 25 → X b = V b := fun b h => by rw [hX, fx_row_ne _ _ h]
      have x25 : X 25 = pf_gr (S 25) (S 5 6) dt nA := by rw [hX, fx_row_at]
      have x5 : X 5 = S 5 := (xb 5 (by decide)).trans v5
      have x7 : X 7 = pf_t8 (S 7) (S 6 6) (S 26) 8 := ((xb 7 (by decide)).trans (vb 7 (by decide))).trans a7
      have x21 : X 21 = S 21 := ((xb 21 (by decide)).trans (vb 21 (by decide))).trans a21
      have x22 : X 22 = S 22 := ((xb 22 (by decide)).trans (vb 22 (by decide))).trans a22
      have x23 : X 23 = S 23 := ((xb 23 (by decide)).trans (vb 23 (by decide))).trans a23
      have x24 : X 24 = S 24 := ((xb 24 (by decide)).trans (vb 24 (by decide))).trans a24
      have x0 : X 0 = V 0 := xb 0 (by decide)
      refine fx_ex _ (ct_Ac_workOut hq (n := nA) (by rw [x5]; exact hnA) hbA (by rw [x21]; exact ho) _ _) ?_
      intro r2 Y hY
      obtain ⟨hr2, hY⟩ := hY
      rw [x21, x22, x23, x24, x5, x7, x25, x0, v09, v010] at hY hr2
      have hY0 : Y 0 = X 0 := by rw [hY]; rfl
      have hY7 : Y 7 = X 7 := by rw [hY]; rfl
      have hY56 : Y 5 6 = (pf_acts S (S 6 5) (S 6 6) (S 26) dt nA).1.1 := by rw [hY]; rfl
      have hY25 : Y 25 = (pf_acts S (S 6 5) (S 6 6) (S 26) dt nA).1.2 := by rw [hY]; rfl
      have hY5 : ∀ j, j ≠ 6 → Y 5 j = X 5 j := by
        intro j hj
        rw [hY]
        show fx_up X 5 6 _ 5 j = X 5 j
        rw [fx_up_ne2 _ _ _ hj]
      have hYb : ∀ b, b ≠ 5 → b ≠ 25 → Y b = X b := by
        intro b h5 h25
        rw [hY]
        show fx_row (fx_up X 5 6 _) 25 _ b = X b
        rw [fx_row_ne _ _ h25, fx_up_ne _ _ _ h5]
      refine ⟨⟨?_, ?_, ?_, ?_, ?_, ?_, ?_, ?_, ?_, ?_⟩, ?_⟩
      · show Y 0 9 = _
        rw [hY0, x0]; exact v09
      · show Y 0 9 = _
        rw [hY0, x0]; exact v09
      · exact hr2
      · show Y 0 13 = _
        rw [hY0, x0]; exact v013
      · show Y 0 14 = _
        rw [hY0, x0]; exact v014
      · show Y 7 = _
        rw [hY7]; exact x7
      · exact hY56
      · exact hY25
      · intro j hj
        show Y 5 j = _
        rw [hY5 j hj, x5]
      · intro b b0 b5 b6 b7 b25 b26 b27
        rw [fx_up_ne _ _ _ b0, fx_up_ne _ _ _ b0, hYb b b5 b25, xb b b25, vb b b0]
        exact ab b b0 b7
      · intro j j9 j10 j12 j13 j14
        rw [fx_up_ne2 _ _ _ j10, fx_up_ne2 _ _ _ j12, hY0, x0]
        exact v0 j j9 j13 j14
    | succ j ih =>
      intro k i U hk hi hU
      subst hi
      have e : (nI k).toNatClampNeg = k := nI_clamp (by omega)
      refine fx_go_ok [(13, 3)] 99 hT ht ?_
      refine And.intro (fun h => absurd (show nI 8 ≤ nI k from h) (nI_ge (by omega) (by omega))) (fun _ => ?_)
      refine fx_ex1 (ct_Ti_timeOf hq (a := k) (by omega)) ?_
      refine And.intro (vp_in_nI (by omega) (by omega)) ?_
      refine ih (k + 1) _ _ (by omega) (nI_1 k) ?_
      have a66 : U 6 6 = S 6 6 := by rw [hU]; rfl
      have a26 : U 26 = S 26 := by rw [hU]; rfl
      rw [e, a66, a26, hU, fx_row_up]
      congr 1
      funext b
      unfold upd pf_t8
      by_cases hbk : b = k
      · subst hbk; rw [if_pos rfl, if_pos (by omega)]
      · rw [if_neg hbk]
        by_cases hlt : b < k
        · rw [if_pos hlt, if_pos (by omega)]
        · rw [if_neg hlt, if_neg (by omega)]
  refine fx_go_ok [(13, 3)] 99 hT ht ?_
  refine loop 8 0 _ _ rfl rfl ?_
  have : pf_t8 (S 7) (S 6 6) (S 26) 0 = S 7 := by funext b; unfold pf_t8; rw [if_neg (by omega)]
  rw [this]
  exact (fx_row_rf (fx_up S 0 9 (S 6 5)) 7 (S 7) rfl).symm
/-- what a scan comes to: S before, S' behind -/
def pf_scX (S S' : fx_S) (r lv dt : Int32) (a : pf_A) (nA : Nat) : Prop :=
  (∃ i, ((S 0 8 = 0 ∧ ((i = 0 ∧ pf_idle a 0) ∨ (i = 1 ∧ ¬ pf_idle a 0))) ∨ (¬ S 0 8 = 0 ∧ i ≤ 511 ∧ pf_on_way a i ∧ pf_idle a i)) ∧ r = nI i ∧ pf_keep S S' (pf_q a i).1 (pf_q a i).2.1 (pf_q a i).2.2 (nI i) a.2.2.2.2.2.2.2.2.1 dt nA ∧ S' 0 7 = S 0 7 ∧ S' 0 8 = S 0 8 ∧ S' 0 11 = lv &&& 255 ∧ S' 0 15 = 0 ∧ S' 0 16 = 0) ∨
  (¬ S 0 8 = 0 ∧ ∃ i d, i ≤ 511 ∧ pf_on_way a i ∧ ¬ pf_idle a i ∧ 1 ≤ d ∧ d ≤ i ∧ pf_qs a d = pf_qs a (i + 1) ∧ r = -1 ∧ S' 0 15 = nI d ∧ S' 0 16 = nI (i + 1 - d) ∧ (∀ j, j ≠ 15 → j ≠ 16 → S' 0 j = S 0 j) ∧ ∀ b, b ≠ 0 → b ≠ 6 → b ≠ 26 → b ≠ 27 → S' b = S b) ∨
  (¬ S 0 8 = 0 ∧ pf_on_way a 512 ∧ r = -1)
theorem ct_Fc_scan (hq : fx_I κ lyX.length) {nE nT nO nA : Nat} (hnE : S 2 4 = nI nE) (hbE : nE ≤ 24) (h4 : ∀ k, k < nE → S 10 k = 4 → ∃ a, a < 8 ∧ S 11 k = nI a) (hnT : S 3 4 = nI nT) (hbT : nT ≤ 12) (hnO : S 4 3 = nI nO) (hbO : nO ≤ 4) (hnA : S 5 5 = nI nA) (hbA : nA ≤ 12) (ho : ∀ k, k < nA → ∃ o, o < 8 ∧ S 21 k = nI o) (lv dt : Int32) : MC_Fc_scan κ [.inr 0, .inl lv, .inl dt] S (fun r S' => (¬ (¬ S 0 7 = 0 ∧ 0 ≤ dt ∧ dt ≤ 1000000) ∧ r = -2 ∧ S' = S) ∨ ((¬ S 0 7 = 0 ∧ 0 ≤ dt ∧ dt ≤ 1000000) ∧ ∃ tb : Nat → Int32, (∀ k, k < 8 → tb k = S 7 k + dt) ∧ pf_scX S S' r lv dt (chX S, nE, nT, nO, S 0 8, lv &&& 255, (lv &&& 255) &&& (S 0 11 ^^^ (-1)), S 0 11 &&& ((lv &&& 255) ^^^ (-1)), tb, S 0 9, pf_tmd (S 0 9) (fun k => S 7 k + dt) 8) nA)) := by
  refine mo_Fc_scan hq (Nat.le_of_ble_eq_true rfl) ?_
  intro J hT ht
  refine fx_go_ok [] 150 hT ht ?_
  refine And.intro (fun h => ?_) (fun h => ?_)
  · exact Or.inl ⟨fun hc => hc.1 h, rfl, rfl⟩
  · refine fx_ex1 (ct_Fc_isSpan hq dt) ?_
    refine And.intro (fun h2 => ?_) (fun h2 => ?_)
    · have h2 := px_z_ne0.mp h2
      refine fx_ex _ (ct_Ti_begin hq _ _) ?_
      intro r1 A hA
      obtain ⟨a5, a6, a7, a8, a9, a10, a26, ab, al⟩ := hA
      have ab0 : A 0 = S 0 := ab 0 (by decide) (by decide)
      refine fx_ex _ (ct_Ti_sense hq _ _) ?_
      intro r2 B hB
      rw [ab0] at hB
      have bb : ∀ b, b ≠ 6 → B b = A b := fun b h6 => by rw [hB, fx_up_ne _ _ _ h6, fx_up_ne _ _ _ h6, fx_up_ne _ _ _ h6]
      have bS : ∀ b, b ≠ 6 → b ≠ 26 → B b = S b := fun b h6 h26 => (bb b h6).trans (ab b h6 h26)
      have b5 : B 6 5 = S 0 9 := by rw [hB]; exact a5
      have b6 : B 6 6 = pf_tmd (S 0 9) (fun k => S 7 k + dt) 8 := by rw [hB]; exact a6
      have b7 : B 6 7 = 0 := by rw [hB]; exact a7
      have b8 : B 6 8 = 0 := by rw [hB]; exact a8
      have b9 : B 6 9 = 0 := by rw [hB]; exact a9
      have b10 : B 6 10 = 0 := by rw [hB]; exact a10
      have b2 : B 6 2 = lv &&& 255 := by rw [hB]; rfl
      have b3 : B 6 3 = (lv &&& 255) &&& (S 0 11 ^^^ (-1)) := by rw [hB]; rfl
      have b4 : B 6 4 = S 0 11 &&& ((lv &&& 255) ^^^ (-1)) := by rw [hB]; rfl
      have bch : chX B = chX S := by
        funext r
        unfold chX
        split <;> exact bS _ (by decide) (by decide)
      have b08 : B 0 8 = S 0 8 := by rw [bS 0 (by decide) (by decide)]
      have tbe : ∀ k, k < 8 → B 26 k = S 7 k + dt := fun k hk => by rw [bb 26 (by decide)]; exact a26 k hk
      have hae : pf_aX B nE nT nO = (chX S, nE, nT, nO, S 0 8, lv &&& 255, (lv &&& 255) &&& (S 0 11 ^^^ (-1)), S 0 11 &&& ((lv &&& 255) ^^^ (-1)), B 26, S 0 9, pf_tmd (S 0 9) (fun k => S 7 k + dt) 8) := by
        unfold pf_aX
        rw [bch, b08, b2, b3, b4, b5, b6]
      generalize ha : (chX S, nE, nT, nO, S 0 8, lv &&& 255, (lv &&& 255) &&& (S 0 11 ^^^ (-1)), S 0 11 &&& ((lv &&& 255) ^^^ (-1)), B 26, S 0 9, pf_tmd (S 0 9) (fun k => S 7 k + dt) 8) = a at hae
      have atb : a.2.2.2.2.2.2.2.2.1 = B 26 := by rw [← ha]
      have fin : ∀ (C : fx_S) (r : Int32), pf_scX S C r lv dt a nA → (¬ (¬ S 0 7 = 0 ∧ 0 ≤ dt ∧ dt ≤ 1000000) ∧ r = -2 ∧ C = S) ∨ ((¬ S 0 7 = 0 ∧ 0 ≤ dt ∧ dt ≤ 1000000) ∧ ∃ tb : Nat → Int32, (∀ k, k < 8 → tb k = S 7 k + dt) ∧ pf_scX S C r lv dt (chX S, nE, nT, nO, S 0 8, lv &&& 255, (lv &&& 255) &&& (S 0 11 ^^^ (-1)), S 0 11 &&& ((lv &&& 255) ^^^ (-1)), tb, S 0 9, pf_tmd (S 0 9) (fun k => S 7 k + dt) 8) nA) := by
        intro C r hC
        refine Or.inr ⟨⟨h, h2⟩, B 26, tbe, ?_⟩
        rw [ha]; exact hC
      have keep : ∀ (C : fx_S) (i : Nat), ((S 0 8 = 0 ∧ ((i = 0 ∧ pf_idle a 0) ∨ (i = 1 ∧ ¬ pf_idle a 0))) ∨ (¬ S 0 8 = 0 ∧ i ≤ 511 ∧ pf_on_way a i ∧ pf_idle a i)) → C 6 5 = (pf_q a i).1 → C 6 6 = (pf_q a i).2.1 → C 6 7 = (pf_q a i).2.2 → C 6 8 = nI i → C 6 9 = 0 → C 6 10 = 0 → (∀ b, b ≠ 6 → b ≠ 27 → C b = B b) → ∃ post, MC_Fc_keepTrial κ [.inr 0, .inl dt] (fx_up (fx_up (fx_up C 0 15 (C 6 9)) 0 16 (fx_up C 0 15 (C 6 9) 6 10)) 0 11 (lv &&& 255)) post ∧ ∀ r S', post r S' → ((¬ (¬ S 0 7 = 0 ∧ 0 ≤ dt ∧ dt ≤ 1000000) ∧ S' 0 13 = -2 ∧ S' = S) ∨ ((¬ S 0 7 = 0 ∧ 0 ≤ dt ∧ dt ≤ 1000000) ∧ ∃ tb : Nat → Int32, (∀ k, k < 8 → tb k = S 7 k + dt) ∧ pf_scX S S' (S' 0 13) lv dt (chX S, nE, nT, nO, S 0 8, lv &&& 255, (lv &&& 255) &&& (S 0 11 ^^^ (-1)), S 0 11 &&& ((lv &&& 255) ^^^ (-1)), tb, S 0 9, pf_tmd (S 0 9) (fun k => S 7 k + dt) 8) nA)) := by
        intro C i hi c5 c6 c7 c8 c9 c10 cb
        generalize hX : fx_up (fx_up (fx_up C 0 15 (C 6 9)) 0 16 (fx_up C 0 15 (C 6 9) 6 10)) 0 11 (lv &&& 255) = X
        have xb : ∀ b, b ≠ 0 → X b = C b := fun b h0 => by rw [← hX, fx_up_ne _ _ _ h0, fx_up_ne _ _ _ h0, fx_up_ne _ _ _ h0]
        have x6 : X 6 = C 6 := xb 6 (by decide)
        have xS : ∀ b, b ≠ 0 → b ≠ 6 → b ≠ 26 → b ≠ 27 → X b = S b := fun b h0 h6 h26 h27 => ((xb b h0).trans (cb b h6 h27)).trans (bS b h6 h26)
        have x0 : ∀ j, j ≠ 11 → j ≠ 15 → j ≠ 16 → X 0 j = S 0 j := fun j h11 h15 h16 => by
          rw [← hX, fx_up_ne2 _ _ _ h11, fx_up_ne2 _ _ _ h16, fx_up_ne2 _ _ _ h15, cb 0 (by decide) (by decide), bS 0 (by decide) (by decide)]
        have x011 : X 0 11 = lv &&& 255 := by rw [← hX]; rfl
        have x015 : X 0 15 = 0 := by rw [← hX]; exact c9
        have x016 : X 0 16 = 0 := by rw [← hX]; exact c10
        refine fx_ex _ (ct_Fc_keepTrial hq (S := X) (nA := nA) (by rw [xS 5 (by decide) (by decide) (by decide) (by decide)]; exact hnA) hbA (by rw [xS 21 (by decide) (by decide) (by decide) (by decide)]; exact ho) dt) ?_
        intro r Y hY
        obtain ⟨hk, hy⟩ := hY
        rw [x6, c5, c6, c7, c8, xb 26 (by decide), cb 26 (by decide) (by decide)] at hk
        have hk2 := pf_keep_of xS (x0 10 (by decide) (by decide) (by decide)) hk
        have k13 : Y 0 13 = nI i := hk2.2.2.2.1
        refine fin Y _ (Or.inl ⟨i, hi, k13, ?_, ?_, ?_, ?_, ?_, ?_⟩)
        · rw [atb]; exact hk2
        · rw [hy 7 (by decide) (by decide) (by decide) (by decide) (by decide)]; exact x0 7 (by decide) (by decide) (by decide)
        · rw [hy 8 (by decide) (by decide) (by decide) (by decide) (by decide)]; exact x0 8 (by decide) (by decide) (by decide)
        · rw [hy 11 (by decide) (by decide) (by decide) (by decide) (by decide)]; exact x011
        · rw [hy 15 (by decide) (by decide) (by decide) (by decide) (by decide)]; exact x015
        · rw [hy 16 (by decide) (by decide) (by decide) (by decide) (by decide)]; exact x016
      refine fx_ex _ (ct_Fc_comesToAnEnd hq (S := B) (nE := nE) (nT := nT) (nO := nO) (by rw [bS 2 (by decide) (by decide)]; exact hnE) hbE (by rw [bS 10 (by decide) (by decide), bS 11 (by decide) (by decide)]; exact h4) (by rw [bS 3 (by decide) (by decide)]; exact hnT) hbT (by rw [bS 4 (by decide) (by decide)]; exact hnO) hbO b7 b8 b9 b10) ?_
      intro r3 C hC
      rw [hae, b08] at hC
      rcases hC with ⟨s0, c1, hC⟩ | ⟨s0, hC⟩
      · subst c1
        refine And.intro (fun _ => ?_) (fun hx => absurd hx (by decide))
        rcases hC with ⟨ci, hT0⟩ | ⟨ci, hC⟩
        · obtain ⟨c5, c6, c7, c8, c3, c4, c2, c9, c10, c27, cb⟩ := hT0
          exact keep C 0 (Or.inl ⟨s0, Or.inl ⟨rfl, ci⟩⟩) c5 c6 c7 c8 c9 c10 cb
        · have e0 : pf_evX B nE nT nO = pf_qv a 0 (pf_q a 0) := by
            unfold pf_evX pf_qv
            rw [bch, b08, b2, b3, b4, b5, b6, ← ha]
            rfl
          rw [e0] at hC
          refine keep C 1 (Or.inl ⟨s0, Or.inr ⟨rfl, ci⟩⟩) ?_ ?_ ?_ ?_ ?_ ?_ ?_
          · rw [hC]; rfl
          · rw [hC]; show B 6 6 &&& _ = _; rw [b6, ← ha]; rfl
          · rw [hC]; show B 6 7 ||| _ = _; rw [b7]; rfl
          · rw [hC]; show B 6 8 + 1 = _; rw [b8]; rfl
          · rw [hC]; exact b9
          · rw [hC]; exact b10
          · intro b h6 h27
            rw [hC]
            unfold pf_mv
            rw [fx_up_ne _ _ _ h6, fx_up_ne _ _ _ h6, fx_up_ne _ _ _ h6, fx_up_ne _ _ _ h6]
      · rcases hC with ⟨i, i1, i2, i3, i4, i5⟩ | ⟨i, d, i1, i2, i3, d1, d2, d3, d4, d5, d6, d7⟩ | ⟨e1, e2⟩
        · subst i4
          refine And.intro (fun _ => ?_) (fun hx => absurd hx (by decide))
          obtain ⟨c5, c6, c7, c8, c3, c4, c2, c9, c10, c27, cb⟩ := i5
          exact keep C i (Or.inr ⟨s0, i1, i2, i3⟩) c5 c6 c7 c8 c9 c10 cb
        · subst d4
          refine And.intro (fun hx => absurd rfl hx) (fun _ => ?_)
          refine fin _ _ (Or.inr (Or.inl ⟨s0, i, d, i1, i2, i3, d1, d2, d3, rfl, ?_, ?_, ?_, ?_⟩))
          · exact d5
          · exact d6
          · intro j j15 j16
            rw [fx_up_ne2 _ _ _ j16, fx_up_ne2 _ _ _ j15, d7 0 (by decide) (by decide), bS 0 (by decide) (by decide)]
          · intro b b0 b6' b26 b27
            rw [fx_up_ne _ _ _ b0, fx_up_ne _ _ _ b0, d7 b b6' b27, bS b b6' b26]
        · subst e2
          refine And.intro (fun hx => absurd rfl hx) (fun _ => ?_)
          exact fin _ _ (Or.inr (Or.inr ⟨s0, e1, rfl⟩))
    · exact Or.inl ⟨fun hc => px_z_eq0.mp h2 hc.2, rfl, rfl⟩
end SCAN
