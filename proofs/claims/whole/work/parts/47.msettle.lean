/-! the reference: single, settle -/
abbrev pm_a (S : fx_S) (nS nE nT nO : Nat) (ti : Int32) (tb : Nat → Int32) : pf_A := (chM S nS nT, nE, nT, nO, S 0 25, S 0 37, S 0 38, S 0 39, tb, S 0 26, ti)
/-- the reference behind i evolutions that are kept -/
def pm_st (a : pf_A) (S S' : fx_S) (i : Nat) : Prop := S' 0 26 = (pf_q a i).1 ∧ (∀ x, x < 8 → S' 20 x = pf_tm (pf_q a i).2.1 a.2.2.2.2.2.2.2.2.1 (nI x)) ∧ S' 0 32 = (pf_q a i).2.2 ∧ (∀ j, j ≠ 26 → j ≠ 32 → j ≠ 38 → j ≠ 39 → j ≠ 40 → j ≠ 41 → S' 0 j = S 0 j) ∧ ∀ b, b ≠ 0 → b ≠ 7 → b ≠ 20 → b ≠ 22 → S' b = S b
theorem chM_eq {S U : fx_S} {nS nT : Nat} (h : ∀ b, b ≠ 0 → b ≠ 7 → b ≠ 20 → b ≠ 22 → U b = S b) : chM U nS nT = chM S nS nT := by
  have g : ∀ b, b ≠ 0 → b ≠ 7 → b ≠ 20 → b ≠ 22 → U b = S b := h
  funext r
  unfold chM
  rw [g 1 (by decide) (by decide) (by decide) (by decide), g 3 (by decide) (by decide) (by decide) (by decide), g 4 (by decide) (by decide) (by decide) (by decide), g 5 (by decide) (by decide) (by decide) (by decide), g 8 (by decide) (by decide) (by decide) (by decide), g 9 (by decide) (by decide) (by decide) (by decide), g 10 (by decide) (by decide) (by decide) (by decide), g 11 (by decide) (by decide) (by decide) (by decide), g 12 (by decide) (by decide) (by decide) (by decide), g 13 (by decide) (by decide) (by decide) (by decide)]
/-- the chart as the reference's methods need it -/
def wfM (S : fx_S) (nS nE nT nO : Nat) : Prop := S 0 0 = nI nS ∧ nS ≤ 8 ∧ S 0 3 = nI nE ∧ nE ≤ 24 ∧ wfE (S 3) (S 4) (S 5) nE ∧ S 0 9 = nI nT ∧ nT ≤ 12 ∧ (∀ t, t < nT → ∃ x, x < nE ∧ S 10 t = nI x) ∧ S 0 13 = nI nO ∧ nO ≤ 4
/-- the reference on the way, behind m evolutions -/
def pm_R (a : pf_A) (S U : fx_S) (m : Nat) : Prop := U 0 26 = (pf_q a m).1 ∧ (∀ x, x < 8 → U 20 x = pf_tm (pf_q a m).2.1 a.2.2.2.2.2.2.2.2.1 (nI x)) ∧ U 0 38 = (if m = 0 then S 0 38 else 0) ∧ U 0 39 = (if m = 0 then S 0 39 else 0) ∧ (∀ j, j ≠ 26 → j ≠ 38 → j ≠ 39 → j ≠ 40 → j ≠ 41 → U 0 j = S 0 j) ∧ ∀ b, b ≠ 0 → b ≠ 7 → b ≠ 20 → b ≠ 22 → U b = S b
section MDG
variable {κ : fx_K} {S : fx_S}
theorem pm_evc (hq : fx_I κ lyM.length) {nS nE nT nO : Nat} (hwf : wfM S nS nE nT nO) {ti : Int32} {tb : Nat → Int32} {m : Nat} {U : fx_S} (hU : pm_R (pm_a S nS nE nT nO ti tb) S U m) : MC_Md_evolve κ [.inr 0] U (fun _ S' => (S' 0 40, S' 0 41) = pf_qv (pm_a S nS nE nT nO ti tb) m (pf_q (pm_a S nS nE nT nO ti tb) m) ∧ (∀ j, j ≠ 40 → j ≠ 41 → S' 0 j = U 0 j) ∧ ∀ b, b ≠ 0 → b ≠ 7 → S' b = U b) := by
  obtain ⟨w1, w2, w3, w4, w5, w6, w7, w8, w9, w10⟩ := hwf
  obtain ⟨u26, u20, u38, u39, u0, ub⟩ := hU
  have e0 : U 0 0 = S 0 0 := u0 0 (by decide) (by decide) (by decide) (by decide) (by decide)
  have e3 : U 0 3 = S 0 3 := u0 3 (by decide) (by decide) (by decide) (by decide) (by decide)
  have e9 : U 0 9 = S 0 9 := u0 9 (by decide) (by decide) (by decide) (by decide) (by decide)
  have e13 : U 0 13 = S 0 13 := u0 13 (by decide) (by decide) (by decide) (by decide) (by decide)
  have e25 : U 0 25 = S 0 25 := u0 25 (by decide) (by decide) (by decide) (by decide) (by decide)
  have e37 : U 0 37 = S 0 37 := u0 37 (by decide) (by decide) (by decide) (by decide) (by decide)
  have r3 : U 3 = S 3 := ub 3 (by decide) (by decide) (by decide) (by decide)
  have r4 : U 4 = S 4 := ub 4 (by decide) (by decide) (by decide) (by decide)
  have r5 : U 5 = S 5 := ub 5 (by decide) (by decide) (by decide) (by decide)
  have r10 : U 10 = S 10 := ub 10 (by decide) (by decide) (by decide) (by decide)
  have h := ct_Md_evolve hq (S := U) (nS := nS) (nE := nE) (nT := nT) (nO := nO) (e0.trans w1) w2 (e3.trans w3) w4 (by rw [r3, r4, r5]; exact w5) (e9.trans w6) w7 (by rw [r10]; exact w8) (e13.trans w9) w10 (ti := (pf_q (pm_a S nS nE nT nO ti tb) m).2.1) (tb := tb) u20
  rw [chM_eq ub, e25, e37, u38, u39, u26] at h
  exact h
theorem ct_Md_single (hq : fx_I κ lyM.length) {nS nE nT nO : Nat} (hwf : wfM S nS nE nT nO) {ti : Int32} {tb : Nat → Int32} (hps : ∀ x, x < 8 → S 20 x = pf_tm ti tb (nI x)) (hok : pf_aok (pm_a S nS nE nT nO ti tb) nS) : MC_Md_single κ [.inr 0] S (fun r S' => ∃ i, ((i = 0 ∧ pf_idle (pm_a S nS nE nT nO ti tb) 0) ∨ (i = 1 ∧ ¬ pf_idle (pm_a S nS nE nT nO ti tb) 0)) ∧ r = nI i ∧ pm_st (pm_a S nS nE nT nO ti tb) S S' i) := by
  refine mo_Md_single hq (Nat.le_of_ble_eq_true rfl) ?_
  intro J hT ht
  have R0 : pm_R (pm_a S nS nE nT nO ti tb) S S 0 := ⟨rfl, hps, rfl, rfl, fun _ _ _ _ _ _ => rfl, fun _ _ _ _ _ => rfl⟩
  generalize ha : pm_a S nS nE nT nO ti tb = a at hT hok
  have atb : a.2.2.2.2.2.2.2.2.1 = tb := by rw [← ha]
  have q0s : (pf_q a 0).1 = S 0 26 := by rw [← ha]; rfl
  have q0t : (pf_q a 0).2.1 = ti := by rw [← ha]; rfl
  have evc := pm_evc hq hwf R0
  rw [ha] at evc
  refine fx_go_ok [] 99 hT ht ?_
  refine fx_ex _ evc ?_
  intro r V hV
  obtain ⟨v1, v0, vb⟩ := hV
  have v40 : V 0 40 = (pf_qv a 0 (pf_q a 0)).1 := by rw [← v1]
  have v41 : V 0 41 = (pf_qv a 0 (pf_q a 0)).2 := by rw [← v1]
  have v26 : V 0 26 = S 0 26 := v0 26 (by decide) (by decide)
  -- the rest, whatever the count
  have rest : ∀ (i : Nat), (pf_q a i).1 = (pf_q a 1).1 → (pf_q a i).2.1 = (pf_q a 1).2.1 → (pf_q a i).2.2 = (pf_q a 1).2.2 → ((i = 0 ∧ pf_idle a 0) ∨ (i = 1 ∧ ¬ pf_idle a 0)) → ∃ post, MC_Md_take κ [.inr 0] (fx_up V 0 32 (V 0 41)) post ∧ ∀ r S', post r S' → ∃ i, ((i = 0 ∧ pf_idle a 0) ∨ (i = 1 ∧ ¬ pf_idle a 0)) ∧ nI i = nI i ∧ pm_st a S S' i := by
    intro i i1 i2 i3 hi
    refine fx_ex _ (ct_Md_take hq (nS := nS) (S := fx_up V 0 32 (V 0 41)) (by show V 0 0 = _; rw [v0 0 (by decide) (by decide)]; exact hwf.1) hwf.2.1 (ti := ti) (tb := tb) (fun x hx => by show V 20 x = _; rw [vb 20 (by decide) (by decide)]; exact hps x hx) (fun j hj hb => by show bt (V 0 26) j = true; rw [v26, ← q0s]; exact pf_q_sub hok 0 j (by omega) (by rw [q0t]; exact hb)) (by show px_lo nS (V 0 26); rw [v26, ← q0s]; exact pf_q_lo hok 0)) ?_
    intro r2 S' hS
    obtain ⟨s1, s2, s3, s4⟩ := hS
    refine ⟨i, hi, rfl, ?_, ?_, ?_, ?_, ?_⟩
    · rw [s1, i1]; exact v40
    · intro x hx
      rw [s2 x hx, i2, atb]
      show pf_tm (ti &&& V 0 40) tb (nI x) = pf_tm ((pf_q a 0).2.1 &&& (pf_qv a 0 (pf_q a 0)).1) tb (nI x)
      rw [v40, q0t]
    · rw [s3 32 (by decide), i3]
      show V 0 41 = 0 ||| (pf_qv a 0 (pf_q a 0)).2
      rw [v41]
      apply b_ext
      intro b hb
      rw [b_or, b_0, Bool.false_or]
    · intro j j26 j32 j38 j39 j40 j41
      rw [s3 j j26, fx_up_ne2 _ _ _ j32]
      exact v0 j j40 j41
    · intro b b0 b7 b20 b22
      rw [s4 b b0 b20, fx_up_ne _ _ _ b0]
      exact vb b b0 b7
  have idl : pf_idle a 0 ↔ V 0 41 = 0 ∧ V 0 40 = V 0 26 := by
    unfold pf_idle
    rw [v40, v41, v26, q0s]
  have go1 : ¬ pf_idle a 0 → ∃ post, MC_Md_take κ [.inr 0] (fx_up V 0 32 (V 0 41)) post ∧ ∀ r S', post r S' → ∃ i, ((i = 0 ∧ pf_idle a 0) ∨ (i = 1 ∧ ¬ pf_idle a 0)) ∧ (1 : Int32) = nI i ∧ pm_st a S S' i := by
    intro hn
    obtain ⟨post, p1, p2⟩ := rest 1 rfl rfl rfl (Or.inr ⟨rfl, hn⟩)
    refine ⟨post, p1, fun r S' hp => ?_⟩
    obtain ⟨i, hi, -, hs⟩ := p2 r S' hp
    rcases hi with ⟨rfl, hh⟩ | ⟨rfl, hh⟩
    · exact absurd hh hn
    · exact ⟨1, Or.inr ⟨rfl, hh⟩, rfl, hs⟩
  refine And.intro (fun h => ?_) (fun h => And.intro (fun h2 => ?_) (fun h2 => ?_))
  · exact go1 (fun hi => h (idl.mp hi).1)
  · have hi : pf_idle a 0 := idl.mpr ⟨h, h2⟩
    have e1 : (pf_qv a 0 (pf_q a 0)).1 = (pf_q a 0).1 := hi.2
    have e2 : (pf_qv a 0 (pf_q a 0)).2 = 0 := hi.1
    obtain ⟨post, p1, p2⟩ := rest 0 (by show _ = (pf_qv a 0 (pf_q a 0)).1; rw [e1]) (by
        show _ = (pf_q a 0).2.1 &&& (pf_qv a 0 (pf_q a 0)).1
        rw [e1]
        apply b_ext
        intro j hj
        rw [b_and]
        cases hb : bt (pf_q a 0).2.1 j with
        | false => rfl
        | true => rw [pf_q_sub hok 0 j hj hb]; rfl) (by
        show (0 : Int32) = 0 ||| (pf_qv a 0 (pf_q a 0)).2
        rw [e2]
        decide) (Or.inl ⟨rfl, hi⟩)
    refine ⟨post, p1, fun r S' hp => ?_⟩
    obtain ⟨i, hi2, -, hs⟩ := p2 r S' hp
    rcases hi2 with ⟨rfl, hh⟩ | ⟨rfl, hh⟩
    · exact ⟨0, Or.inl ⟨rfl, hh⟩, rfl, hs⟩
    · exact absurd hi hh
  · exact go1 (fun hi => h2 (idl.mp hi).2)
theorem ct_Md_settle (hq : fx_I κ lyM.length) {nS nE nT nO : Nat} (hwf : wfM S nS nE nT nO) {ti : Int32} {tb : Nat → Int32} (hps : ∀ x, x < 8 → S 20 x = pf_tm ti tb (nI x)) (hok : pf_aok (pm_a S nS nE nT nO ti tb) nS) : MC_Md_settle κ [.inr 0] S (fun r S' => (∃ i, i ≤ 511 ∧ pf_on_way (pm_a S nS nE nT nO ti tb) i ∧ pf_idle (pm_a S nS nE nT nO ti tb) i ∧ r = nI i ∧ pm_st (pm_a S nS nE nT nO ti tb) S S' i) ∨ (∃ i d, i ≤ 511 ∧ pf_on_way (pm_a S nS nE nT nO ti tb) i ∧ ¬ pf_idle (pm_a S nS nE nT nO ti tb) i ∧ 1 ≤ d ∧ d ≤ i ∧ pf_qs (pm_a S nS nE nT nO ti tb) d = pf_qs (pm_a S nS nE nT nO ti tb) (i + 1) ∧ r = -1 ∧ S' 0 33 = nI d ∧ S' 0 34 = nI (i + 1 - d) ∧ (∀ j, j ≠ 26 → j ≠ 33 → j ≠ 34 → j ≠ 38 → j ≠ 39 → j ≠ 40 → j ≠ 41 → S' 0 j = S 0 j) ∧ ∀ b, b ≠ 0 → b ≠ 7 → b ≠ 20 → b ≠ 22 → S' b = S b)) := by
  refine mo_Md_settle hq (Nat.le_of_ble_eq_true rfl) ?_
  intro J hT ht
  have R0 : pm_R (pm_a S nS nE nT nO ti tb) S S 0 := ⟨rfl, hps, rfl, rfl, fun _ _ _ _ _ _ => rfl, fun _ _ _ _ _ => rfl⟩
  have evc := fun (m : Nat) (U : fx_S) (h : pm_R (pm_a S nS nE nT nO ti tb) S U m) => pm_evc hq hwf h
  generalize ha : pm_a S nS nE nT nO ti tb = a at hT hok R0 evc
  have atb : a.2.2.2.2.2.2.2.2.1 = tb := by rw [← ha]
  -- the code of the state behind m evolutions
  have hlt : ∀ m, pm_cd (pf_q a m).1 (pf_q a m).2.1 nS < 6561 := by
    intro m
    have h1 := pm_cd_lt (pf_q a m).1 (pf_q a m).2.1 nS
    have h2 : 3 ^ nS ≤ 3 ^ 8 := Nat.pow_le_pow_right (by omega) hwf.2.1
    omega
  have loop : ∀ (j m : Nat) (x i : Int32) (U : fx_S), m + j = 512 → i = nI (m + 1) → x = (pf_q a m).2.2 → pm_R a S U m → pf_on_way a m → (∀ b, 1 ≤ b → b ≤ m → U 22 (pm_cd (pf_q a b).1 (pf_q a b).2.1 nS) = nI b) → (∀ c, c < 6561 → (∀ b, 1 ≤ b → b ≤ m → pm_cd (pf_q a b).1 (pf_q a b).2.1 nS ≠ c) → U 22 c = 0) → J 26 [.inr 0, .inl x, .inl i] [] U := by
    intro j
    induction j with
    | zero =>
      intro m x i U hm hi hx hU hw _ _
      have hm : m = 512 := by omega
      subst hm
      exact absurd hw (pf_no512 hok)
    | succ j ih =>
      intro m x i U hm hi hx hU hw s1 s2
      subst hi
      refine fx_go_ok [(26, 3), (64, 3)] 150 hT ht ?_
      refine And.intro (fun h => absurd (show nI 6562 < nI (m + 1) from h) (nI_nlt (by omega) (by omega))) (fun _ => ?_)
      refine fx_ex _ (evc m U hU) ?_
      intro r V hV
      obtain ⟨u26, u20, u38, u39, u0, ub⟩ := hU
      obtain ⟨v1, v0, vb⟩ := hV
      have v40 : V 0 40 = (pf_qv a m (pf_q a m)).1 := by rw [← v1]
      have v41 : V 0 41 = (pf_qv a m (pf_q a m)).2 := by rw [← v1]
      have v26 : V 0 26 = (pf_q a m).1 := by rw [v0 26 (by decide) (by decide)]; exact u26
      have v0S : ∀ j, j ≠ 26 → j ≠ 38 → j ≠ 39 → j ≠ 40 → j ≠ 41 → V 0 j = S 0 j := fun j h1 h2 h3 h4 h5 => (v0 j h4 h5).trans (u0 j h1 h2 h3 h4 h5)
      have vbS : ∀ b, b ≠ 0 → b ≠ 7 → b ≠ 20 → b ≠ 22 → V b = S b := fun b h1 h2 h3 h4 => (vb b h1 h2).trans (ub b h1 h2 h3 h4)
      have idl : pf_idle a m ↔ V 0 41 = 0 ∧ V 0 40 = V 0 26 := by
        unfold pf_idle
        rw [v40, v41, v26]
      -- an evolution that is not idle
      have busy : ¬ pf_idle a m → J 64 [.inr 0, .inl x, .inl (nI (m + 1))] [] V := by
        intro hn
        refine fx_go_ok [(26, 3)] 150 hT ht ?_
        refine fx_ex _ (ct_Md_take hq (nS := nS) (S := V) (by rw [v0S 0 (by decide) (by decide) (by decide) (by decide) (by decide)]; exact hwf.1) hwf.2.1 (ti := (pf_q a m).2.1) (tb := tb) (fun y hy => by rw [vb 20 (by decide) (by decide), u20 y hy, atb]) (fun b hb hx => by rw [v26]; exact pf_q_sub hok m b (by omega) hx) (by rw [v26]; exact pf_q_lo hok m)) ?_
        intro r2 V2 hV2
        obtain ⟨t1, t2, t3, t4⟩ := hV2
        generalize hW : fx_up (fx_up V2 0 38 0) 0 39 0 = W
        have w26 : W 0 26 = (pf_q a (m + 1)).1 := by rw [← hW]; show V2 0 26 = _; rw [t1, v40]; rfl
        have w20 : ∀ y, y < 8 → W 20 y = pf_tm (pf_q a (m + 1)).2.1 a.2.2.2.2.2.2.2.2.1 (nI y) := by
          intro y hy
          rw [← hW]
          show V2 20 y = _
          rw [t2 y hy, v40, atb]
          rfl
        have w38 : W 0 38 = 0 := by rw [← hW]; rfl
        have w39 : W 0 39 = 0 := by rw [← hW]; rfl
        have w0 : ∀ j, j ≠ 26 → j ≠ 38 → j ≠ 39 → j ≠ 40 → j ≠ 41 → W 0 j = S 0 j := by
          intro j h1 h2 h3 h4 h5
          rw [← hW, fx_up_ne2 _ _ _ h3, fx_up_ne2 _ _ _ h2, t3 j h1]
          exact v0S j h1 h2 h3 h4 h5
        have wb : ∀ b, b ≠ 0 → b ≠ 7 → b ≠ 20 → b ≠ 22 → W b = S b := by
          intro b h1 h2 h3 h4
          rw [← hW, fx_up_ne _ _ _ h1, fx_up_ne _ _ _ h1, t4 b h1 h3]
          exact vbS b h1 h2 h3 h4
        have w22 : W 22 = U 22 := by
          rw [← hW, fx_up_ne _ _ _ (by decide), fx_up_ne _ _ _ (by decide), t4 22 (by decide) (by decide), vb 22 (by decide) (by decide)]
        have hz : ∀ k, k < 8 → bt (W 0 26) k = true → (W 20 k = 0 ↔ ¬ bt (pf_q a (m + 1)).2.1 k = true) := by
          intro k hk _
          rw [w20 k hk]
          unfold pf_tm
          by_cases hb : px_in (pf_q a (m + 1)).2.1 (nI k)
          · rw [if_pos hb]
            rw [px_in_bt (by omega)] at hb
            rw [nI_clamp (by omega)]
            exact ⟨fun h9 => absurd h9 (pf_q_tb hok (m + 1) k hk hb), fun h9 => absurd hb h9⟩
          · rw [if_neg hb]
            rw [px_in_bt (by omega)] at hb
            exact ⟨fun _ => hb, fun _ => rfl⟩
        have hcode := ct_Md_code hq (S := W) (nS := nS) (by rw [w0 0 (by decide) (by decide) (by decide) (by decide) (by decide)]; exact hwf.1) hwf.2.1 (ti := (pf_q a (m + 1)).2.1) hz
        rw [w26, ← hW] at hcode
        refine fx_ex1 hcode ?_
        rw [hW]
        have hc := hlt (m + 1)
        have ec : (nI (pm_cd (pf_q a (m + 1)).1 (pf_q a (m + 1)).2.1 nS)).toNatClampNeg = pm_cd (pf_q a (m + 1)).1 (pf_q a (m + 1)).2.1 nS := nI_clamp (by omega)
        have hvc : vp_in (nI (pm_cd (pf_q a (m + 1)).1 (pf_q a (m + 1)).2.1 nS)) 6561 := vp_in_nI hc (by omega)
        refine And.intro hvc ?_
        rw [ec, w22]
        by_cases hd : ∃ d, 1 ≤ d ∧ d ≤ m ∧ pm_cd (pf_q a d).1 (pf_q a d).2.1 nS = pm_cd (pf_q a (m + 1)).1 (pf_q a (m + 1)).2.1 nS
        · obtain ⟨d, d1, d2, d3⟩ := hd
          have es : U 22 (pm_cd (pf_q a (m + 1)).1 (pf_q a (m + 1)).2.1 nS) = nI d := by rw [← d3]; exact s1 d d1 d2
          rw [es]
          refine And.intro (fun h => absurd h (nI_nle (by omega) (by omega))) (fun _ => ?_)
          refine And.intro hvc (And.intro hvc ?_)
          refine Or.inr ⟨m, d, by omega, hw, hn, d1, d2, (pf_code_iff hok d (m + 1)).mp d3, rfl, ?_, ?_, ?_, ?_⟩
          · show W 22 _ = _
            rw [ec, w22, es]
          · show nI (m + 1) - W 22 _ = _
            rw [ec, w22, es, pk_sub (by omega)]
          · intro j h1 h2 h3 h4 h5 h6 h7
            rw [fx_up_ne2 _ _ _ h3, fx_up_ne2 _ _ _ h2]
            exact w0 j h1 h4 h5 h6 h7
          · intro b h1 h2 h3 h4
            rw [fx_up_ne _ _ _ h1, fx_up_ne _ _ _ h1]
            exact wb b h1 h2 h3 h4
        · have es : U 22 (pm_cd (pf_q a (m + 1)).1 (pf_q a (m + 1)).2.1 nS) = 0 := s2 _ hc (fun b b1 b2 b3 => hd ⟨b, b1, b2, b3⟩)
          rw [es]
          refine And.intro (fun _ => ?_) (fun h => absurd (by decide) h)
          refine And.intro hvc ?_
          rw [ec]
          refine ih (m + 1) _ _ _ (by omega) (nI_1 (m + 1)) ?_ ?_ ?_ ?_ ?_
          · rw [hx, v41]; rfl
          · refine ⟨w26, w20, ?_, ?_, w0, ?_⟩
            · rw [if_neg (by omega)]; exact w38
            · rw [if_neg (by omega)]; exact w39
            · intro b h1 h2 h3 h4
              rw [fx_up_ne _ _ _ h4]
              exact wb b h1 h2 h3 h4
          · refine ⟨fun k hk => ?_, fun y y1 y2 b b1 b2 => ?_⟩
            · by_cases hkm : k = m
              · subst hkm; exact hn
              · exact hw.1 k (by omega)
            · by_cases hym : y = m + 1
              · subst hym
                intro h9
                exact hd ⟨b, b1, by omega, (pf_code_iff hok b (m + 1)).mpr h9⟩
              · exact hw.2 y y1 (by omega) b b1 b2
          · intro b b1 b2
            by_cases hbm : b = m + 1
            · subst hbm; rw [fx_up_at]
            · rw [fx_up_ne2 _ _ _ (fun h9 => hd ⟨b, b1, by omega, h9⟩), w22]
              exact s1 b b1 (by omega)
          · intro c hc9 hne
            rw [fx_up_ne2 _ _ _ (fun h9 => hne (m + 1) (by omega) (by omega) h9.symm), w22]
            exact s2 c hc9 (fun b b1 b2 => hne b b1 (by omega))
      refine And.intro (fun h => ?_) (fun h => And.intro (fun h2 => ?_) (fun h2 => ?_))
      · exact busy (fun hi => h (idl.mp hi).1)
      · exact busy (fun hi => h2 (idl.mp hi).2)
      · have hi : pf_idle a m := idl.mpr ⟨h, h2⟩
        refine Or.inl ⟨m, by omega, hw, hi, ?_, ?_, ?_, ?_, ?_, ?_⟩
        · exact nI_pred m
        · exact v26
        · intro y hy
          show V 20 y = _
          rw [vb 20 (by decide) (by decide)]; exact u20 y hy
        · exact hx
        · intro j h1 h2 h3 h4 h5 h6
          rw [fx_up_ne2 _ _ _ h2]
          exact v0S j h1 h3 h4 h5 h6
        · intro b h1 h2 h3 h4
          rw [fx_up_ne _ _ _ h1]
          exact vbS b h1 h2 h3 h4
  have zero : ∀ (j k : Nat) (i : Int32) (U : fx_S), k + j = 6561 → i = nI k → U = fx_row S 22 (pf_z8 (S 22) k) → J 2 [.inr 0, .inl i] [] U := by
    intro j
    induction j with
    | zero =>
      intro k i U hk hi hU
      have hk : k = 6561 := by omega
      subst hk; subst hi
      refine fx_go_ok [(26, 3)] 99 hT ht ?_
      refine And.intro (fun _ => ?_) (fun h => absurd (by decide) h)
      have ub : ∀ b, b ≠ 22 → U b = S b := fun b h => by rw [hU, fx_row_ne _ _ h]
      refine loop 512 0 _ _ _ rfl rfl ?_ ?_ ⟨fun k hk => absurd hk (by omega), fun m m1 m2 => absurd m2 (by omega)⟩ (fun b b1 b2 => absurd b2 (by omega)) (fun c hc _ => ?_)
      · rfl
      · obtain ⟨r1, r2, r3, r4, r5, r6⟩ := R0
        have u0 : U 0 = S 0 := ub 0 (by decide)
        have u20 : U 20 = S 20 := ub 20 (by decide)
        exact ⟨by rw [u0]; exact r1, by rw [u20]; exact r2, by rw [u0]; exact r3, by rw [u0]; exact r4, by rw [u0]; exact r5, fun b h1 h2 h3 h4 => ub b h4⟩
      · rw [hU, fx_row_at]
        unfold pf_z8
        rw [if_pos hc]
    | succ j ih =>
      intro k i U hk hi hU
      subst hi
      refine fx_go_ok [(2, 2)] 99 hT ht ?_
      refine And.intro (fun h => absurd (show nI 6561 ≤ nI k from h) (nI_ge (by omega) (by omega))) (fun _ => ?_)
      refine And.intro (vp_in_nI (by omega) (by omega)) ?_
      refine ih (k + 1) _ _ (by omega) (nI_1 k) ?_
      rw [nI_clamp (by omega), hU, fx_row_up, pf_z8_s]
  refine fx_go_ok [(2, 2)] 99 hT ht ?_
  refine zero 6561 0 _ _ rfl rfl ?_
  rw [pf_z8_0, fx_row_self]
end MDG
