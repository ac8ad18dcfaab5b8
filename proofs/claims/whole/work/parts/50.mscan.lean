/-! the reference: scan -/
theorem pf_tmd_bt (si : Int32) (f : Nat → Int32) : ∀ (n : Nat), n ≤ 32 → ∀ i, i < 32 → (bt (pf_tmd si f n) i = true ↔ i < n ∧ px_in si (nI i) ∧ ¬ f i = 0)
  | 0, _, i, _ => by
    rw [pf_tmd, b_0]
    exact ⟨fun h => (by cases h), fun h => absurd h.1 (by omega)⟩
  | n + 1, hn, i, hi => by
    have ih := pf_tmd_bt si f n (by omega) i hi
    rw [pf_tmd]
    by_cases h : px_in si (nI n) ∧ ¬ f n = 0
    · rw [if_pos h, px_or_b (by omega) hi]
      by_cases hin : i = n
      · subst hin
        simp only [decide_true, Bool.or_true, true_iff]
        exact ⟨by omega, h⟩
      · rw [decide_eq_false hin, Bool.or_false, ih]
        exact ⟨fun q => ⟨by omega, q.2⟩, fun q => ⟨by omega, q.2⟩⟩
    · rw [if_neg h, ih]
      refine ⟨fun q => ⟨by omega, q.2⟩, fun q => ⟨?_, q.2⟩⟩
      have : i ≠ n := fun e => h (e ▸ q.2)
      omega
theorem pf_tmd_congr (si : Int32) {f g : Nat → Int32} : ∀ (n : Nat), (∀ k, k < n → f k = g k) → pf_tmd si f n = pf_tmd si g n
  | 0, _ => rfl
  | n + 1, h => by
    rw [pf_tmd, pf_tmd, pf_tmd_congr si n (fun k hk => h k (by omega)), h n (by omega)]
abbrev pm_sa (S : fx_S) (nS nE nT nO : Nat) (lv dt : Int32) (tb : Nat → Int32) : pf_A := (chM S nS nT, nE, nT, nO, S 0 25, lv &&& 255, (lv &&& 255) &&& (S 0 29 ^^^ (-1)), S 0 29 &&& ((lv &&& 255) ^^^ (-1)), tb, S 0 26, pf_tmd (S 0 26) (fun k => S 20 k + dt) 8)
/-- what a scan of the reference keeps -/
def pm_kp (S S' : fx_S) (a : pf_A) (i : Nat) (lv dt : Int32) (st : Int32) (ag : Nat → Int32) (nA : Nat) : Prop :=
  S' 0 26 = (pf_q a i).1 ∧ S' 0 28 = (pf_q a i).1 ∧ (∀ x, x < 8 → S' 20 x = pf_tm (pf_q a i).2.1 a.2.2.2.2.2.2.2.2.1 (nI x)) ∧ S' 0 32 = (pf_q a i).2.2 ∧ S' 0 31 = nI i ∧ S' 0 29 = lv &&& 255 ∧ S' 0 33 = 0 ∧ S' 0 34 = 0 ∧
  S' 0 30 = (pf_act (S 14) (S 15) (S 16) (S 17) (pf_q a i).1 (S 0 28) (pf_rs (S 14) (S 15) (S 16) (pf_q a i).1 nA) (S' 20) (st, pf_gr ag st dt nA) nA).2 &&& (pf_rs (S 14) (S 15) (S 16) (pf_q a i).1 nA ^^^ (-1)) ∧
  pm_rel (pf_act (S 14) (S 15) (S 16) (S 17) (pf_q a i).1 (S 0 28) (pf_rs (S 14) (S 15) (S 16) (pf_q a i).1 nA) (S' 20) (st, pf_gr ag st dt nA) nA).1.1 (pf_act (S 14) (S 15) (S 16) (S 17) (pf_q a i).1 (S 0 28) (pf_rs (S 14) (S 15) (S 16) (pf_q a i).1 nA) (S' 20) (st, pf_gr ag st dt nA) nA).1.2 (S' 18) (S' 19) ∧
  (∀ j, j < 26 → S' 0 j = S 0 j) ∧ ∀ b, b ≠ 0 → b ≠ 7 → b ≠ 18 → b ≠ 19 → b ≠ 20 → b ≠ 21 → b ≠ 22 → S' b = S b
def pm_sc (S S' : fx_S) (r lv dt : Int32) (a : pf_A) (st : Int32) (ag : Nat → Int32) (nA : Nat) : Prop :=
  (∃ i, ((S 0 25 = 0 ∧ ((i = 0 ∧ pf_idle a 0) ∨ (i = 1 ∧ ¬ pf_idle a 0))) ∨ (¬ S 0 25 = 0 ∧ i ≤ 511 ∧ pf_on_way a i ∧ pf_idle a i)) ∧ r = nI i ∧ pm_kp S S' a i lv dt st ag nA) ∨
  (¬ S 0 25 = 0 ∧ ∃ i d, i ≤ 511 ∧ pf_on_way a i ∧ ¬ pf_idle a i ∧ 1 ≤ d ∧ d ≤ i ∧ pf_qs a d = pf_qs a (i + 1) ∧ r = -1 ∧ S' 0 33 = nI d ∧ S' 0 34 = nI (i + 1 - d) ∧ (∀ x, x < 8 → S' 20 x = S 20 x) ∧ (∀ j, j < 33 → S' 0 j = S 0 j) ∧ ∀ b, b ≠ 0 → b ≠ 7 → b ≠ 20 → b ≠ 21 → b ≠ 22 → S' b = S b)
section MDJ
variable {κ : fx_K} {S : fx_S}
theorem ct_Md_scan (hq : fx_I κ lyM.length) {nS nE nT nO nA : Nat} (hwf : wfM S nS nE nT nO) (hnA : S 0 17 = nI nA) (hbA : nA ≤ 12) (how : ∀ k, k < nA → ∃ o, o < 8 ∧ S 14 k = nI o) (hva : ∀ k, k < nA → ∃ u, u < 8 ∧ S 16 k = nI u) {st : Int32} {ag : Nat → Int32} (hrel : pm_rel st ag (S 18) (S 19)) (hok : pf_ok (chM S nS nT) nS nT nO) (hlo : px_lo nS (S 0 26)) (lv dt : Int32) {tb : Nat → Int32} (htb : ∀ k, k < 8 → tb k = S 20 k + dt) : MC_Md_scan κ [.inr 0, .inl lv, .inl dt] S (fun r S' => (¬ (¬ S 0 24 = 0 ∧ 0 ≤ dt ∧ dt ≤ 1000000) ∧ r = -2 ∧ S' = S) ∨ ((¬ S 0 24 = 0 ∧ 0 ≤ dt ∧ dt ≤ 1000000) ∧ pf_aok (pm_sa S nS nE nT nO lv dt tb) nS ∧ pm_sc S S' r lv dt (pm_sa S nS nE nT nO lv dt tb) st ag nA)) := by
  refine mo_Md_scan hq (Nat.le_of_ble_eq_true rfl) ?_
  intro J hT ht
  have hb8 := hwf.2.1
  have haok : pf_aok (pm_sa S nS nE nT nO lv dt tb) nS := by
    refine ⟨hb8, hok, hlo, fun i hi h => ?_, fun k hk h => ?_⟩
    · have := (pf_tmd_bt (S 0 26) (fun k => S 20 k + dt) 8 (by omega) i hi).mp h
      rw [px_in_bt hi] at this
      exact this.2.1
    · have := (pf_tmd_bt (S 0 26) (fun k => S 20 k + dt) 8 (by omega) k (by omega)).mp h
      show ¬ tb k = 0
      rw [htb k hk]
      exact this.2.2
  obtain ⟨ti, hti⟩ : ∃ ti, pf_tmd (S 0 26) (fun k => S 20 k + dt) 8 = ti := ⟨_, rfl⟩
  have tmv : ∀ k, k < 8 → pf_tm ti tb (nI k) = if px_in (S 0 26) (nI k) then S 20 k + dt else 0 := by
    intro k hk
    have hb9 := pf_tmd_bt (S 0 26) (fun k => S 20 k + dt) 8 (by omega) k (by omega)
    rw [hti] at hb9
    unfold pf_tm
    by_cases h1 : px_in ti (nI k)
    · rw [if_pos h1, nI_clamp (by omega), htb k hk]
      rw [px_in_bt (by omega)] at h1
      rw [if_pos (hb9.mp h1).2.1]
    · rw [if_neg h1]
      by_cases h2 : px_in (S 0 26) (nI k)
      · rw [if_pos h2]
        refine Eq.symm (Classical.not_not.mp (fun h3 => h1 ?_))
        rw [px_in_bt (by omega)]
        exact hb9.mpr ⟨hk, h2, h3⟩
      · rw [if_neg h2]
  generalize ha : pm_sa S nS nE nT nO lv dt tb = a at hT haok
  have ret : ∀ (r : Int32) (S' : fx_S), (¬ S 0 24 = 0 ∧ 0 ≤ dt ∧ dt ≤ 1000000) → pm_sc S S' r lv dt a st ag nA → (¬ (¬ S 0 24 = 0 ∧ 0 ≤ dt ∧ dt ≤ 1000000) ∧ r = -2 ∧ S' = S) ∨ ((¬ S 0 24 = 0 ∧ 0 ≤ dt ∧ dt ≤ 1000000) ∧ pf_aok a nS ∧ pm_sc S S' r lv dt a st ag nA) := fun r S' h1 h2 => Or.inr ⟨h1, haok, h2⟩
  have atb : a.2.2.2.2.2.2.2.2.1 = tb := by rw [← ha]
  -- behind the evolutions, if they end
  have kept : (¬ S 0 24 = 0 ∧ 0 ≤ dt ∧ dt ≤ 1000000) → ∀ (i : Nat) (U : fx_S), ((S 0 25 = 0 ∧ ((i = 0 ∧ pf_idle a 0) ∨ (i = 1 ∧ ¬ pf_idle a 0))) ∨ (¬ S 0 25 = 0 ∧ i ≤ 511 ∧ pf_on_way a i ∧ pf_idle a i)) → i ≤ 511 → U 0 26 = (pf_q a i).1 → (∀ x, x < 8 → U 20 x = pf_tm (pf_q a i).2.1 tb (nI x)) → U 0 32 = (pf_q a i).2.2 → U 0 37 = lv &&& 255 → (∀ j, j < 26 → U 0 j = S 0 j) → U 0 28 = S 0 28 → (∀ b, b ≠ 0 → b ≠ 7 → b ≠ 20 → b ≠ 21 → b ≠ 22 → U b = S b) → J 141 [.inr 0, .inl lv, .inl dt, .inl (nI i)] [] U := by
    intro hc i U hi hi5 u26 u20 u32 u37 u0 u28 ub
    refine fx_go_ok [] 150 hT ht ?_
    refine And.intro (fun _ => ?_) (fun h => absurd h (nI_nm1 (by omega)))
    generalize hX : fx_up (fx_up (fx_up (fx_up U 0 29 (U 0 37)) 0 33 0) 0 34 0) 0 31 (nI i) = X
    have xb : ∀ b, b ≠ 0 → X b = U b := fun b h => by rw [← hX, fx_up_ne _ _ _ h, fx_up_ne _ _ _ h, fx_up_ne _ _ _ h, fx_up_ne _ _ _ h]
    have xS : ∀ b, b ≠ 0 → b ≠ 7 → b ≠ 20 → b ≠ 21 → b ≠ 22 → X b = S b := fun b h1 h2 h3 h4 h5 => (xb b h1).trans (ub b h1 h2 h3 h4 h5)
    have x0 : ∀ j, j < 26 → X 0 j = S 0 j := fun j hj => by
      rw [← hX, fx_up_ne2 _ _ _ (by omega), fx_up_ne2 _ _ _ (by omega), fx_up_ne2 _ _ _ (by omega), fx_up_ne2 _ _ _ (by omega)]
      exact u0 j hj
    have x26 : X 0 26 = (pf_q a i).1 := by rw [← hX]; exact u26
    have x28 : X 0 28 = S 0 28 := by rw [← hX]; exact u28
    have x29 : X 0 29 = lv &&& 255 := by rw [← hX]; exact u37
    have x31 : X 0 31 = nI i := by rw [← hX]; rfl
    have x32 : X 0 32 = (pf_q a i).2.2 := by rw [← hX]; exact u32
    have x33 : X 0 33 = 0 := by rw [← hX]; rfl
    have x34 : X 0 34 = 0 := by rw [← hX]; rfl
    have x14 : X 14 = S 14 := xS 14 (by decide) (by decide) (by decide) (by decide) (by decide)
    have x15 : X 15 = S 15 := xS 15 (by decide) (by decide) (by decide) (by decide) (by decide)
    have x16 : X 16 = S 16 := xS 16 (by decide) (by decide) (by decide) (by decide) (by decide)
    have x17 : X 17 = S 17 := xS 17 (by decide) (by decide) (by decide) (by decide) (by decide)
    have x18 : X 18 = S 18 := xS 18 (by decide) (by decide) (by decide) (by decide) (by decide)
    have x19 : X 19 = S 19 := xS 19 (by decide) (by decide) (by decide) (by decide) (by decide)
    have x20 : X 20 = U 20 := xb 20 (by decide)
    have hact := ct_Md_act hq (S := X) (n := nA) (by rw [x0 17 (by decide)]; exact hnA) hbA (by rw [x14]; exact how) (by rw [x16]; exact hva) (st := st) (ag := ag) (by rw [x18, x19]; exact hrel) dt
    rw [← hX] at hact
    refine fx_ex _ hact ?_
    intro r2 V hV
    rw [hX] at hV
    obtain ⟨v30, vrel, v0, vb⟩ := hV
    unfold pm_A pm_re at v30 vrel
    rw [x14, x15, x16, x17, x26, x28] at v30 vrel
    have v20 : V 20 = X 20 := vb 20 (by decide) (by decide) (by decide)
    refine ret _ _ hc (Or.inl ⟨i, hi, rfl, ?_, ?_, ?_, ?_, ?_, ?_, ?_, ?_, ?_, ?_, ?_, ?_⟩)
    · show V 0 26 = _
      rw [v0 26 (by decide)]; exact x26
    · show V 0 26 = _
      rw [v0 26 (by decide)]; exact x26
    · intro x hx
      show V 20 x = _
      rw [v20, x20, atb]; exact u20 x hx
    · show V 0 32 = _
      rw [v0 32 (by decide)]; exact x32
    · show V 0 31 = _
      rw [v0 31 (by decide)]; exact x31
    · show V 0 29 = _
      rw [v0 29 (by decide)]; exact x29
    · show V 0 33 = _
      rw [v0 33 (by decide)]; exact x33
    · show V 0 34 = _
      rw [v0 34 (by decide)]; exact x34
    · show V 0 30 = _
      rw [show fx_up V 0 28 (V 0 26) 20 = V 20 from fx_up_ne _ _ _ (by decide), v20]
      exact v30
    · rw [show fx_up V 0 28 (V 0 26) 20 = V 20 from fx_up_ne _ _ _ (by decide), v20, show fx_up V 0 28 (V 0 26) 18 = V 18 from fx_up_ne _ _ _ (by decide), show fx_up V 0 28 (V 0 26) 19 = V 19 from fx_up_ne _ _ _ (by decide)]
      exact vrel
    · intro j hj
      rw [fx_up_ne2 _ _ _ (by omega), v0 j (by omega)]
      exact x0 j hj
    · intro b h1 h2 h3 h4 h5 h6 h7
      rw [fx_up_ne _ _ _ h1, vb b h1 h3 h4]
      exact xS b h1 h2 h5 h6 h7
  -- behind evolutions without end: the old situation comes back
  have back : (¬ S 0 24 = 0 ∧ 0 ≤ dt ∧ dt ≤ 1000000) → ∀ (i d : Nat) (U : fx_S), ¬ S 0 25 = 0 → i ≤ 511 → pf_on_way a i → ¬ pf_idle a i → 1 ≤ d → d ≤ i → pf_qs a d = pf_qs a (i + 1) → U 0 33 = nI d → U 0 34 = nI (i + 1 - d) → U 0 35 = S 0 26 → (∀ x, x < 8 → U 21 x = S 20 x) → (∀ j, j < 33 → j ≠ 26 → U 0 j = S 0 j) → (∀ b, b ≠ 0 → b ≠ 7 → b ≠ 20 → b ≠ 21 → b ≠ 22 → U b = S b) → J 141 [.inr 0, .inl lv, .inl dt, .inl (-1)] [] U := by
    intro hc i d U s0 hi hw hn d1 d2 hs u33 u34 u35 u21 u0 ub
    have loop : ∀ (j k : Nat) (x : Int32) (V : fx_S), k + j = 8 → x = nI k → (∀ y, y < k → V 20 y = S 20 y) → V 21 = U 21 → V 0 33 = nI d → V 0 34 = nI (i + 1 - d) → (∀ j, j < 33 → V 0 j = S 0 j) → (∀ b, b ≠ 0 → b ≠ 7 → b ≠ 20 → b ≠ 21 → b ≠ 22 → V b = S b) → J 157 [.inr 0, .inl lv, .inl dt, .inl (-1), .inl x] [] V := by
      intro j
      induction j with
      | zero =>
        intro k x V hk hx v20 v21 v33 v34 v0 vb
        have hk : k = 8 := by omega
        subst hk; subst hx
        refine fx_go_ok [] 99 hT ht ?_
        refine And.intro (fun _ => ?_) (fun h => absurd (by decide) h)
        exact ret _ _ hc (Or.inr ⟨s0, i, d, hi, hw, hn, d1, d2, hs, rfl, v33, v34, v20, v0, vb⟩)
      | succ j ih =>
        intro k x V hk hx v20 v21 v33 v34 v0 vb
        subst hx
        have e : (nI k).toNatClampNeg = k := nI_clamp (by omega)
        have hv : vp_in (nI k) 8 := vp_in_nI (by omega) (by omega)
        refine fx_go_ok [(157, 5)] 99 hT ht ?_
        refine And.intro (fun h => absurd (show nI 8 ≤ nI k from h) (nI_ge (by omega) (by omega))) (fun _ => ?_)
        refine And.intro hv (And.intro hv ?_)
        rw [e, v21, u21 k (by omega)]
        refine ih (k + 1) _ _ (by omega) (nI_1 k) ?_ ?_ ?_ ?_ ?_ ?_
        · intro y hy
          by_cases hyk : y = k
          · subst hyk; rw [fx_up_at]
          · rw [fx_up_ne2 _ _ _ hyk]; exact v20 y (by omega)
        · rw [fx_up_ne _ _ _ (by decide)]; exact v21
        · rw [fx_up_ne _ _ _ (by decide)]; exact v33
        · rw [fx_up_ne _ _ _ (by decide)]; exact v34
        · intro j hj
          rw [fx_up_ne _ _ _ (by decide)]; exact v0 j hj
        · intro b h1 h2 h3 h4 h5
          rw [fx_up_ne _ _ _ h3]; exact vb b h1 h2 h3 h4 h5
    refine fx_go_ok [(157, 5)] 150 hT ht ?_
    refine And.intro (fun h => absurd rfl h) (fun _ => ?_)
    refine loop 8 0 _ _ rfl rfl (fun y hy => absurd hy (by omega)) ?_ ?_ ?_ ?_ ?_
    · rw [fx_up_ne _ _ _ (by decide)]
    · exact u33
    · exact u34
    · intro j hj
      by_cases hj26 : j = 26
      · subst hj26; rw [fx_up_at]; exact u35
      · rw [fx_up_ne2 _ _ _ hj26]; exact u0 j hj hj26
    · intro b h1 h2 h3 h4 h5
      rw [fx_up_ne _ _ _ h1]; exact ub b h1 h2 h3 h4 h5
  -- the old times are put aside, the new ones made
  have loop : (¬ S 0 24 = 0 ∧ 0 ≤ dt ∧ dt ≤ 1000000) → ∀ (j k : Nat) (x : Int32) (U : fx_S), k + j = 8 → x = nI k → (∀ y, y < 8 → U 20 y = if y < k then pf_tm ti tb (nI y) else S 20 y) → (∀ y, y < k → U 21 y = S 20 y) → U 0 35 = S 0 26 → (∀ j, j ≠ 35 → U 0 j = S 0 j) → (∀ b, b ≠ 0 → b ≠ 20 → b ≠ 21 → U b = S b) → J 30 [.inr 0, .inl lv, .inl dt, .inl x] [] U := by
    intro hc j
    induction j with
    | zero =>
      intro k x U hk hx u20 u21 u35 u0 ub
      have hk : k = 8 := by omega
      subst hk; subst hx
      refine fx_go_ok [(141, 4)] 150 hT ht ?_
      refine And.intro (fun _ => ?_) (fun h => absurd (by decide) h)
      generalize hX : fx_up (fx_up (fx_up U 0 37 (lv &&& 255)) 0 38 (fx_up U 0 37 (lv &&& 255) 0 37 &&& (fx_up U 0 37 (lv &&& 255) 0 29 ^^^ (-1)))) 0 39 (fx_up (fx_up U 0 37 (lv &&& 255)) 0 38 (fx_up U 0 37 (lv &&& 255) 0 37 &&& (fx_up U 0 37 (lv &&& 255) 0 29 ^^^ (-1))) 0 29 &&& (fx_up (fx_up U 0 37 (lv &&& 255)) 0 38 (fx_up U 0 37 (lv &&& 255) 0 37 &&& (fx_up U 0 37 (lv &&& 255) 0 29 ^^^ (-1))) 0 37 ^^^ (-1))) = X
      have u29 : U 0 29 = S 0 29 := u0 29 (by decide)
      have xb : ∀ b, b ≠ 0 → X b = U b := fun b h => by rw [← hX, fx_up_ne _ _ _ h, fx_up_ne _ _ _ h, fx_up_ne _ _ _ h]
      have x37 : X 0 37 = lv &&& 255 := by rw [← hX]; rfl
      have x38 : X 0 38 = (lv &&& 255) &&& (S 0 29 ^^^ (-1)) := by rw [← hX, ← u29]; rfl
      have x39 : X 0 39 = S 0 29 &&& ((lv &&& 255) ^^^ (-1)) := by rw [← hX, ← u29]; rfl
      have x0 : ∀ j, j ≠ 35 → j ≠ 37 → j ≠ 38 → j ≠ 39 → X 0 j = S 0 j := fun j h1 h2 h3 h4 => by
        rw [← hX, fx_up_ne2 _ _ _ h4, fx_up_ne2 _ _ _ h3, fx_up_ne2 _ _ _ h2]; exact u0 j h1
      have x35 : X 0 35 = S 0 26 := by rw [← hX]; exact u35
      have xS : ∀ b, b ≠ 0 → b ≠ 20 → b ≠ 21 → X b = S b := fun b h1 h2 h3 => (xb b h1).trans (ub b h1 h2 h3)
      have x20 : ∀ y, y < 8 → X 20 y = pf_tm ti tb (nI y) := fun y hy => by rw [xb 20 (by decide), u20 y hy, if_pos hy]
      have x21 : ∀ y, y < 8 → X 21 y = S 20 y := fun y hy => by rw [xb 21 (by decide)]; exact u21 y hy
      have x26 : X 0 26 = S 0 26 := x0 26 (by decide) (by decide) (by decide) (by decide)
      have x25 : X 0 25 = S 0 25 := x0 25 (by decide) (by decide) (by decide) (by decide)
      have xch : chM X nS nT = chM S nS nT := by
        funext r
        unfold chM
        rw [xS 1 (by decide) (by decide) (by decide), xS 3 (by decide) (by decide) (by decide), xS 4 (by decide) (by decide) (by decide), xS 5 (by decide) (by decide) (by decide), xS 8 (by decide) (by decide) (by decide), xS 9 (by decide) (by decide) (by decide), xS 10 (by decide) (by decide) (by decide), xS 11 (by decide) (by decide) (by decide), xS 12 (by decide) (by decide) (by decide), xS 13 (by decide) (by decide) (by decide)]
      have hXa : pm_a X nS nE nT nO ti tb = a := by
        show ((chM X nS nT, nE, nT, nO, X 0 25, X 0 37, X 0 38, X 0 39, tb, X 0 26, ti) : pf_A) = a
        rw [xch, x25, x37, x38, x39, x26, ← hti]
        exact ha
      have xwf : wfM X nS nE nT nO := by
        obtain ⟨w1, w2, w3, w4, w5, w6, w7, w8, w9, w10⟩ := hwf
        refine ⟨?_, w2, ?_, w4, ?_, ?_, w7, ?_, ?_, w10⟩
        · rw [x0 0 (by decide) (by decide) (by decide) (by decide)]; exact w1
        · rw [x0 3 (by decide) (by decide) (by decide) (by decide)]; exact w3
        · rw [xS 3 (by decide) (by decide) (by decide), xS 4 (by decide) (by decide) (by decide), xS 5 (by decide) (by decide) (by decide)]; exact w5
        · rw [x0 9 (by decide) (by decide) (by decide) (by decide)]; exact w6
        · rw [xS 10 (by decide) (by decide) (by decide)]; exact w8
        · rw [x0 13 (by decide) (by decide) (by decide) (by decide)]; exact w9
      have fin : ∀ (i : Nat) (V : fx_S), ((S 0 25 = 0 ∧ ((i = 0 ∧ pf_idle a 0) ∨ (i = 1 ∧ ¬ pf_idle a 0))) ∨ (¬ S 0 25 = 0 ∧ i ≤ 511 ∧ pf_on_way a i ∧ pf_idle a i)) → i ≤ 511 → pm_st a X V i → J 141 [.inr 0, .inl lv, .inl dt, .inl (nI i)] [] V := by
        intro i V hi hi5 hV
        obtain ⟨v26, v20, v32, v0, vb⟩ := hV
        refine kept hc i V hi hi5 v26 (fun x hx => by rw [← atb]; exact v20 x hx) v32 ?_ ?_ ?_ ?_
        · rw [v0 37 (by decide) (by decide) (by decide) (by decide) (by decide) (by decide)]; exact x37
        · intro j hj
          rw [v0 j (by omega) (by omega) (by omega) (by omega) (by omega) (by omega)]
          exact x0 j (by omega) (by omega) (by omega) (by omega)
        · rw [v0 28 (by decide) (by decide) (by decide) (by decide) (by decide) (by decide)]
          exact x0 28 (by decide) (by decide) (by decide) (by decide)
        · intro b h1 h2 h3 h4 h5
          rw [vb b h1 h2 h3 h5]
          exact xS b h1 h3 h4
      refine And.intro (fun hs => ?_) (fun hs => ?_)
      · have hs : X 0 25 = 0 := by rw [← hX]; exact hs
        rw [x25] at hs
        have hsi := ct_Md_single hq (S := X) xwf (ti := ti) (tb := tb) x20 (by rw [hXa]; exact haok)
        rw [hXa, ← hX] at hsi
        refine fx_ex _ hsi ?_
        intro r V hV
        rw [hX] at hV
        obtain ⟨i, hi, hr, hV⟩ := hV
        subst hr
        exact fin i V (Or.inl ⟨hs, hi⟩) (by rcases hi with ⟨h, -⟩ | ⟨h, -⟩ <;> omega) hV
      · have hs : ¬ X 0 25 = 0 := by rw [← hX]; exact hs
        rw [x25] at hs
        have hse := ct_Md_settle hq (S := X) xwf (ti := ti) (tb := tb) x20 (by rw [hXa]; exact haok)
        rw [hXa, ← hX] at hse
        refine fx_ex _ hse ?_
        intro r V hV
        rw [hX] at hV
        rcases hV with ⟨i, h1, h2, h3, h4, h5⟩ | ⟨i, d, h1, h2, h3, d1, d2, d3, d4, d5, d6, d7, d8⟩
        · subst h4
          exact fin i V (Or.inr ⟨hs, h1, h2, h3⟩) h1 h5
        · subst d4
          refine back hc i d V hs h1 h2 h3 d1 d2 d3 d5 d6 ?_ ?_ ?_ ?_
          · rw [d7 35 (by decide) (by decide) (by decide) (by decide) (by decide) (by decide) (by decide)]; exact x35
          · intro y hy
            rw [d8 21 (by decide) (by decide) (by decide) (by decide)]; exact x21 y hy
          · intro j hj hj26
            rw [d7 j hj26 (by omega) (by omega) (by omega) (by omega) (by omega) (by omega)]
            exact x0 j (by omega) (by omega) (by omega) (by omega)
          · intro b g1 g2 g3 g4 g5
            rw [d8 b g1 g2 g3 g5]
            exact xS b g1 g3 g4
    | succ j ih =>
      intro k x U hk hx u20 u21 u35 u0 ub
      subst hx
      have e : (nI k).toNatClampNeg = k := nI_clamp (by omega)
      have hv : vp_in (nI k) 8 := vp_in_nI (by omega) (by omega)
      have u20k : U 20 k = S 20 k := by rw [u20 k (by omega), if_neg (by omega)]
      have fin : ∀ v : Int32, v = pf_tm ti tb (nI k) → J 30 [.inr 0, .inl lv, .inl dt, .inl (nI k + 1)] [] (fx_up (fx_up U 21 k (S 20 k)) 20 k v) := by
        intro v hv9
        refine ih (k + 1) _ _ (by omega) (nI_1 k) ?_ ?_ ?_ ?_ ?_
        · intro y hy
          by_cases hyk : y = k
          · subst hyk; rw [fx_up_at, if_pos (by omega)]; exact hv9
          · rw [fx_up_ne2 _ _ _ hyk, fx_up_ne1 _ _ _ _ (by decide), u20 y hy]
            by_cases hlt : y < k
            · rw [if_pos hlt, if_pos (by omega)]
            · rw [if_neg hlt, if_neg (by omega)]
        · intro y hy
          rw [fx_up_ne1 _ _ _ _ (by decide)]
          by_cases hyk : y = k
          · subst hyk; rw [fx_up_at]
          · rw [fx_up_ne2 _ _ _ hyk]; exact u21 y (by omega)
        · exact u35
        · intro j hj
          rw [fx_up_ne _ _ _ (by decide), fx_up_ne _ _ _ (by decide)]; exact u0 j hj
        · intro b h1 h2 h3
          rw [fx_up_ne _ _ _ h2, fx_up_ne _ _ _ h3]; exact ub b h1 h2 h3
      refine fx_go_ok [(30, 4)] 150 hT ht ?_
      refine And.intro (fun h => absurd (show nI 8 ≤ nI k from h) (nI_ge (by omega) (by omega))) (fun _ => ?_)
      refine And.intro hv (And.intro hv ?_)
      rw [e, u20k]
      refine fx_ex1 (ct_Md_in hq _ _) ?_
      have u26 : fx_up U 21 k (S 20 k) 0 26 = S 0 26 := u0 26 (by decide)
      rw [u26]
      refine And.intro (fun h => ?_) (fun h => ?_)
      · have h := px_z_eq0.mp h
        refine And.intro hv ?_
        rw [e]
        exact fin _ (by rw [tmv k (by omega), if_neg h])
      · have h := px_z_ne0.mp h
        refine And.intro hv (And.intro hv ?_)
        rw [e]
        refine fin _ ?_
        rw [tmv k (by omega), if_pos h]
        show U 20 k + dt = _
        rw [u20k]
  refine fx_go_ok [(30, 4)] 150 hT ht ?_
  refine And.intro (fun h => ?_) (fun h => And.intro (fun h2 => ?_) (fun h2 => And.intro (fun h3 => ?_) (fun h3 => ?_)))
  · exact Or.inl ⟨fun hc => hc.1 h, rfl, rfl⟩
  · exact Or.inl ⟨fun hc => Int32.not_lt.mpr hc.2.1 h2, rfl, rfl⟩
  · refine loop ⟨h, Int32.not_lt.mp h2, h3⟩ 8 0 _ _ rfl rfl (fun y hy => by rw [if_neg (by omega)]; rfl) (fun y hy => absurd hy (by omega)) rfl ?_ ?_
    · intro j hj
      rw [fx_up_ne2 _ _ _ hj]
    · intro b h1 h2 h3
      rw [fx_up_ne _ _ _ h1]
  · exact Or.inl ⟨fun hc => h3 hc.2.2, rfl, rfl⟩
end MDJ
