/-! class and reference hold the same chart and the same run -/
def rl_P (M : fx_S) (nS p : Nat) : Int32 := pf_part (M 1) (nI p) nS
def RS (X M : fx_S) (nS nE nT nO nA : Nat) : Prop :=
  (X 1 2 = nI nS ∧ M 0 0 = nI nS ∧ nS ≤ 8) ∧ (X 2 4 = nI nE ∧ M 0 3 = nI nE ∧ nE ≤ 24) ∧ (X 3 4 = nI nT ∧ M 0 9 = nI nT ∧ nT ≤ 12) ∧ (X 4 3 = nI nO ∧ M 0 13 = nI nO ∧ nO ≤ 4) ∧ (X 5 5 = nI nA ∧ M 0 17 = nI nA ∧ nA ≤ 12) ∧
  (X 8 = M 1 ∧ X 10 = M 3 ∧ X 11 = M 4 ∧ X 12 = M 5 ∧ X 13 = M 6 ∧ X 14 = M 8 ∧ X 15 = M 9 ∧ X 16 = M 10 ∧ X 18 = M 11 ∧ X 19 = M 12 ∧ X 20 = M 13 ∧ X 21 = M 14 ∧ X 22 = M 15 ∧ X 23 = M 16 ∧ X 24 = M 17) ∧
  ((∀ p, p < 3 → X 9 p = rl_P M nS p) ∧ (∀ p, p < 3 → X 17 p = pf_en (M 8) (X 9 p) nT) ∧ X 1 3 = pf_ini (M 2) nS) ∧
  (∀ k, k < nS → ∃ p, p < 3 ∧ M 1 k = nI p) ∧ (wfE (M 3) (M 4) (M 5) nE ∧ ∀ k, k < nE → ∃ d, d ≤ 4 ∧ M 6 k = nI d) ∧
  (∀ t, t < nT → (∃ x, x < nE ∧ M 10 t = nI x) ∧ ¬ M 8 t = 0 ∧ ∃ p, p < 3 ∧ px_sub (M 8 t ||| M 9 t) (rl_P M nS p)) ∧
  (∀ k, k < nO → M 13 k = -1 ∨ ∃ p, p < 3 ∧ px_sub (M 13 k) (rl_P M nS p)) ∧
  (∀ k, k < nA → (∃ o, o < 8 ∧ M 14 k = nI o) ∧ ∃ u, u < 8 ∧ M 16 k = nI u)
def RD (X M : fx_S) (nS : Nat) : Prop :=
  X 0 7 = M 0 24 ∧ X 0 8 = M 0 25 ∧ X 0 9 = M 0 26 ∧ X 0 10 = M 0 28 ∧ X 0 11 = M 0 29 ∧ X 0 12 = M 0 30 ∧ X 0 13 = M 0 31 ∧ X 0 14 = M 0 32 ∧ X 0 15 = M 0 33 ∧ X 0 16 = M 0 34 ∧ (∀ k, k < 8 → X 7 k = M 20 k) ∧ px_lo nS (M 0 26) ∧ pm_rel (X 5 6) (X 25) (M 18) (M 19)
theorem RS_of {X M X' M' : fx_S} {nS nE nT nO nA : Nat} (h : RS X M nS nE nT nO nA) (hx : ∀ b, b ≠ 0 → b ≠ 5 → b ≠ 6 → b ≠ 7 → b ≠ 25 → b ≠ 26 → b ≠ 27 → X' b = X b) (h5 : X' 5 5 = X 5 5) (hm0 : ∀ j, j < 24 → M' 0 j = M 0 j) (hm : ∀ b, b ≠ 0 → b ≠ 7 → b ≠ 18 → b ≠ 19 → b ≠ 20 → b ≠ 21 → b ≠ 22 → M' b = M b) : RS X' M' nS nE nT nO nA := by
  unfold RS rl_P at h ⊢
  rw [hx 1 (by decide) (by decide) (by decide) (by decide) (by decide) (by decide) (by decide), hx 2 (by decide) (by decide) (by decide) (by decide) (by decide) (by decide) (by decide), hx 3 (by decide) (by decide) (by decide) (by decide) (by decide) (by decide) (by decide), hx 4 (by decide) (by decide) (by decide) (by decide) (by decide) (by decide) (by decide), h5, hx 8 (by decide) (by decide) (by decide) (by decide) (by decide) (by decide) (by decide), hx 9 (by decide) (by decide) (by decide) (by decide) (by decide) (by decide) (by decide), hx 10 (by decide) (by decide) (by decide) (by decide) (by decide) (by decide) (by decide), hx 11 (by decide) (by decide) (by decide) (by decide) (by decide) (by decide) (by decide), hx 12 (by decide) (by decide) (by decide) (by decide) (by decide) (by decide) (by decide), hx 13 (by decide) (by decide) (by decide) (by decide) (by decide) (by decide) (by decide), hx 14 (by decide) (by decide) (by decide) (by decide) (by decide) (by decide) (by decide), hx 15 (by decide) (by decide) (by decide) (by decide) (by decide) (by decide) (by decide), hx 16 (by decide) (by decide) (by decide) (by decide) (by decide) (by decide) (by decide), hx 17 (by decide) (by decide) (by decide) (by decide) (by decide) (by decide) (by decide), hx 18 (by decide) (by decide) (by decide) (by decide) (by decide) (by decide) (by decide), hx 19 (by decide) (by decide) (by decide) (by decide) (by decide) (by decide) (by decide), hx 20 (by decide) (by decide) (by decide) (by decide) (by decide) (by decide) (by decide), hx 21 (by decide) (by decide) (by decide) (by decide) (by decide) (by decide) (by decide), hx 22 (by decide) (by decide) (by decide) (by decide) (by decide) (by decide) (by decide), hx 23 (by decide) (by decide) (by decide) (by decide) (by decide) (by decide) (by decide), hx 24 (by decide) (by decide) (by decide) (by decide) (by decide) (by decide) (by decide),
    hm0 0 (by decide), hm0 3 (by decide), hm0 9 (by decide), hm0 13 (by decide), hm0 17 (by decide), hm 1 (by decide) (by decide) (by decide) (by decide) (by decide) (by decide) (by decide), hm 2 (by decide) (by decide) (by decide) (by decide) (by decide) (by decide) (by decide), hm 3 (by decide) (by decide) (by decide) (by decide) (by decide) (by decide) (by decide), hm 4 (by decide) (by decide) (by decide) (by decide) (by decide) (by decide) (by decide), hm 5 (by decide) (by decide) (by decide) (by decide) (by decide) (by decide) (by decide), hm 6 (by decide) (by decide) (by decide) (by decide) (by decide) (by decide) (by decide), hm 8 (by decide) (by decide) (by decide) (by decide) (by decide) (by decide) (by decide), hm 9 (by decide) (by decide) (by decide) (by decide) (by decide) (by decide) (by decide), hm 10 (by decide) (by decide) (by decide) (by decide) (by decide) (by decide) (by decide), hm 11 (by decide) (by decide) (by decide) (by decide) (by decide) (by decide) (by decide), hm 12 (by decide) (by decide) (by decide) (by decide) (by decide) (by decide) (by decide), hm 13 (by decide) (by decide) (by decide) (by decide) (by decide) (by decide) (by decide), hm 14 (by decide) (by decide) (by decide) (by decide) (by decide) (by decide) (by decide), hm 15 (by decide) (by decide) (by decide) (by decide) (by decide) (by decide) (by decide), hm 16 (by decide) (by decide) (by decide) (by decide) (by decide) (by decide) (by decide), hm 17 (by decide) (by decide) (by decide) (by decide) (by decide) (by decide) (by decide)]
  exact h
/-! folds over rows that agree -/
theorem pf_part_congr {f g : Nat → Int32} (p : Int32) : ∀ n, (∀ k, k < n → f k = g k) → pf_part f p n = pf_part g p n
  | 0, _ => rfl
  | n + 1, h => by rw [pf_part, pf_part, pf_part_congr p n (fun k hk => h k (by omega)), h n (by omega)]
theorem pf_ini_congr {f g : Nat → Int32} : ∀ n, (∀ k, k < n → f k = g k) → pf_ini f n = pf_ini g n
  | 0, _ => rfl
  | n + 1, h => by rw [pf_ini, pf_ini, pf_ini_congr n (fun k hk => h k (by omega)), h n (by omega)]
theorem pf_en_congr {f g : Nat → Int32} {s t : Int32} : ∀ n, (∀ k, k < n → (px_sub (f k) s ↔ px_sub (g k) t)) → pf_en f s n = pf_en g t n
  | 0, _ => rfl
  | n + 1, h => by
    rw [pf_en, pf_en, pf_en_congr n (fun k hk => h k (by omega))]
    have h1 := h n (by omega)
    by_cases hc : px_sub (f n) s
    · rw [if_pos hc, if_pos (h1.mp hc)]
    · rw [if_neg hc, if_neg (fun q => hc (h1.mpr q))]
theorem pf_act_congr {ow qu va du : Nat → Int32} {si sb re : Int32} {tm tm' : Nat → Int32} {a : Int32 × (Nat → Int32)} : ∀ n, (∀ k, k < n → tm (ow k).toNatClampNeg = tm' (ow k).toNatClampNeg) → pf_act ow qu va du si sb re tm a n = pf_act ow qu va du si sb re tm' a n
  | 0, _ => rfl
  | n + 1, h => by
    have ih := pf_act_congr (ow := ow) (qu := qu) (va := va) (du := du) (si := si) (sb := sb) (re := re) (a := a) n (fun k hk => h k (by omega))
    rw [pf_act, pf_act, ih, h n (by omega)]
theorem pf_part_lo (f : Nat → Int32) (p : Int32) : ∀ n, n ≤ 32 → px_lo n (pf_part f p n)
  | 0, _ => px_lo_0 0
  | n + 1, h => by
    have ih := pf_part_lo f p n (by omega)
    rw [pf_part]
    by_cases hc : f n = p
    · rw [if_pos hc]; exact px_lo_or (by omega) ih
    · rw [if_neg hc]; exact px_lo_up (by omega) ih
theorem pf_ini_lo (f : Nat → Int32) : ∀ n, n ≤ 32 → px_lo n (pf_ini f n)
  | 0, _ => px_lo_0 0
  | n + 1, h => by
    have ih := pf_ini_lo f n (by omega)
    rw [pf_ini]
    by_cases hc : f n = 0
    · rw [if_pos hc]; exact px_lo_up (by omega) ih
    · rw [if_neg hc]; exact px_lo_or (by omega) ih
/-- two parts have no step in common -/
theorem pf_part_dis (f : Nat → Int32) {p q : Int32} (hpq : p ≠ q) : ∀ n, n ≤ 32 → ∀ i, i < 32 → bt (pf_part f p n) i = true → bt (pf_part f q n) i = true → False
  | 0, _, i, _, h, _ => by rw [pf_part, b_0] at h; cases h
  | n + 1, hn, i, hi, h1, h2 => by
    have ih := pf_part_dis f hpq n (by omega) i hi
    have lp := pf_part_lo f p n (by omega)
    have lq := pf_part_lo f q n (by omega)
    rw [pf_part] at h1 h2
    by_cases hp : f n = p
    · rw [if_pos hp, px_or_b (by omega) hi] at h1
      rw [if_neg (fun h => hpq (hp.symm.trans h))] at h2
      by_cases hin : i = n
      · subst hin; rw [lq i (by omega) hi] at h2; cases h2
      · rw [decide_eq_false hin, Bool.or_false] at h1; exact ih h1 h2
    · rw [if_neg hp] at h1
      by_cases hq : f n = q
      · rw [if_pos hq, px_or_b (by omega) hi] at h2
        by_cases hin : i = n
        · subst hin; rw [lp i (by omega) hi] at h1; cases h1
        · rw [decide_eq_false hin, Bool.or_false] at h2; exact ih h1 h2
      · rw [if_neg hq] at h2; exact ih h1 h2
theorem px_lo_sub {n : Nat} {x y : Int32} (h : px_sub x y) (hy : px_lo n y) : px_lo n x := by
  intro i h1 h2
  cases hb : bt x i with
  | false => rfl
  | true => rw [← px_sub_bt.mp h i h2 hb]; exact hy i h1 h2
theorem px_sub_b {n : Nat} (hn : n < 32) {x y : Int32} (hx : px_lo n x) : px_sub x (y ||| px_b n) ↔ px_sub x y := by
  rw [px_sub_bt, px_sub_bt]
  constructor
  · intro h i hi hb
    have h1 := h i hi hb
    rw [px_or_b hn hi] at h1
    by_cases hin : i = n
    · subst hin; rw [hx i (by omega) hi] at hb; cases hb
    · rw [decide_eq_false hin, Bool.or_false] at h1; exact h1
  · intro h i hi hb
    rw [px_or_b hn hi, h i hi hb]; rfl
theorem upd_lt {f : Nat → Int32} {n : Nat} {x : Int32} {k : Nat} (h : k < n) : upd f n x k = f k := pk_un (by omega)
/-! the evolutions are the same -/
theorem pf_one_congr {c c' : pf_C} (h : ∀ r, 1 ≤ r → r ≤ 9 → c r = c' r) {nT nO : Nat} {sg si du : Int32} {p : Nat} (h10 : c 10 p = c' 10 p) (h11 : c 11 p = c' 11 p) (a : Int32 × Int32) : pf_one c nT nO sg si du p a = pf_one c' nT nO sg si du p a := by
  unfold pf_one
  rw [h 4 (by decide) (by decide), h 5 (by decide) (by decide), h 7 (by decide) (by decide), h 8 (by decide) (by decide), h 9 (by decide) (by decide), h10, h11]
theorem pf_ev_congr {c c' : pf_C} (h : ∀ r, 1 ≤ r → r ≤ 9 → c r = c' r) (h10 : ∀ p, p < 3 → c 10 p = c' 10 p) (h11 : ∀ p, p < 3 → c 11 p = c' 11 p) {nE nT nO : Nat} {sg inp ri fa si ti : Int32} {tb : Nat → Int32} : pf_ev c nE nT nO sg inp ri fa si ti tb = pf_ev c' nE nT nO sg inp ri fa si ti tb := by
  have hd : pf_dd c nE nT inp ri fa si ti tb = pf_dd c' nE nT inp ri fa si ti tb := by
    unfold pf_dd
    rw [h 1 (by decide) (by decide), h 2 (by decide) (by decide), h 3 (by decide) (by decide), h 4 (by decide) (by decide), h 6 (by decide) (by decide)]
  unfold pf_ev
  rw [hd, pf_one_congr h (h10 0 (by omega)) (h11 0 (by omega)), pf_one_congr h (h10 1 (by omega)) (h11 1 (by omega)), pf_one_congr h (h10 2 (by omega)) (h11 2 (by omega))]
theorem pf_q_congr {c c' : pf_C} (h : ∀ r, 1 ≤ r → r ≤ 9 → c r = c' r) (h10 : ∀ p, p < 3 → c 10 p = c' 10 p) (h11 : ∀ p, p < 3 → c 11 p = c' 11 p) (z : Nat × Nat × Nat × Int32 × Int32 × Int32 × Int32 × (Nat → Int32) × Int32 × Int32) : (∀ i x, pf_qv (c, z) i x = pf_qv (c', z) i x) ∧ ∀ i, pf_q (c, z) i = pf_q (c', z) i := by
  have hv : ∀ i x, pf_qv (c, z) i x = pf_qv (c', z) i x := fun i x => by
    unfold pf_qv
    exact pf_ev_congr h h10 h11
  refine ⟨hv, fun i => ?_⟩
  induction i with
  | zero => rfl
  | succ i ih => rw [pf_q, pf_q, ih, hv]
theorem pf_congr {c c' : pf_C} (h : ∀ r, 1 ≤ r → r ≤ 9 → c r = c' r) (h10 : ∀ p, p < 3 → c 10 p = c' 10 p) (h11 : ∀ p, p < 3 → c 11 p = c' 11 p) (z : Nat × Nat × Nat × Int32 × Int32 × Int32 × Int32 × (Nat → Int32) × Int32 × Int32) : (∀ i, pf_q (c, z) i = pf_q (c', z) i) ∧ (∀ i, pf_idle (c, z) i ↔ pf_idle (c', z) i) ∧ (∀ i, pf_qs (c, z) i = pf_qs (c', z) i) ∧ ∀ i, pf_on_way (c, z) i ↔ pf_on_way (c', z) i := by
  obtain ⟨hv, hq⟩ := pf_q_congr h h10 h11 z
  have h1 : ∀ i, pf_idle (c, z) i ↔ pf_idle (c', z) i := fun i => by unfold pf_idle; rw [hq, hv]
  have h2 : ∀ i, pf_qs (c, z) i = pf_qs (c', z) i := fun i => by unfold pf_qs; rw [hq]
  refine ⟨hq, h1, h2, fun i => ?_⟩
  unfold pf_on_way
  constructor
  · rintro ⟨g1, g2⟩
    exact ⟨fun k hk => fun q => g1 k hk ((h1 k).mpr q), fun m m1 m2 b b1 b2 => by rw [← h2, ← h2]; exact g2 m m1 m2 b b1 b2⟩
  · rintro ⟨g1, g2⟩
    exact ⟨fun k hk => fun q => g1 k hk ((h1 k).mp q), fun m m1 m2 b b1 b2 => by rw [h2, h2]; exact g2 m m1 m2 b b1 b2⟩
/-! an outcome is one -/
theorem out_ss {a : pf_A} {i j : Nat} (w1 : pf_on_way a i) (d1 : pf_idle a i) (w2 : pf_on_way a j) (d2 : pf_idle a j) : i = j := by
  rcases Nat.lt_trichotomy i j with h | h | h
  · exact absurd d1 (w2.1 i h)
  · exact h
  · exact absurd d2 (w1.1 j h)
theorem out_su {a : pf_A} {i j d : Nat} (w1 : pf_on_way a i) (d1 : pf_idle a i) (w2 : pf_on_way a j) (d2 : ¬ pf_idle a j) (h1 : 1 ≤ d) (h2 : d ≤ j) (h3 : pf_qs a d = pf_qs a (j + 1)) : False := by
  rcases Nat.lt_trichotomy i j with h | h | h
  · exact w2.1 i h d1
  · subst h; exact d2 d1
  · exact w1.2 (j + 1) (by omega) (by omega) d h1 (by omega) h3
theorem out_uu {a : pf_A} {i j d e : Nat} (w1 : pf_on_way a i) (h1 : 1 ≤ d) (h2 : d ≤ i) (h3 : pf_qs a d = pf_qs a (i + 1)) (w2 : pf_on_way a j) (g1 : 1 ≤ e) (g2 : e ≤ j) (g3 : pf_qs a e = pf_qs a (j + 1)) : i = j ∧ d = e := by
  have hij : i = j := by
    rcases Nat.lt_trichotomy i j with h | h | h
    · exact absurd h3 (w2.2 (i + 1) (by omega) (by omega) d h1 (by omega))
    · exact h
    · exact absurd g3 (w1.2 (j + 1) (by omega) (by omega) e g1 (by omega))
  subst hij
  refine ⟨rfl, ?_⟩
  have he : pf_qs a d = pf_qs a e := h3.trans g3.symm
  rcases Nat.lt_trichotomy d e with h | h | h
  · exact absurd he (w1.2 e g1 (by omega) d h1 h)
  · exact h
  · exact absurd he.symm (w1.2 d h1 (by omega) e g1 h)
