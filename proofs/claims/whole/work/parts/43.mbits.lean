/-! what the folds hold, bit by bit -/
theorem px_or_b {x : Int32} {k i : Nat} (hk : k < 32) (hi : i < 32) : bt (x ||| px_b k) i = (bt x i || decide (i = k)) := by
  rw [b_or, px_b_bt hk hi]
theorem pf_en_bt (bf : Nat → Int32) (si : Int32) : ∀ (n : Nat), n ≤ 32 → ∀ i, i < 32 → (bt (pf_en bf si n) i = true ↔ i < n ∧ px_sub (bf i) si)
  | 0, _, i, _ => by
    rw [pf_en, b_0]
    exact ⟨fun h => (by cases h), fun h => absurd h.1 (by omega)⟩
  | n + 1, hn, i, hi => by
    have ih := pf_en_bt bf si n (by omega) i hi
    rw [pf_en]
    by_cases h : px_sub (bf n) si
    · rw [if_pos h, px_or_b (by omega) hi]
      by_cases hin : i = n
      · subst hin
        simp only [decide_true, Bool.or_true, true_iff]
        exact ⟨by omega, h⟩
      · rw [decide_eq_false hin, Bool.or_false, ih]
        exact ⟨fun q => ⟨by omega, q.2⟩, fun q => ⟨by omega, q.2⟩⟩
    · rw [if_neg h, ih]
      refine ⟨fun q => ⟨by omega, q.2⟩, fun q => ⟨?_, q.2⟩⟩
      have : i ≠ n := fun e => h (e ▸ q.2)
      omega
theorem pf_due_bt (cd : Nat → Int32) (tr s0 : Int32) : ∀ (n : Nat), n ≤ 32 → ∀ i, i < 32 → (bt (pf_due cd tr s0 n) i = true ↔ bt s0 i = true ∧ (i < n → px_in tr (cd i)))
  | 0, _, i, _ => by
    rw [pf_due]
    exact ⟨fun h => ⟨h, fun q => absurd q (by omega)⟩, fun h => h.1⟩
  | n + 1, hn, i, hi => by
    have ih := pf_due_bt cd tr s0 n (by omega) i hi
    rw [pf_due]
    by_cases h : px_in tr (cd n)
    · rw [if_pos h, ih]
      refine ⟨fun q => ⟨q.1, fun q2 => ?_⟩, fun q => ⟨q.1, fun q2 => q.2 (by omega)⟩⟩
      by_cases hin : i = n
      · subst hin; exact h
      · exact q.2 (by omega)
    · rw [if_neg h, b_and, px_not_bt hi, px_b_bt (by omega) hi]
      by_cases hin : i = n
      · subst hin
        simp only [decide_true, Bool.not_true, Bool.and_false]
        exact ⟨fun q => (by cases q), fun q => absurd (q.2 (by omega)) h⟩
      · rw [decide_eq_false hin, Bool.not_false, Bool.and_true, ih]
        exact ⟨fun q => ⟨q.1, fun q2 => q.2 (by omega)⟩, fun q => ⟨q.1, fun q2 => q.2 (by omega)⟩⟩
theorem pf_un_congr (en : Nat → Int32) {x y : Int32} : ∀ (k : Nat), (∀ j, j < k → (px_in x (nI j) ↔ px_in y (nI j))) → pf_un en x k = pf_un en y k
  | 0, _ => rfl
  | k + 1, h => by
    have ih := pf_un_congr en k (fun j hj => h j (by omega))
    rw [pf_un, pf_un, ih]
    have h1 := h k (by omega)
    by_cases hx : px_in x (nI k)
    · rw [if_pos hx, if_pos (h1.mp hx)]
    · rw [if_neg hx, if_neg (fun q => hx (h1.mpr q))]
/-- no number from k on -/
def px_lo (k : Nat) (x : Int32) : Prop := ∀ i, k ≤ i → i < 32 → bt x i = false
theorem px_lo_or {k : Nat} {x : Int32} (hk : k < 32) (h : px_lo k x) : px_lo (k + 1) (x ||| px_b k) := by
  intro i h1 h2
  rw [px_or_b hk h2, h i (by omega) h2, decide_eq_false (by omega)]
  rfl
theorem px_lo_up {k m : Nat} {x : Int32} (hkm : k ≤ m) (h : px_lo k x) : px_lo m x := fun i h1 h2 => h i (by omega) h2
theorem px_lo_0 (k : Nat) : px_lo k 0 := fun i _ _ => b_0 i
theorem px_lo_and {k : Nat} {x y : Int32} (h : px_lo k y) : px_lo k (x &&& y) := by
  intro i h1 h2
  rw [b_and, h i h1 h2, Bool.and_false]
theorem px_lo_in {k : Nat} {x : Int32} (hk : k < 32) (h : px_lo k x) : ¬ px_in x (nI k) := by
  rw [px_in_bt hk, h k (by omega) hk]
  exact fun q => by cases q
theorem pf_un_take (en : Nat → Int32) {x : Int32} {k : Nat} (hk : k < 32) : pf_un en (x ||| px_b k) (k + 1) = pf_un en x k ||| en k := by
  rw [pf_un]
  have h1 : px_in (x ||| px_b k) (nI k) := by
    rw [px_in_bt hk, px_or_b hk hk]
    simp
  rw [if_pos h1]
  congr 1
  refine pf_un_congr en k (fun j hj => ?_)
  rw [px_in_bt (by omega), px_in_bt (by omega), px_or_b hk (by omega), decide_eq_false (by omega), Bool.or_false]
theorem pf_un_skip (en : Nat → Int32) {x : Int32} {k : Nat} (h : ¬ px_in x (nI k)) : pf_un en x (k + 1) = pf_un en x k := by
  rw [pf_un, if_neg h]
/-- the set itself, below k -/
theorem pf_un_b (x : Int32) : ∀ (k : Nat), k ≤ 32 → ∀ i, i < 32 → bt (pf_un px_b x k) i = (decide (i < k) && bt x i)
  | 0, _, i, _ => by rw [pf_un, b_0]; simp
  | k + 1, hk, i, hi => by
    have ih := pf_un_b x k (by omega) i hi
    rw [pf_un]
    by_cases h : px_in x (nI k)
    · rw [if_pos h, px_or_b (by omega) hi, ih]
      by_cases hik : i = k
      · subst hik
        rw [px_in_bt hi] at h
        simp [h]
      · have : decide (i < k + 1) = decide (i < k) := by
          by_cases hlt : i < k
          · rw [decide_eq_true hlt, decide_eq_true (by omega)]
          · rw [decide_eq_false hlt, decide_eq_false (by omega)]
        rw [this, decide_eq_false hik, Bool.or_false]
    · rw [if_neg h, ih]
      by_cases hik : i = k
      · subst hik
        rw [px_in_bt hi, Bool.not_eq_true] at h
        simp [h]
      · have : decide (i < k + 1) = decide (i < k) := by
          by_cases hlt : i < k
          · rw [decide_eq_true hlt, decide_eq_true (by omega)]
          · rw [decide_eq_false hlt, decide_eq_false (by omega)]
        rw [this]
theorem pf_un_self {x : Int32} {n : Nat} (hn : n ≤ 32) (h : px_lo n x) : pf_un px_b x n = x := by
  apply b_ext
  intro i hi
  rw [pf_un_b x n hn i hi]
  by_cases hin : i < n
  · rw [decide_eq_true hin, Bool.true_and]
  · rw [decide_eq_false hin, Bool.false_and, h i (by omega) hi]
theorem pf_un_b_lo (x : Int32) {k : Nat} (hk : k ≤ 32) : px_lo k (pf_un px_b x k) := by
  intro i h1 h2
  rw [pf_un_b x k hk i h2, decide_eq_false (by omega), Bool.false_and]
theorem pf_wr_lo (bf : Nat → Int32) (du : Int32) : ∀ (k : Nat), k ≤ 32 → px_lo k (pf_wr bf du k).1
  | 0, _ => by rw [pf_wr]; exact px_lo_0 0
  | k + 1, hk => by
    have ih := pf_wr_lo bf du k (by omega)
    rw [pf_wr]
    by_cases h : px_in du (nI k) ∧ bf k &&& (pf_wr bf du k).2 = 0
    · rw [if_pos h]; exact px_lo_or (by omega) ih
    · rw [if_neg h]; exact px_lo_up (by omega) ih
theorem pf_wr_un (bf : Nat → Int32) (du : Int32) : ∀ (k : Nat), k ≤ 32 → (pf_wr bf du k).2 = pf_un bf (pf_wr bf du k).1 k
  | 0, _ => rfl
  | k + 1, hk => by
    have ih := pf_wr_un bf du k (by omega)
    have lo := pf_wr_lo bf du k (by omega)
    rw [pf_wr]
    by_cases h : px_in du (nI k) ∧ bf k &&& (pf_wr bf du k).2 = 0
    · rw [if_pos h]
      show (pf_wr bf du k).2 ||| bf k = pf_un bf ((pf_wr bf du k).1 ||| px_b k) (k + 1)
      rw [pf_un_take bf (by omega), ih]
    · rw [if_neg h, pf_un_skip bf (px_lo_in (by omega) lo)]
      exact ih
/-- the transitions cleared below k, of those that are due: all of them, or without rivals -/
def pm_C (sg : Int32) (bf : Nat → Int32) (dh : Int32) (k : Nat) : Int32 := if sg = 0 then (pf_wr bf dh k).1 else pf_un px_b dh k
theorem pm_C_lo (sg : Int32) (bf : Nat → Int32) (dh : Int32) {k : Nat} (hk : k ≤ 32) : px_lo k (pm_C sg bf dh k) := by
  unfold pm_C
  by_cases h : sg = 0
  · rw [if_pos h]; exact pf_wr_lo bf dh k hk
  · rw [if_neg h]; exact pf_un_b_lo dh hk
theorem pm_C_s (sg : Int32) (bf : Nat → Int32) (dh : Int32) {k : Nat} (hk : k < 32) : (px_in dh (nI k) ∧ (¬ sg = 0 ∨ bf k &&& pf_un bf (pm_C sg bf dh k) k = 0) → pm_C sg bf dh (k + 1) = pm_C sg bf dh k ||| px_b k) ∧ (¬ (px_in dh (nI k) ∧ (¬ sg = 0 ∨ bf k &&& pf_un bf (pm_C sg bf dh k) k = 0)) → pm_C sg bf dh (k + 1) = pm_C sg bf dh k) := by
  unfold pm_C
  by_cases h : sg = 0
  · rw [if_pos h, if_pos h, ← pf_wr_un bf dh k (by omega)]
    refine ⟨fun hc => ?_, fun hc => ?_⟩
    · rw [pf_wr, if_pos ⟨hc.1, hc.2.resolve_left (fun q => q h)⟩]
    · rw [pf_wr, if_neg (fun q => hc ⟨q.1, Or.inr q.2⟩)]
  · rw [if_neg h, if_neg h]
    refine ⟨fun hc => ?_, fun hc => ?_⟩
    · rw [pf_un, if_pos hc.1]
    · rw [pf_un, if_neg (fun q => hc ⟨q, Or.inl h⟩)]
theorem or_asc (x y z : Int32) : (x ||| y) ||| z = x ||| (y ||| z) := by
  apply b_ext
  intro i hi
  rw [b_or, b_or, b_or, b_or, Bool.or_assoc]
theorem or_mv (x y z : Int32) : (x ||| y) ||| z = x ||| (z ||| y) := by
  apply b_ext
  intro i hi
  rw [b_or, b_or, b_or, b_or, Bool.or_assoc, Bool.or_comm (bt y i)]
section TRUE
variable (kd ea eb : Nat → Int32) (inp ri fa si ti : Int32) (tb : Nat → Int32)
theorem pf_tr_lo : ∀ (k : Nat), k ≤ 32 → px_lo k (pf_tr kd ea eb inp ri fa si ti tb k)
  | 0, _ => by rw [pf_tr]; exact px_lo_0 0
  | k + 1, hk => by
    have ih := pf_tr_lo k (by omega)
    rw [pf_tr]
    by_cases h : pf_ho (kd k) (ea k) (eb k) inp ri fa si ti tb (pf_tr kd ea eb inp ri fa si ti tb k) = true
    · rw [if_pos h]; exact px_lo_or (by omega) ih
    · rw [if_neg h]; exact px_lo_up (by omega) ih
theorem pf_tr_s {k j : Nat} (hk : k < 32) (hj : j ≤ k) : bt (pf_tr kd ea eb inp ri fa si ti tb (k + 1)) j = if j = k then pf_ho (kd k) (ea k) (eb k) inp ri fa si ti tb (pf_tr kd ea eb inp ri fa si ti tb k) else bt (pf_tr kd ea eb inp ri fa si ti tb k) j := by
  have lo := pf_tr_lo kd ea eb inp ri fa si ti tb k (by omega)
  rw [pf_tr]
  by_cases h : pf_ho (kd k) (ea k) (eb k) inp ri fa si ti tb (pf_tr kd ea eb inp ri fa si ti tb k) = true
  · rw [if_pos h, px_or_b hk (by omega)]
    by_cases hjk : j = k
    · rw [if_pos hjk, h, decide_eq_true hjk, Bool.or_true]
    · rw [if_neg hjk, decide_eq_false hjk, Bool.or_false]
  · rw [if_neg h]
    by_cases hjk : j = k
    · rw [if_pos hjk, hjk, lo k (by omega) hk]
      rw [Bool.not_eq_true] at h
      exact h.symm
    · rw [if_neg hjk]
end TRUE
