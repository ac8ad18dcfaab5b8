/-! n + 1 numbers below n: two of them are the same -/
theorem pg_hole : ∀ (n : Nat) (f : Nat → Nat), (∀ i, i < n + 1 → f i < n) → ∃ i j, i < j ∧ j < n + 1 ∧ f i = f j
  | 0, f, h => absurd (h 0 (by omega)) (by omega)
  | n + 1, f, h => by
    by_cases hv : ∃ i, i < n + 1 ∧ f i = f (n + 1)
    · obtain ⟨i, h1, h2⟩ := hv
      exact ⟨i, n + 1, h1, by omega, h2⟩
    · have hne : ∀ i, i < n + 1 → f i ≠ f (n + 1) := fun i hi he => hv ⟨i, hi, he⟩
      obtain ⟨i, j, hij, hj, he⟩ := pg_hole n (fun i => if f i = n then f (n + 1) else f i) (fun i hi => by
        have h1 := h i (by omega)
        have h2 := h (n + 1) (by omega)
        have h3 := hne i hi
        show (if f i = n then f (n + 1) else f i) < n
        by_cases hq : f i = n
        · rw [if_pos hq]; omega
        · rw [if_neg hq]; omega)
      have h3 := hne i (by omega)
      have h4 := hne j hj
      refine ⟨i, j, hij, by omega, ?_⟩
      have he : (if f i = n then f (n + 1) else f i) = (if f j = n then f (n + 1) else f j) := he
      by_cases h5 : f i = n
      · by_cases h6 : f j = n
        · rw [h5, h6]
        · rw [if_pos h5, if_neg h6] at he; exact absurd he.symm h4
      · by_cases h6 : f j = n
        · rw [if_neg h5, if_pos h6] at he; exact absurd he h3
        · rw [if_neg h5, if_neg h6] at he; exact he
/-- a situation's steps outside the set t, below n, with a 1 ahead -/
def pg_e (s t : Nat → Bool) : Nat → Nat
  | 0 => 1
  | n + 1 => if t n = true then pg_e s t n else 2 * pg_e s t n + (if s n = true then 1 else 0)
def pg_c (t : Nat → Bool) : Nat → Nat
  | 0 => 0
  | n + 1 => if t n = true then pg_c t n else pg_c t n + 1
theorem pg_e_in (s t : Nat → Bool) : ∀ n, 2 ^ pg_c t n ≤ pg_e s t n ∧ pg_e s t n < 2 ^ (pg_c t n + 1)
  | 0 => by simp [pg_c, pg_e]
  | n + 1 => by
    have ih := pg_e_in s t n
    unfold pg_c pg_e
    by_cases h : t n = true
    · rw [if_pos h, if_pos h]; exact ih
    · rw [if_neg h, if_neg h]
      have e1 : 2 ^ (pg_c t n + 1) = 2 * 2 ^ pg_c t n := by rw [Nat.pow_succ]; omega
      have e2 : 2 ^ (pg_c t n + 1 + 1) = 2 * 2 ^ (pg_c t n + 1) := by rw [Nat.pow_succ]; omega
      have e3 : (if s n = true then 1 else 0 : Nat) ≤ 1 := by by_cases hs : s n = true <;> simp [hs]
      omega
theorem pg_c_le (t : Nat → Bool) : ∀ n, pg_c t n ≤ n
  | 0 => by simp [pg_c]
  | n + 1 => by
    have ih := pg_c_le t n
    unfold pg_c
    by_cases h : t n = true
    · rw [if_pos h]; omega
    · rw [if_neg h]; omega
theorem pg_c_mono {t t' : Nat → Bool} : ∀ n, (∀ i, i < n → t' i = true → t i = true) → pg_c t n ≤ pg_c t' n ∧ (pg_c t n = pg_c t' n → ∀ i, i < n → t i = t' i)
  | 0, _ => ⟨by simp [pg_c], fun _ i hi => by omega⟩
  | n + 1, h => by
    obtain ⟨h1, h2⟩ := pg_c_mono n (fun i hi => h i (by omega))
    have h3 := h n (by omega)
    unfold pg_c
    by_cases ht : t n = true
    · by_cases ht' : t' n = true
      · rw [if_pos ht, if_pos ht']
        refine ⟨h1, fun he i hi => ?_⟩
        by_cases hin : i = n
        · subst hin; rw [ht, ht']
        · exact h2 he i (by omega)
      · rw [if_pos ht, if_neg ht']
        exact ⟨by omega, fun he => by omega⟩
    · have ht' : ¬ t' n = true := fun q => ht (h3 q)
      rw [if_neg ht, if_neg ht']
      refine ⟨by omega, fun he i hi => ?_⟩
      by_cases hin : i = n
      · subst hin
        rw [Bool.not_eq_true] at ht ht'
        rw [ht, ht']
      · exact h2 (by omega) i (by omega)
theorem pg_e_inj {s s' t t' : Nat → Bool} : ∀ n, (∀ i, i < n → t i = t' i) → (∀ i, i < n → t i = true → s i = true) → (∀ i, i < n → t' i = true → s' i = true) → pg_e s t n = pg_e s' t' n → ∀ i, i < n → s i = s' i
  | 0, _, _, _, _ => fun i hi => by omega
  | n + 1, ht, hs, hs', he => by
    unfold pg_e at he
    have htn := ht n (by omega)
    intro i hi
    by_cases h : t n = true
    · have h' : t' n = true := by rw [← htn]; exact h
      rw [if_pos h, if_pos h'] at he
      by_cases hin : i = n
      · subst hin; rw [hs i (by omega) h, hs' i (by omega) h']
      · exact pg_e_inj n (fun i hi => ht i (by omega)) (fun i hi => hs i (by omega)) (fun i hi => hs' i (by omega)) he i (by omega)
    · have h' : ¬ t' n = true := by rw [← htn]; exact h
      rw [if_neg h, if_neg h'] at he
      have e3 : (if s n = true then 1 else 0 : Nat) ≤ 1 := by by_cases hs : s n = true <;> simp [hs]
      have e4 : (if s' n = true then 1 else 0 : Nat) ≤ 1 := by by_cases hs : s' n = true <;> simp [hs]
      have e5 : pg_e s t n = pg_e s' t' n := by omega
      have e6 : (if s n = true then 1 else 0 : Nat) = (if s' n = true then 1 else 0) := by omega
      by_cases hin : i = n
      · subst hin
        by_cases h1 : s i = true
        · rw [if_pos h1] at e6
          by_cases h2 : s' i = true
          · rw [h1, h2]
          · rw [if_neg h2] at e6; omega
        · rw [if_neg h1] at e6
          by_cases h2 : s' i = true
          · rw [if_pos h2] at e6; omega
          · rw [Bool.not_eq_true] at h1 h2; rw [h1, h2]
      · exact pg_e_inj n (fun i hi => ht i (by omega)) (fun i hi => hs i (by omega)) (fun i hi => hs' i (by omega)) e5 i (by omega)
/-- of 512 pairs (s, t) of sets of numbers below 8, t in s, the t's falling, two are the same -/
theorem pg_512 (s t : Nat → Nat → Bool) (hsub : ∀ k i, i < 8 → t k i = true → s k i = true) (hfall : ∀ k i, i < 8 → t (k + 1) i = true → t k i = true) : ∃ i j, i < j ∧ j < 512 ∧ ∀ b, b < 8 → s i b = s j b ∧ t i b = t j b := by
  have hf : ∀ (d k i : Nat), i < 8 → t (k + d) i = true → t k i = true := by
    intro d
    induction d with
    | zero => intro k i _ h; exact h
    | succ d ih => intro k i hi h; exact ih k i hi (hfall (k + d) i hi h)
  have hb : ∀ k, 1 ≤ pg_e (s k) (t k) 8 ∧ pg_e (s k) (t k) 8 < 512 := by
    intro k
    have h1 := pg_e_in (s k) (t k) 8
    have h2 := pg_c_le (t k) 8
    have h3 : 2 ^ (pg_c (t k) 8 + 1) ≤ 2 ^ 9 := Nat.pow_le_pow_right (by omega) (by omega)
    have h4 : 1 ≤ 2 ^ pg_c (t k) 8 := Nat.one_le_two_pow
    omega
  obtain ⟨i, j, hij, hj, he⟩ := pg_hole 511 (fun k => pg_e (s k) (t k) 8 - 1) (fun k _ => by
    have := hb k
    show pg_e (s k) (t k) 8 - 1 < 511
    omega)
  have h1 := hb i
  have h2 := hb j
  have he : pg_e (s i) (t i) 8 - 1 = pg_e (s j) (t j) 8 - 1 := he
  have he : pg_e (s i) (t i) 8 = pg_e (s j) (t j) 8 := by omega
  have hsub2 : ∀ b, b < 8 → t j b = true → t i b = true := fun b hb0 h => hf (j - i) i b hb0 (by rw [show i + (j - i) = j by omega]; exact h)
  obtain ⟨hc1, hc2⟩ := pg_c_mono (t := t i) (t' := t j) 8 hsub2
  have g1 := pg_e_in (s i) (t i) 8
  have g2 := pg_e_in (s j) (t j) 8
  have hceq : pg_c (t i) 8 = pg_c (t j) 8 := by
    refine Nat.le_antisymm hc1 ?_
    refine Nat.not_lt.mp fun hlt => ?_
    have h3 : 2 ^ (pg_c (t i) 8 + 1) ≤ 2 ^ pg_c (t j) 8 := Nat.pow_le_pow_right (by omega) (by omega)
    omega
  have ht := hc2 hceq
  have hs := pg_e_inj 8 ht (hsub i) (hsub j) he
  exact ⟨i, j, hij, by omega, fun b hb0 => ⟨hs b hb0, ht b hb0⟩⟩
/-! rounds that only add: eight of them come to rest in a set of eight -/
def cl_n (x : Int32) : Nat → Nat
  | 0 => 0
  | k + 1 => cl_n x k + (if bt x k = true then 1 else 0)
theorem cl_n_le (x : Int32) : ∀ k, cl_n x k ≤ k
  | 0 => by simp [cl_n]
  | k + 1 => by
    have := cl_n_le x k
    unfold cl_n
    by_cases h : bt x k = true
    · rw [if_pos h]; omega
    · rw [if_neg h]; omega
theorem cl_n_mono {x y : Int32} : ∀ k, (∀ i, i < k → bt x i = true → bt y i = true) → cl_n x k ≤ cl_n y k ∧ (cl_n x k = cl_n y k → ∀ i, i < k → bt x i = bt y i)
  | 0, _ => ⟨by simp [cl_n], fun _ i hi => by omega⟩
  | k + 1, h => by
    obtain ⟨h1, h2⟩ := cl_n_mono k (fun i hi => h i (by omega))
    have h3 := h k (by omega)
    unfold cl_n
    by_cases hx : bt x k = true
    · have hy := h3 hx
      rw [if_pos hx, if_pos hy]
      refine ⟨by omega, fun he i hi => ?_⟩
      by_cases hik : i = k
      · subst hik; rw [hx, hy]
      · exact h2 (by omega) i (by omega)
    · by_cases hy : bt y k = true
      · rw [if_neg hx, if_pos hy]; exact ⟨by omega, fun he => by omega⟩
      · rw [if_neg hx, if_neg hy]
        refine ⟨by omega, fun he i hi => ?_⟩
        by_cases hik : i = k
        · subst hik; rw [Bool.not_eq_true] at hx hy; rw [hx, hy]
        · exact h2 (by omega) i (by omega)
def cl_it (F : Int32 → Int32) : Nat → Int32 → Int32
  | 0, r => r
  | n + 1, r => F (cl_it F n r)
theorem px_sub_rf (a : Int32) : px_sub a a := px_sub_bt.mpr (fun _ _ h => h)
theorem px_sub_tr {a b c : Int32} (h1 : px_sub a b) (h2 : px_sub b c) : px_sub a c := px_sub_bt.mpr (fun i hi h => px_sub_bt.mp h2 i hi (px_sub_bt.mp h1 i hi h))
theorem px_sub_as {a b : Int32} (h1 : px_sub a b) (h2 : px_sub b a) : a = b := by
  apply b_ext
  intro i hi
  have e1 := px_sub_bt.mp h1 i hi
  have e2 := px_sub_bt.mp h2 i hi
  cases ha : bt a i with
  | true => rw [e1 ha]
  | false =>
    cases hb : bt b i with
    | true => rw [e2 hb] at ha; cases ha
    | false => rfl
theorem px_sub_or {a b c : Int32} : px_sub (a ||| b) c ↔ px_sub a c ∧ px_sub b c := by
  rw [px_sub_bt, px_sub_bt, px_sub_bt]
  constructor
  · intro h
    exact ⟨fun i hi ha => h i hi (by rw [b_or, ha]; rfl), fun i hi hb => h i hi (by rw [b_or, hb]; cases bt a i <;> rfl)⟩
  · intro h i hi hab
    rw [b_or] at hab
    cases ha : bt a i with
    | true => exact h.1 i hi ha
    | false => rw [ha] at hab; exact h.2 i hi hab
theorem px_sub_l (a b : Int32) : px_sub a (a ||| b) := (px_sub_or.mp (px_sub_rf (a ||| b))).1
theorem px_sub_r (a b : Int32) : px_sub b (a ||| b) := (px_sub_or.mp (px_sub_rf (a ||| b))).2
/-- a set of numbers below 8 -/
def cl_8 (x : Int32) : Prop := ∀ i, 8 ≤ i → i < 32 → bt x i = false
theorem cl_8_sub {a b : Int32} (h : px_sub a b) (hb : cl_8 b) : cl_8 a := by
  intro i h1 h2
  cases ha : bt a i with
  | false => rfl
  | true => rw [← px_sub_bt.mp h i h2 ha]; exact hb i h1 h2
theorem cl_grow {a b : Int32} (h : px_sub a b) (hb : cl_8 b) : a = b ∨ cl_n a 8 < cl_n b 8 := by
  obtain ⟨h1, h2⟩ := cl_n_mono (x := a) (y := b) 8 (fun i hi => px_sub_bt.mp h i (by omega))
  by_cases he : cl_n a 8 = cl_n b 8
  · left
    apply b_ext
    intro i hi
    by_cases h8 : i < 8
    · exact h2 he i h8
    · rw [hb i (by omega) hi, cl_8_sub h hb i (by omega) hi]
  · right; omega
theorem cl_rest {F : Int32 → Int32} {M r : Int32} (hM : cl_8 M) (hinf : ∀ x, px_sub x (F x)) (hin : ∀ x, px_sub x M → px_sub (F x) M) (hr : px_sub r M) : ∀ n, px_sub (cl_it F n r) M ∧ (F (cl_it F n r) = cl_it F n r ∨ n < cl_n (F (cl_it F n r)) 8 + 0)
  | 0 => by
    refine ⟨hr, ?_⟩
    rcases cl_grow (hinf r) (cl_8_sub (hin r hr) hM) with h | h
    · exact Or.inl h.symm
    · right; show 0 < cl_n (F r) 8 + 0; omega
  | n + 1 => by
    obtain ⟨h1, h2⟩ := cl_rest hM hinf hin hr n
    have h3 : px_sub (cl_it F (n + 1) r) M := hin _ h1
    refine ⟨h3, ?_⟩
    rcases cl_grow (hinf (cl_it F (n + 1) r)) (cl_8_sub (hin _ h3) hM) with h | h
    · exact Or.inl h.symm
    · rcases h2 with h2 | h2
      · left
        show F (F (cl_it F n r)) = F (cl_it F n r)
        rw [h2, h2]
      · right
        have : cl_n (cl_it F (n + 1) r) 8 = cl_n (F (cl_it F n r)) 8 := rfl
        omega
theorem cl_rest8 {F : Int32 → Int32} {M r : Int32} (hM : cl_8 M) (hinf : ∀ x, px_sub x (F x)) (hin : ∀ x, px_sub x M → px_sub (F x) M) (hr : px_sub r M) (n : Nat) (hn : 8 ≤ n) : F (cl_it F n r) = cl_it F n r := by
  rcases (cl_rest hM hinf hin hr n).2 with h | h
  · exact h
  · have := cl_n_le (F (cl_it F n r)) 8
    omega
theorem cl_it_sub {F : Int32 → Int32} {r : Int32} (hinf : ∀ x, px_sub x (F x)) : ∀ n, px_sub r (cl_it F n r)
  | 0 => px_sub_rf r
  | n + 1 => px_sub_tr (cl_it_sub hinf n) (hinf _)
theorem cl_it_in {F : Int32 → Int32} {r c : Int32} (hc : ∀ x, px_sub x c → px_sub (F x) c) (hr : px_sub r c) : ∀ n, px_sub (cl_it F n r) c
  | 0 => hr
  | n + 1 => hc _ (cl_it_in hc hr n)
/-- two kinds of rounds that rest in the same sets come to the same set -/
theorem cl_same {F G : Int32 → Int32} {M r : Int32} {closed : Int32 → Prop} (hM : cl_8 M) (hr : px_sub r M) (f1 : ∀ x, px_sub x (F x)) (f2 : ∀ c x, closed c → px_sub x c → px_sub (F x) c) (f3 : ∀ x, F x = x → closed x) (f4 : ∀ x, px_sub x M → px_sub (F x) M) (g1 : ∀ x, px_sub x (G x)) (g2 : ∀ c x, closed c → px_sub x c → px_sub (G x) c) (g3 : ∀ x, G x = x → closed x) (g4 : ∀ x, px_sub x M → px_sub (G x) M) (n m : Nat) (hn : 8 ≤ n) (hm : 8 ≤ m) : cl_it F n r = cl_it G m r := by
  have a1 := f3 _ (cl_rest8 hM f1 f4 hr n hn)
  have a2 := g3 _ (cl_rest8 hM g1 g4 hr m hm)
  exact px_sub_as (cl_it_in (fun x hx => f2 _ x a2 hx) (cl_it_sub g1 m) n) (cl_it_in (fun x hx => g2 _ x a1 hx) (cl_it_sub f1 n) m)
/-! the pure picture: what the loops of both programs compute, as functions of rows (Nat → Int32) and masks -/
def pf_part (po : Nat → Int32) (p : Int32) : Nat → Int32
  | 0 => 0
  | k + 1 => if po k = p then pf_part po p k ||| px_b k else pf_part po p k
def pf_ini (it : Nat → Int32) : Nat → Int32
  | 0 => 0
  | k + 1 => if it k = 0 then pf_ini it k else pf_ini it k ||| px_b k
/-- the transitions below n whose preceding steps are all in si -/
def pf_en (bf : Nat → Int32) (si : Int32) : Nat → Int32
  | 0 => 0
  | k + 1 => if px_sub (bf k) si then pf_en bf si k ||| px_b k else pf_en bf si k
def pf_due (cd : Nat → Int32) (tr s0 : Int32) : Nat → Int32
  | 0 => s0
  | k + 1 => if px_in tr (cd k) then pf_due cd tr s0 k else pf_due cd tr s0 k &&& (px_b k ^^^ (-1))
/-- without rivals: the set, and the steps taken -/
def pf_wr (bf : Nat → Int32) (du : Int32) : Nat → Int32 × Int32
  | 0 => (0, 0)
  | k + 1 => if px_in du (nI k) ∧ bf k &&& (pf_wr bf du k).2 = 0 then ((pf_wr bf du k).1 ||| px_b k, (pf_wr bf du k).2 ||| bf k) else pf_wr bf du k
def pf_un (en : Nat → Int32) (se : Int32) : Nat → Int32
  | 0 => 0
  | k + 1 => if px_in se (nI k) then pf_un en se k ||| en k else pf_un en se k
/-- the first order from k on, of j, that rules over the part p when the steps si are active; -1 if none -/
def pf_rul (pt gv : Nat → Int32) (p si : Int32) : Nat → Nat → Int32
  | 0, _ => -1
  | j + 1, k => if pt k = p ∧ px_in si (gv k) then nI k else pf_rul pt gv p si j (k + 1)
def pf_fo (fx fr : Int32) : Int32 := if fx = -1 then fr else fx
def pf_fix (gv fx : Nat → Int32) (se : Int32) : Nat → Int32
  | 0 => 0
  | k + 1 => if px_in se (gv k) then pf_fix gv fx se k ||| pf_fo (fx k) 0 else pf_fix gv fx se k
/-- the time of a step in a scan: what it was at the begin, while it is in ti -/
def pf_tm (ti : Int32) (tb : Nat → Int32) (a : Int32) : Int32 := if px_in ti a then tb a.toNatClampNeg else 0
def pf_ho (kd a b : Int32) (inp ri fa si ti : Int32) (tb : Nat → Int32) (tr : Int32) : Bool :=
  if kd = 0 then decide (px_in inp a) else if kd = 1 then decide (px_in ri a) else if kd = 2 then decide (px_in fa a) else if kd = 3 then decide (px_in si a) else if kd = 4 then decide (px_in si a ∧ b ≤ pf_tm ti tb a) else if kd = 5 then decide (¬ px_in tr a) else if kd = 6 then decide (px_in tr a ∧ px_in tr b) else decide (px_in tr a ∨ px_in tr b)
/-- the true expressions below k -/
def pf_tr (kd ea eb : Nat → Int32) (inp ri fa si ti : Int32) (tb : Nat → Int32) : Nat → Int32
  | 0 => 0
  | k + 1 => if pf_ho (kd k) (ea k) (eb k) inp ri fa si ti tb (pf_tr kd ea eb inp ri fa si ti tb k) = true then pf_tr kd ea eb inp ri fa si ti tb k ||| px_b k else pf_tr kd ea eb inp ri fa si ti tb k
/-! a chart in rows: 1 kinds, 2 firsts, 3 seconds, 4 befores, 5 afters, 6 conditions, 7 givers, 8 parts, 9 fixed sets, 10 steps of a part, 11 transitions of a part -/
abbrev pf_C : Type := Nat → Nat → Int32
/-- one part of an evolution: (next, cleared) -/
def pf_one (c : pf_C) (nT nO : Nat) (sg si du : Int32) (p : Nat) (a : Int32 × Int32) : Int32 × Int32 :=
  if pf_rul (c 8) (c 7) (nI p) a.1 nO 0 = -1 then
    (a.1 ||| ((si &&& c 10 p) &&& (pf_un (c 4) (if sg = 0 then (pf_wr (c 4) (du &&& c 11 p) nT).1 else du &&& c 11 p) nT ^^^ (-1)) ||| pf_un (c 5) (if sg = 0 then (pf_wr (c 4) (du &&& c 11 p) nT).1 else du &&& c 11 p) nT),
     a.2 ||| (if sg = 0 then (pf_wr (c 4) (du &&& c 11 p) nT).1 else du &&& c 11 p))
  else (a.1 ||| pf_fo (c 9 (pf_rul (c 8) (c 7) (nI p) a.1 nO 0).toNatClampNeg) (si &&& c 10 p), a.2)
def pf_dd (c : pf_C) (nE nT : Nat) (inp ri fa si ti : Int32) (tb : Nat → Int32) : Int32 :=
  pf_due (c 6) (pf_tr (c 1) (c 2) (c 3) inp ri fa si ti tb nE) (pf_en (c 4) si nT) nT
/-- an evolution: (next, cleared) -/
def pf_ev (c : pf_C) (nE nT nO : Nat) (sg inp ri fa si ti : Int32) (tb : Nat → Int32) : Int32 × Int32 :=
  pf_one c nT nO sg si (pf_dd c nE nT inp ri fa si ti tb) 2 (pf_one c nT nO sg si (pf_dd c nE nT inp ri fa si ti tb) 1 (pf_one c nT nO sg si (pf_dd c nE nT inp ri fa si ti tb) 0 (0, 0)))
