/-! ===== Int32 by its bits: bt x i ===== -/
def bt (x : Int32) (i : Nat) : Bool := x.toBitVec.getLsbD i
theorem b_ext {x y : Int32} (h : ∀ i, i < 32 → bt x i = bt y i) : x = y := Int32.toBitVec_inj.mp (BitVec.eq_of_getLsbD_eq (fun i hi => h i hi))
theorem b_or (x y : Int32) (i : Nat) : bt (x ||| y) i = (bt x i || bt y i) := by unfold bt; rw [Int32.toBitVec_or, BitVec.getLsbD_or]
theorem b_and (x y : Int32) (i : Nat) : bt (x &&& y) i = (bt x i && bt y i) := by unfold bt; rw [Int32.toBitVec_and, BitVec.getLsbD_and]
theorem b_xor (x y : Int32) (i : Nat) : bt (x ^^^ y) i = (bt x i ^^ bt y i) := by unfold bt; rw [Int32.toBitVec_xor, BitVec.getLsbD_xor]
theorem b_big {x : Int32} {i : Nat} (h : 32 ≤ i) : bt x i = false := BitVec.getLsbD_of_ge _ _ h
theorem b_255 (i : Nat) : bt 255 i = decide (i < 8) := by
  rcases Nat.lt_or_ge i 32 with h | h
  · exact (by decide +kernel : ∀ i, i < 32 → bt 255 i = decide (i < 8)) i h
  · rw [b_big h, decide_eq_false (by omega)]
theorem b_m1 : ∀ i, i < 32 → bt (-1) i = true := by decide +kernel
theorem b_0 (i : Nat) : bt 0 i = false := BitVec.getLsbD_zero
theorem s_l : ∀ n, n < 32 → ((nI n &&& 31).toBitVec.smod 32).toNat = n := by decide +kernel
theorem s_u : ∀ n, n < 32 → (((nI n).toUInt32 &&& Int32.toUInt32 31).toBitVec % 32).toNat = n := by decide +kernel
theorem b_shl (n : Nat) (hn : n < 32) (x : Int32) {i : Nat} (hi : i < 32) : bt (x <<< (nI n &&& 31)) i = (decide (n ≤ i) && bt x (i - n)) := by
  unfold bt
  rw [Int32.toBitVec_shiftLeft]
  show (x.toBitVec <<< ((nI n &&& 31).toBitVec.smod 32).toNat).getLsbD i = _
  rw [s_l n hn, BitVec.getLsbD_shiftLeft]
  rcases Nat.lt_or_ge i n with h | h
  · simp [h, Nat.not_le.mpr h]
  · simp [hi, h, Nat.not_lt.mpr h]
theorem b_ushr (n : Nat) (hn : n < 32) (x : Int32) (i : Nat) : bt ((x.toUInt32 >>> ((nI n).toUInt32 &&& Int32.toUInt32 31)).toInt32) i = bt x (n + i) := by
  show (x.toUInt32 >>> ((nI n).toUInt32 &&& Int32.toUInt32 31)).toBitVec.getLsbD i = x.toUInt32.toBitVec.getLsbD (n + i)
  rw [UInt32.toBitVec_shiftRight]
  show (x.toUInt32.toBitVec >>> (((nI n).toUInt32 &&& Int32.toUInt32 31).toBitVec % 32).toNat).getLsbD i = _
  rw [s_u n hn, BitVec.getLsbD_ushiftRight]
theorem b_sshr (n : Nat) (hn : n < 32) (x : Int32) {i : Nat} (hi : i < 32) : bt (x >>> (nI n &&& 31)) i = if n + i < 32 then bt x (n + i) else bt x 31 := by
  unfold bt
  rw [Int32.toBitVec_shiftRight]
  show (x.toBitVec.sshiftRight ((nI n &&& 31).toBitVec.smod 32).toNat).getLsbD i = _
  rw [s_l n hn, BitVec.getLsbD_sshiftRight, BitVec.msb_eq_getLsbD_last]
  simp [hi]
/-! sets of small numbers as masks -/
theorem b_1 : ∀ i, i < 32 → bt 1 i = decide (i = 0) := by decide +kernel
abbrev px_b (k : Nat) : Int32 := 1 <<< (nI k &&& 31)
abbrev px_in (x k : Int32) : Prop := ¬ (x >>> (k &&& 31)) &&& 1 = 0
abbrev px_sub (a b : Int32) : Prop := a &&& (b ^^^ (-1)) = 0
def px_z (P : Prop) [Decidable P] : Int32 := if P then 1 else 0
theorem px_z_t {P : Prop} [Decidable P] (h : P) : px_z P = 1 := if_pos h
theorem px_z_f {P : Prop} [Decidable P] (h : ¬ P) : px_z P = 0 := if_neg h
theorem px_z01 (P : Prop) [Decidable P] : px_z P = 0 ∨ px_z P = 1 := by
  unfold px_z; by_cases h : P
  · rw [if_pos h]; exact Or.inr rfl
  · rw [if_neg h]; exact Or.inl rfl
theorem px_z_eq0 {P : Prop} [Decidable P] : px_z P = 0 ↔ ¬ P := by
  unfold px_z; by_cases h : P
  · rw [if_pos h]; exact ⟨fun q => absurd q (by decide), fun q => absurd h q⟩
  · rw [if_neg h]; exact ⟨fun _ => h, fun _ => rfl⟩
theorem px_z_congr {P Q : Prop} [Decidable P] [Decidable Q] (h : P ↔ Q) : px_z P = px_z Q := by
  unfold px_z; by_cases hp : P
  · rw [if_pos hp, if_pos (h.mp hp)]
  · rw [if_neg hp, if_neg (fun q => hp (h.mpr q))]
theorem px_and1 (y : Int32) : y &&& 1 = 0 ↔ bt y 0 = false := by
  constructor
  · intro h
    have h1 := congrArg (fun z => bt z 0) h
    simp only [b_and, b_0] at h1
    rw [b_1 0 (by omega)] at h1
    simpa using h1
  · intro h
    apply b_ext
    intro i hi
    rw [b_and, b_1 i hi, b_0]
    by_cases h0 : i = 0
    · subst h0; simp [h]
    · simp [h0]
theorem px_in_bt {x : Int32} {k : Nat} (hk : k < 32) : px_in x (nI k) ↔ bt x k = true := by
  unfold px_in
  rw [px_and1, b_sshr k hk x (by omega), if_pos (by omega), Nat.add_zero]
  cases bt x k <;> simp
theorem px_b_bt {k i : Nat} (hk : k < 32) (hi : i < 32) : bt (px_b k) i = decide (i = k) := by
  unfold px_b
  rw [b_shl k hk 1 hi]
  by_cases h : k ≤ i
  · rw [b_1 (i - k) (by omega)]
    by_cases h2 : i = k
    · simp [h2]
    · simp [h2]; omega
  · simp [h]; omega
theorem px_not_bt {x : Int32} {i : Nat} (hi : i < 32) : bt (x ^^^ (-1)) i = !bt x i := by
  rw [b_xor, b_m1 i hi]; cases bt x i <;> rfl
theorem px_sub_bt {a b : Int32} : px_sub a b ↔ ∀ i, i < 32 → bt a i = true → bt b i = true := by
  unfold px_sub
  constructor
  · intro h i hi ha
    have h1 := congrArg (fun z => bt z i) h
    simp only [b_and, b_0, px_not_bt hi, ha, Bool.true_and] at h1
    cases hb : bt b i with
    | true => rfl
    | false => rw [hb] at h1; cases h1
  · intro h
    apply b_ext
    intro i hi
    rw [b_and, b_0, px_not_bt hi]
    cases ha : bt a i with
    | false => rfl
    | true => rw [h i hi ha]; rfl
theorem px_and0_bt {a b : Int32} : a &&& b = 0 ↔ ∀ i, i < 32 → bt a i = true → bt b i = false := by
  constructor
  · intro h i hi ha
    have h1 := congrArg (fun z => bt z i) h
    simp only [b_and, b_0, ha, Bool.true_and] at h1
    exact h1
  · intro h
    apply b_ext
    intro i hi
    rw [b_and, b_0]
    cases ha : bt a i with
    | false => rfl
    | true => rw [h i hi ha]; rfl
theorem px_ne0_bt {a : Int32} : a ≠ 0 ↔ ∃ i, i < 32 ∧ bt a i = true := by
  constructor
  · intro h
    refine Classical.byContradiction fun hn => h ?_
    apply b_ext
    intro i hi
    rw [b_0]
    cases ha : bt a i with
    | false => rfl
    | true => exact absurd ⟨i, hi, ha⟩ hn
  · rintro ⟨i, hi, h⟩ rfl
    rw [b_0] at h; cases h
theorem px_z_ne0 {P : Prop} [Decidable P] : ¬ px_z P = 0 ↔ P := by
  rw [px_z_eq0]; exact Decidable.not_not
