/-! the states of a settling scan: they stay among the steps, and not 512 of them are different -/
theorem px_lo_o {k : Nat} {x y : Int32} (h1 : px_lo k x) (h2 : px_lo k y) : px_lo k (x ||| y) := by
  intro i a b
  rw [b_or, h1 i a b, h2 i a b]; rfl
theorem px_lo_l {k : Nat} {x y : Int32} (h : px_lo k x) : px_lo k (x &&& y) := by
  intro i h1 h2
  rw [b_and, h i h1 h2, Bool.false_and]
theorem pf_un_lo {en : Nat → Int32} {se : Int32} {m : Nat} : ∀ (n : Nat), (∀ t, t < n → px_lo m (en t)) → px_lo m (pf_un en se n)
  | 0, _ => px_lo_0 m
  | n + 1, h => by
    have ih := pf_un_lo (en := en) (se := se) n (fun t ht => h t (by omega))
    rw [pf_un]
    by_cases hc : px_in se (nI n)
    · rw [if_pos hc]; exact px_lo_o ih (h n (by omega))
    · rw [if_neg hc]; exact ih
/-- the sets of a chart have numbers of steps alone -/
def pf_ok (c : pf_C) (nS nT nO : Nat) : Prop := (∀ t, t < nT → px_lo nS (c 5 t)) ∧ (∀ k, k < nO → c 9 k = -1 ∨ px_lo nS (c 9 k)) ∧ ∀ p, p < 3 → px_lo nS (c 10 p)
theorem pf_one_lo {c : pf_C} {nS nT nO : Nat} (h : pf_ok c nS nT nO) {sg si du : Int32} {p : Nat} (hp : p < 3) {a : Int32 × Int32} (ha : px_lo nS a.1) : px_lo nS (pf_one c nT nO sg si du p a).1 := by
  obtain ⟨h5, h9, h10⟩ := h
  unfold pf_one
  by_cases ho : pf_rul (c 8) (c 7) (nI p) a.1 nO 0 = -1
  · rw [if_pos ho]
    exact px_lo_o ha (px_lo_o (px_lo_l (px_lo_and (h10 p hp))) (pf_un_lo nT h5))
  · rw [if_neg ho]
    rcases pf_rul_in (c 8) (c 7) (nI p) a.1 nO 0 with h1 | ⟨k, h1, h2, h3⟩
    · exact absurd h1 ho
    · refine px_lo_o ha ?_
      show px_lo nS (pf_fo (c 9 (pf_rul (c 8) (c 7) (nI p) a.1 nO 0).toNatClampNeg) (si &&& c 10 p))
      by_cases hk : k < 2 ^ 31
      · rw [h3, nI_clamp hk]
        unfold pf_fo
        by_cases hm : c 9 k = -1
        · rw [if_pos hm]; exact px_lo_and (h10 p hp)
        · rw [if_neg hm]; exact (h9 k (by omega)).resolve_left hm
      · unfold pf_fo
        by_cases hm : c 9 (pf_rul (c 8) (c 7) (nI p) a.1 nO 0).toNatClampNeg = -1
        · rw [if_pos hm]; exact px_lo_and (h10 p hp)
        · rw [if_neg hm]
          refine (h9 _ ?_).resolve_left hm
          rw [h3]
          have : (nI k).toNatClampNeg ≤ k := by
            have h9 : (nI k).toNatClampNeg < 2 ^ 31 := by
              have := (nI k).toInt_lt
              have h8 : (nI k).toNatClampNeg = (nI k).toInt.toNat := rfl
              omega
            omega
          omega
theorem pf_ev_lo {c : pf_C} {nS nE nT nO : Nat} (h : pf_ok c nS nT nO) {sg inp ri fa si ti : Int32} {tb : Nat → Int32} : px_lo nS (pf_ev c nE nT nO sg inp ri fa si ti tb).1 := by
  unfold pf_ev
  exact pf_one_lo h (by omega) (pf_one_lo h (by omega) (pf_one_lo h (by omega) (px_lo_0 nS)))
/-- what holds of the bundle of a scan -/
def pf_aok (a : pf_A) (nS : Nat) : Prop := nS ≤ 8 ∧ pf_ok a.1 nS a.2.2.1 a.2.2.2.1 ∧ px_lo nS a.2.2.2.2.2.2.2.2.2.1 ∧ (∀ i, i < 32 → bt a.2.2.2.2.2.2.2.2.2.2 i = true → bt a.2.2.2.2.2.2.2.2.2.1 i = true) ∧ ∀ k, k < 8 → bt a.2.2.2.2.2.2.2.2.2.2 k = true → ¬ a.2.2.2.2.2.2.2.2.1 k = 0
theorem pf_q_lo {a : pf_A} {nS : Nat} (h : pf_aok a nS) : ∀ i, px_lo nS (pf_q a i).1
  | 0 => h.2.2.1
  | i + 1 => pf_ev_lo h.2.1
theorem pf_q_sub {a : pf_A} {nS : Nat} (h : pf_aok a nS) : ∀ i j, j < 32 → bt (pf_q a i).2.1 j = true → bt (pf_q a i).1 j = true
  | 0, j, hj, hb => h.2.2.2.1 j hj hb
  | i + 1, j, hj, hb => by
    have hb : bt ((pf_q a i).2.1 &&& (pf_qv a i (pf_q a i)).1) j = true := hb
    rw [b_and, Bool.and_eq_true] at hb
    exact hb.2
theorem pf_q_fall (a : pf_A) (i j : Nat) (hb : bt (pf_q a (i + 1)).2.1 j = true) : bt (pf_q a i).2.1 j = true := by
  have hb : bt ((pf_q a i).2.1 &&& (pf_qv a i (pf_q a i)).1) j = true := hb
  rw [b_and, Bool.and_eq_true] at hb
  exact hb.1
theorem pf_q_tb {a : pf_A} {nS : Nat} (h : pf_aok a nS) : ∀ i k, k < 8 → bt (pf_q a i).2.1 k = true → ¬ a.2.2.2.2.2.2.2.2.1 k = 0
  | 0, k, hk, hb => h.2.2.2.2 k hk hb
  | i + 1, k, hk, hb => pf_q_tb h i k hk (pf_q_fall a i k hb)
theorem pf_q_tlo {a : pf_A} {nS : Nat} (h : pf_aok a nS) (i : Nat) : px_lo nS (pf_q a i).2.1 := by
  intro j h1 h2
  cases hb : bt (pf_q a i).2.1 j with
  | false => rfl
  | true =>
    have := pf_q_sub h i j h2 hb
    rw [pf_q_lo h i j h1 h2] at this
    cases this
theorem px_lo_ext {n : Nat} {x y : Int32} (hx : px_lo n x) (hy : px_lo n y) (h : ∀ i, i < n → i < 32 → bt x i = bt y i) : x = y := by
  apply b_ext
  intro i hi
  by_cases hin : i < n
  · exact h i hin hi
  · rw [hx i (by omega) hi, hy i (by omega) hi]
theorem pf_st_bt {si ti : Int32} (hs : px_lo 8 si) (i : Nat) (hi : i < 8) : bt (pf_st si ti) i = bt si i ∧ bt (pf_st si ti) (i + 8) = bt ti i := by
  unfold pf_st
  rw [b_or, b_or]
  have e1 : bt (ti <<< ((8 : Int32) &&& 31)) i = (decide (8 ≤ i) && bt ti (i - 8)) := b_shl 8 (by omega) ti (by omega)
  have e2 : bt (ti <<< ((8 : Int32) &&& 31)) (i + 8) = (decide (8 ≤ i + 8) && bt ti (i + 8 - 8)) := b_shl 8 (by omega) ti (by omega)
  rw [e1, e2, decide_eq_false (by omega), decide_eq_true (by omega), hs (i + 8) (by omega) (by omega), Nat.add_sub_cancel]
  simp
theorem pf_st_inj {s1 t1 s2 t2 : Int32} (h1 : px_lo 8 s1) (h2 : px_lo 8 t1) (h3 : px_lo 8 s2) (h4 : px_lo 8 t2) (h : pf_st s1 t1 = pf_st s2 t2) : s1 = s2 ∧ t1 = t2 := by
  refine ⟨px_lo_ext h1 h3 (fun i hi _ => ?_), px_lo_ext h2 h4 (fun i hi _ => ?_)⟩
  · rw [← (pf_st_bt (ti := t1) h1 i hi).1, ← (pf_st_bt (ti := t2) h3 i hi).1, h]
  · rw [← (pf_st_bt (ti := t1) h1 i hi).2, ← (pf_st_bt (ti := t2) h3 i hi).2, h]
theorem pm_cd_inj {s1 t1 s2 t2 : Int32} : ∀ (n : Nat), (∀ i, i < n → bt t1 i = true → bt s1 i = true) → (∀ i, i < n → bt t2 i = true → bt s2 i = true) → pm_cd s1 t1 n = pm_cd s2 t2 n → ∀ i, i < n → bt s1 i = bt s2 i ∧ bt t1 i = bt t2 i
  | 0, _, _, _ => fun i hi => by omega
  | n + 1, g1, g2, h => by
    rw [pm_cd, pm_cd] at h
    have d1 : (if bt s1 n = true then (if bt t1 n = true then 2 else 1) else 0 : Nat) ≤ 2 := by
      by_cases h : bt s1 n = true
      · rw [if_pos h]
        by_cases h3 : bt t1 n = true
        · rw [if_pos h3]; omega
        · rw [if_neg h3]; omega
      · rw [if_neg h]; omega
    have d2 : (if bt s2 n = true then (if bt t2 n = true then 2 else 1) else 0 : Nat) ≤ 2 := by
      by_cases h : bt s2 n = true
      · rw [if_pos h]
        by_cases h3 : bt t2 n = true
        · rw [if_pos h3]; omega
        · rw [if_neg h3]; omega
      · rw [if_neg h]; omega
    have e1 : pm_cd s1 t1 n = pm_cd s2 t2 n := by omega
    have e2 : (if bt s1 n = true then (if bt t1 n = true then 2 else 1) else 0 : Nat) = (if bt s2 n = true then (if bt t2 n = true then 2 else 1) else 0) := by omega
    intro i hi
    by_cases hin : i = n
    · subst hin
      have q1 := g1 i (by omega)
      have q2 := g2 i (by omega)
      cases hs1 : bt s1 i <;> cases ht1 : bt t1 i <;> cases hs2 : bt s2 i <;> cases ht2 : bt t2 i <;> simp_all
    · exact pm_cd_inj n (fun i hi => g1 i (by omega)) (fun i hi => g2 i (by omega)) e1 i (by omega)
/-- equal codes are equal states -/
theorem pf_code_iff {a : pf_A} {nS : Nat} (h : pf_aok a nS) (i j : Nat) : pm_cd (pf_q a i).1 (pf_q a i).2.1 nS = pm_cd (pf_q a j).1 (pf_q a j).2.1 nS ↔ pf_qs a i = pf_qs a j := by
  have h8 := h.1
  constructor
  · intro hc
    have hb := pm_cd_inj nS (fun k hk => pf_q_sub h i k (by omega)) (fun k hk => pf_q_sub h j k (by omega)) hc
    have e1 := px_lo_ext (pf_q_lo h i) (pf_q_lo h j) (fun k hk _ => (hb k hk).1)
    have e2 := px_lo_ext (pf_q_tlo h i) (pf_q_tlo h j) (fun k hk _ => (hb k hk).2)
    unfold pf_qs
    rw [e1, e2]
  · intro hc
    obtain ⟨e1, e2⟩ := pf_st_inj (px_lo_up h8 (pf_q_lo h i)) (px_lo_up h8 (pf_q_tlo h i)) (px_lo_up h8 (pf_q_lo h j)) (px_lo_up h8 (pf_q_tlo h j)) hc
    rw [e1, e2]
theorem pf_no512 {a : pf_A} {nS : Nat} (h : pf_aok a nS) : ¬ pf_on_way a 512 := by
  intro hw
  have h8 := h.1
  obtain ⟨i, j, hij, hj, he⟩ := pg_512 (fun k b => bt (pf_q a (k + 1)).1 b) (fun k b => bt (pf_q a (k + 1)).2.1 b) (fun k b hb => pf_q_sub h (k + 1) b (by omega)) (fun k b hb hx => pf_q_fall a (k + 1) b hx)
  refine hw.2 (j + 1) (by omega) (by omega) (i + 1) (by omega) (by omega) ?_
  have e1 := px_lo_ext (px_lo_up h8 (pf_q_lo h (i + 1))) (px_lo_up h8 (pf_q_lo h (j + 1))) (fun b hb _ => (he b hb).1)
  have e2 := px_lo_ext (px_lo_up h8 (pf_q_tlo h (i + 1))) (px_lo_up h8 (pf_q_tlo h (j + 1))) (fun b hb _ => (he b hb).2)
  unfold pf_qs
  rw [e1, e2]
