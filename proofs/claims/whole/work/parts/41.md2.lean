/-! the reference: expressions, transitions, unreached, start, stop -/
def pf_al (st ex : Int32) (dp : Nat → Int32) (kd a b : Int32) : Bool :=
  if kd = 0 ∨ kd = 1 ∨ kd = 2 then decide (0 ≤ a ∧ a < 8) else if kd = 3 then decide (0 ≤ a ∧ a < st) else if kd = 4 then decide ((0 ≤ a ∧ a < st) ∧ 0 ≤ b ∧ b ≤ 1000000) else if kd = 5 then decide ((0 ≤ a ∧ a < ex) ∧ dp a.toNatClampNeg < 4) else if kd = 6 ∨ kd = 7 then decide (((0 ≤ a ∧ a < ex) ∧ dp a.toNatClampNeg < 4) ∧ ((0 ≤ b ∧ b < ex) ∧ dp b.toNatClampNeg < 4)) else false
theorem pf_al_X (S : fx_S) (kd a b : Int32) : pf_allow S kd a b = pf_al (S 1 2) (S 2 4) (S 13) kd a b := rfl
/-- what fits of the reference says, depths aside -/
def pm_fit (st ex : Int32) (kd a b : Int32) : Bool :=
  if kd = 0 ∨ kd = 1 ∨ kd = 2 then decide (0 ≤ a ∧ a < 8) else if kd = 3 then decide (0 ≤ a ∧ a < st) else if kd = 4 then decide ((0 ≤ a ∧ a < st) ∧ 0 ≤ b ∧ b ≤ 1000000) else if kd = 5 then decide (0 ≤ a ∧ a < ex) else decide ((0 ≤ a ∧ a < ex) ∧ (0 ≤ b ∧ b < ex))
theorem i32_le2 {x : Int32} (h0 : 0 ≤ x) : x ≤ 2 ↔ x = 0 ∨ x = 1 ∨ x = 2 := by
  obtain ⟨j, hj, rfl⟩ := nI_of (x := x) (Int32.not_lt.mpr h0)
  constructor
  · intro h
    have h := (nI_leI hj (b := 2) (by omega)).mp h
    rcases (show j = 0 ∨ j = 1 ∨ j = 2 by omega) with rfl | rfl | rfl
    · exact Or.inl rfl
    · exact Or.inr (Or.inl rfl)
    · exact Or.inr (Or.inr rfl)
  · rintro (h | h | h)
    · rw [h]; decide
    · rw [h]; decide
    · rw [h]; decide
section MDB
variable {κ : fx_K} {S : fx_S}
theorem ct_Md_fits (hq : fx_I κ lyM.length) {kd : Int32} (h0 : 0 ≤ kd) (a b : Int32) : MC_Md_fits κ [.inr 0, .inl kd, .inl a, .inl b] S (fun r S' => S' = S ∧ r = px_z (pm_fit (S 0 0) (S 0 3) kd a b = true)) := by
  refine mo_Md_fits hq (Nat.le_of_ble_eq_true rfl) ?_
  intro J hT ht
  refine fx_go_ok [] 99 hT ht ?_
  refine And.intro (fun h => ?_) (fun h => ?_)
  · have n2 : ¬ (kd = 0 ∨ kd = 1 ∨ kd = 2) := fun hc => Int32.not_lt.mpr ((i32_le2 h0).mpr hc) h
    refine And.intro (fun h3 => ?_) (fun h3 => ?_)
    · refine And.intro (fun h4 => ?_) (fun h4 => ?_)
      · have e : pm_fit (S 0 0) (S 0 3) kd a b = if kd = 5 then decide (0 ≤ a ∧ a < S 0 3) else decide ((0 ≤ a ∧ a < S 0 3) ∧ (0 ≤ b ∧ b < S 0 3)) := by
          rw [pm_fit, if_neg n2, if_neg h3, if_neg h4]
        refine fx_ex1 (ct_Md_isExpression hq a) ?_
        refine And.intro (fun h6 => ?_) (fun h6 => ?_)
        · have h6 := px_z_eq0.mp h6
          refine And.intro (Or.inl rfl) ⟨rfl, ?_⟩
          rw [e]
          by_cases h5 : kd = 5
          · rw [if_pos h5, px_z_dec, px_z_f h6]
          · rw [if_neg h5, px_z_dec, px_z_f (fun hc => h6 hc.1)]
        · have h6 := px_z_ne0.mp h6
          refine And.intro (fun h5 => ?_) (fun h5 => ?_)
          · refine And.intro (Or.inr rfl) ⟨rfl, ?_⟩
            rw [e, if_pos h5, px_z_dec, px_z_t h6]
          · refine fx_ex1 (ct_Md_isExpression hq b) ?_
            refine And.intro (fun h7 => ?_) (fun h7 => ?_)
            · refine And.intro (Or.inl rfl) ⟨rfl, ?_⟩
              rw [e, if_neg h5, px_z_dec, px_z_f (fun hc => px_z_eq0.mp h7 hc.2)]
            · refine And.intro (Or.inr rfl) ⟨rfl, ?_⟩
              rw [e, if_neg h5, px_z_dec, px_z_t ⟨h6, px_z_ne0.mp h7⟩]
      · have e : pm_fit (S 0 0) (S 0 3) kd a b = decide ((0 ≤ a ∧ a < S 0 0) ∧ 0 ≤ b ∧ b ≤ 1000000) := by
          rw [pm_fit, if_neg n2, if_neg h3, if_pos h4]
        refine fx_ex1 (ct_Md_isStep hq a) ?_
        refine And.intro (fun h6 => ?_) (fun h6 => And.intro (fun h7 => ?_) (fun h7 => And.intro (fun h8 => ?_) (fun h8 => ?_)))
        · refine And.intro (Or.inl rfl) ⟨rfl, ?_⟩
          rw [e, px_z_dec, px_z_f (fun hc => px_z_eq0.mp h6 hc.1)]
        · refine And.intro (Or.inl rfl) ⟨rfl, ?_⟩
          rw [e, px_z_dec, px_z_f (fun hc => Int32.not_lt.mpr hc.2.1 h7)]
        · refine And.intro (Or.inl rfl) ⟨rfl, ?_⟩
          rw [e, px_z_dec, px_z_f (fun hc => Int32.not_lt.mpr hc.2.2 h8)]
        · refine And.intro (Or.inr rfl) ⟨rfl, ?_⟩
          rw [e, px_z_dec, px_z_t ⟨px_z_ne0.mp h6, Int32.not_lt.mp h7, Int32.not_lt.mp h8⟩]
    · refine fx_ex1 (ct_Md_isStep hq a) ?_
      refine And.intro (px_z01 _) ⟨rfl, ?_⟩
      rw [pm_fit, if_neg n2, if_pos h3, px_z_dec]
  · have y2 := (i32_le2 h0).mp (Int32.not_lt.mp h)
    have e : pm_fit (S 0 0) (S 0 3) kd a b = decide (0 ≤ a ∧ a < 8) := by rw [pm_fit, if_pos y2]
    refine And.intro (fun h6 => ?_) (fun h6 => And.intro (fun h7 => ?_) (fun h7 => ?_))
    · refine And.intro (Or.inl rfl) ⟨rfl, ?_⟩
      rw [e, px_z_dec, px_z_f (fun hc => Int32.not_lt.mpr hc.1 h6)]
    · refine And.intro (Or.inl rfl) ⟨rfl, ?_⟩
      rw [e, px_z_dec, px_z_f (fun hc => absurd h7 (i32_lt8.mpr hc.2))]
    · refine And.intro (Or.inr rfl) ⟨rfl, ?_⟩
      rw [e, px_z_dec, px_z_t ⟨Int32.not_lt.mp h6, i32_lt8.mp h7⟩]
theorem ct_Md_transition (hq : fx_I κ lyM.length) {n m : Nat} (hn : S 0 9 = nI n) (hb : n ≤ 12) (hm : S 0 0 = nI m) (hbm : m ≤ 8) (bf af cd : Int32) : MC_Md_transition κ [.inr 0, .inl bf, .inl af, .inl cd] S (fun r S' => if S 0 24 = 0 ∧ n < 12 ∧ ¬ bf = 0 ∧ ¬ af = 0 ∧ ¬ pf_pw (fun p => pf_part (S 1) (nI p) m) (bf ||| af) = -1 ∧ 0 ≤ cd ∧ cd < S 0 3 then r = nI n ∧ S' = pm_addT S n bf af cd else r = -2 ∧ S' = S) := by
  refine mo_Md_transition hq (Nat.le_of_ble_eq_true rfl) ?_
  intro J hT ht
  have e : n < 12 → (nI n).toNatClampNeg = n := fun h => nI_clamp (by omega)
  have tail : S 0 24 = 0 → n < 12 → ¬ bf = 0 → ¬ af = 0 → (0 ≤ cd ∧ cd < S 0 3) → ∀ x : Int32, ((x = 0 ∧ ∀ p, p < 3 → ¬ px_sub (bf ||| af) (pf_part (S 1) (nI p) m)) ∨ (x = 1 ∧ ∃ p, p < 3 ∧ px_sub (bf ||| af) (pf_part (S 1) (nI p) m))) → J 41 [.inr 0, .inl bf, .inl af, .inl cd, .inl x, .inl (nI 3)] [] S := by
    intro c1 c2 c3 c4 c5 x hx
    refine fx_go_ok [] 99 hT ht ?_
    refine And.intro (fun _ => ?_) (fun h => absurd (by decide) h)
    have hv : vp_in (S 0 9) 12 := by rw [hn]; exact vp_in_nI (by omega) (by omega)
    refine And.intro (fun h => ?_) (fun h => ?_)
    · rcases hx with ⟨rfl, -⟩ | ⟨rfl, p, hp, hs⟩
      · exact absurd rfl h
      · refine And.intro hv (And.intro hv (And.intro hv ?_))
        show ite _ _ _
        have hw : ¬ pf_pw (fun p => pf_part (S 1) (nI p) m) (bf ||| af) = -1 := by
          rcases pf_pw_in (fun p => pf_part (S 1) (nI p) m) (bf ||| af) with ⟨-, h9⟩ | ⟨k, hk, h9, -⟩
          · exact absurd hs (h9 p hp)
          · rw [h9]; exact nI_nm1 (by omega)
        rw [if_pos ⟨c1, c2, c3, c4, hw, c5⟩]
        refine ⟨?_, ?_⟩
        · show S 0 9 + 1 - 1 = nI n
          rw [hn, nI_1, nI_pred]
        · show fx_up (fx_up (fx_up (fx_up S 8 (S 0 9).toNatClampNeg bf) 9 (S 0 9).toNatClampNeg af) 10 (S 0 9).toNatClampNeg cd) 0 9 (S 0 9 + 1) = _
          rw [hn, e c2, nI_1]
          rfl
    · rcases hx with ⟨rfl, h9⟩ | ⟨rfl, -⟩
      · show ite _ _ _
        rw [if_neg (fun hc => hc.2.2.2.2.1 (by
          rcases pf_pw_in (fun p => pf_part (S 1) (nI p) m) (bf ||| af) with ⟨h8, -⟩ | ⟨k, hk, -, h8⟩
          · exact h8
          · exact absurd h8 (h9 k hk)))]
        exact ⟨rfl, rfl⟩
      · exact absurd h (by decide)
  have loop : S 0 24 = 0 → n < 12 → ¬ bf = 0 → ¬ af = 0 → (0 ≤ cd ∧ cd < S 0 3) → ∀ (j k : Nat) (x i : Int32), k + j = 3 → i = nI k → ((x = 0 ∧ ∀ p, p < k → ¬ px_sub (bf ||| af) (pf_part (S 1) (nI p) m)) ∨ (x = 1 ∧ ∃ p, p < k ∧ px_sub (bf ||| af) (pf_part (S 1) (nI p) m))) → J 41 [.inr 0, .inl bf, .inl af, .inl cd, .inl x, .inl i] [] S := by
    intro c1 c2 c3 c4 c5 j
    induction j with
    | zero =>
      intro k x i hk hi hx
      have hk : k = 3 := by omega
      subst hk; subst hi
      exact tail c1 c2 c3 c4 c5 x hx
    | succ j ih =>
      intro k x i hk hi hx
      subst hi
      refine fx_go_ok [(41, 6)] 99 hT ht ?_
      refine And.intro (fun h => absurd (show nI 3 ≤ nI k from h) (nI_ge (by omega) (by omega))) (fun _ => ?_)
      refine And.intro (fun h => ?_) (fun h => ?_)
      · rcases hx with ⟨rfl, -⟩ | ⟨rfl, p, hp, hs⟩
        · exact absurd rfl h
        · exact ih (k + 1) _ _ (by omega) (nI_1 k) (Or.inr ⟨rfl, p, by omega, hs⟩)
      · rcases hx with ⟨rfl, h9⟩ | ⟨rfl, -⟩
        · refine fx_ex1 (ct_Md_stepsOf hq hm hbm _) ?_
          refine And.intro (fun h2 => ?_) (fun h2 => ?_)
          · refine ih (k + 1) _ _ (by omega) (nI_1 k) (Or.inl ⟨rfl, fun p hp => ?_⟩)
            by_cases hpk : p = k
            · subst hpk; exact h2
            · exact h9 p (by omega)
          · exact ih (k + 1) _ _ (by omega) (nI_1 k) (Or.inr ⟨rfl, k, by omega, h2⟩)
        · exact absurd h (by decide)
  refine fx_go_ok [(41, 6)] 99 hT ht ?_
  refine And.intro (fun h => ?_) (fun h => And.intro (fun h2 => ?_) (fun h2 => And.intro (fun h3 => ?_) (fun h3 => And.intro (fun h4 => ?_) (fun h4 => ?_))))
  · show ite _ _ _
    rw [if_neg (fun hc => h hc.1)]; exact ⟨rfl, rfl⟩
  · show ite _ _ _
    rw [if_neg (fun hc => absurd h2 (by rw [hn]; exact nI_ge (b := 12) hc.2.1 (by omega)))]; exact ⟨rfl, rfl⟩
  · show ite _ _ _
    rw [if_neg (fun hc => hc.2.2.1 h3)]; exact ⟨rfl, rfl⟩
  · show ite _ _ _
    rw [if_neg (fun hc => hc.2.2.2.1 h4)]; exact ⟨rfl, rfl⟩
  · have h8 : n < 12 := by
      rw [hn] at h2
      exact Nat.not_le.mp (fun hc => h2 (nI_le (a := 12) hc (by omega)))
    refine fx_ex1 (ct_Md_isExpression hq cd) ?_
    refine And.intro (fun h5 => ?_) (fun h5 => ?_)
    · have h5 := px_z_ne0.mp h5
      exact loop h h8 h3 h4 h5 3 0 _ _ rfl rfl (Or.inl ⟨rfl, fun p hp => absurd hp (by omega)⟩)
    · show ite _ _ _
      rw [if_neg (fun hc => px_z_eq0.mp h5 hc.2.2.2.2.2)]; exact ⟨rfl, rfl⟩
/-- the rounds of the reference's unreached -/
def pm_rt (bf af : Nat → Int32) : Nat → Int32 → Int32
  | 0, r => r
  | k + 1, r => if px_sub (bf k) (pm_rt bf af k r) then pm_rt bf af k r ||| af k else pm_rt bf af k r
def pm_ro (og of : Nat → Int32) : Nat → Int32 → Int32
  | 0, r => r
  | k + 1, r => if px_in (pm_ro og of k r) (og k) ∧ ¬ of k = -1 then pm_ro og of k r ||| of k else pm_ro og of k r
def pm_rd (bf af og of : Nat → Int32) (nT nO : Nat) (r : Int32) : Int32 := pm_ro og of nO (pm_rt bf af nT r)
theorem ct_Md_unreached (hq : fx_I κ lyM.length) {nS nT nO : Nat} (hnS : S 0 0 = nI nS) (hbS : nS ≤ 8) (hnT : S 0 9 = nI nT) (hbT : nT ≤ 12) (hnO : S 0 13 = nI nO) (hbO : nO ≤ 4) : MC_Md_unreached κ [.inr 0] S (fun r S' => S' = S ∧ r = ((1 <<< (S 0 0 &&& 31)) - 1) &&& (cl_it (pm_rd (S 8) (S 9) (S 11) (S 13) nT nO) 9 (pf_ini (S 2) nS) ^^^ (-1))) := by
  refine mo_Md_unreached hq (Nat.le_of_ble_eq_true rfl) ?_
  intro J hT ht
  have inner2 : ∀ (r0 : Int32) (m : Int32) (next : ∀ x, x = pm_ro (S 11) (S 13) nO r0 → J 107 [.inr 0, .inl x, .inl m] [] S) (j k : Nat) (x i : Int32), k + j = nO → x = pm_ro (S 11) (S 13) k r0 → i = nI k → J 57 [.inr 0, .inl x, .inl m, .inl i] [] S := by
    intro r0 m next j
    induction j with
    | zero =>
      intro k x i hk hx hi
      refine fx_go_ok [(57, 4), (107, 3)] 99 hT ht ?_
      refine And.intro (fun _ => ?_) (fun h => ?_)
      · exact next x (by rw [hx, show k = nO by omega])
      · exact absurd (by rw [hnO, hi]; exact nI_le (by omega) (by omega)) h
    | succ j ih =>
      intro k x i hk hx hi
      subst hi
      have e : (nI k).toNatClampNeg = k := nI_clamp (by omega)
      have hv : vp_in (nI k) 4 := vp_in_nI (by omega) (by omega)
      refine fx_go_ok [(57, 4), (107, 3)] 99 hT ht ?_
      refine And.intro (fun h => absurd h (by rw [hnO]; exact nI_ge (by omega) (by omega))) (fun _ => ?_)
      refine And.intro hv ?_
      rw [e]
      refine fx_ex1 (ct_Md_in hq _ _) ?_
      refine And.intro (fun h => ?_) (fun h => ?_)
      · refine ih (k + 1) _ _ (by omega) ?_ (nI_1 k)
        have h := px_z_eq0.mp h
        rw [pm_ro, ← hx, if_neg (fun hc => h hc.1)]
      · have h := px_z_ne0.mp h
        refine And.intro hv ?_
        rw [e]
        refine And.intro (fun h2 => ?_) (fun h2 => ?_)
        · refine ih (k + 1) _ _ (by omega) ?_ (nI_1 k)
          rw [pm_ro, ← hx, if_neg (fun hc => hc.2 h2)]
        · refine And.intro hv ?_
          rw [e]
          refine ih (k + 1) _ _ (by omega) ?_ (nI_1 k)
          rw [pm_ro, ← hx, if_pos ⟨h, h2⟩]
  have inner1 : ∀ (r0 : Int32) (m : Int32) (next : ∀ x, x = pm_rd (S 8) (S 9) (S 11) (S 13) nT nO r0 → J 107 [.inr 0, .inl x, .inl m] [] S) (j k : Nat) (x i : Int32), k + j = nT → x = pm_rt (S 8) (S 9) k r0 → i = nI k → J 15 [.inr 0, .inl x, .inl m, .inl i] [] S := by
    intro r0 m next j
    induction j with
    | zero =>
      intro k x i hk hx hi
      refine fx_go_ok [(15, 4), (57, 4)] 99 hT ht ?_
      refine And.intro (fun _ => ?_) (fun h => ?_)
      · have hk : k = nT := by omega
        subst hk
        exact inner2 (pm_rt (S 8) (S 9) k r0) m next nO 0 _ _ (by omega) hx rfl
      · exact absurd (by rw [hnT, hi]; exact nI_le (by omega) (by omega)) h
    | succ j ih =>
      intro k x i hk hx hi
      subst hi
      have e : (nI k).toNatClampNeg = k := nI_clamp (by omega)
      have hv : vp_in (nI k) 12 := vp_in_nI (by omega) (by omega)
      refine fx_go_ok [(15, 4), (57, 4)] 99 hT ht ?_
      refine And.intro (fun h => absurd h (by rw [hnT]; exact nI_ge (by omega) (by omega))) (fun _ => ?_)
      refine And.intro hv ?_
      rw [e]
      refine And.intro (fun h => ?_) (fun h => ?_)
      · refine ih (k + 1) _ _ (by omega) ?_ (nI_1 k)
        rw [pm_rt, ← hx, if_neg h]
      · refine And.intro hv ?_
        rw [e]
        refine ih (k + 1) _ _ (by omega) ?_ (nI_1 k)
        rw [pm_rt, ← hx, if_pos h]
  have outer : ∀ (j k : Nat) (x i : Int32), k + j = 9 → x = cl_it (pm_rd (S 8) (S 9) (S 11) (S 13) nT nO) k (pf_ini (S 2) nS) → i = nI k → J 7 [.inr 0, .inl x, .inl i] [] S := by
    intro j
    induction j with
    | zero =>
      intro k x i hk hx hi
      have hk : k = 9 := by omega
      subst hk; subst hi
      refine fx_go_ok [] 99 hT ht ?_
      refine And.intro (fun _ => ?_) (fun h => absurd (by decide) h)
      exact ⟨rfl, by rw [hx]⟩
    | succ j ih =>
      intro k x i hk hx hi
      subst hi
      refine fx_go_ok [(7, 3), (15, 4)] 99 hT ht ?_
      refine And.intro (fun h => absurd (show nI 9 ≤ nI k from h) (nI_ge (by omega) (by omega))) (fun _ => ?_)
      refine inner1 x (nI k) (fun y hy => ?_) nT 0 _ _ (by omega) rfl rfl
      refine fx_go_ok [(7, 3)] 99 hT ht ?_
      refine ih (k + 1) _ _ (by omega) ?_ (nI_1 k)
      rw [hy, hx]
      rfl
  refine fx_go_ok [(7, 3)] 99 hT ht ?_
  refine fx_ex1 (ct_Md_initials hq hnS hbS) ?_
  exact outer 9 0 _ _ rfl rfl rfl
end MDB
