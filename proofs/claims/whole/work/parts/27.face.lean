/-! the class's own methods: building, reading -/
def pf_addS (S : fx_S) (n : Nat) (part it : Int32) : fx_S := if it = 0 then fx_up (fx_up (fx_up S 1 2 (nI (n + 1))) 8 n part) 9 part.toNatClampNeg (S 9 part.toNatClampNeg ||| px_b n) else fx_up (fx_up (fx_up (fx_up S 1 2 (nI (n + 1))) 8 n part) 9 part.toNatClampNeg (S 9 part.toNatClampNeg ||| px_b n)) 1 3 (S 1 3 ||| px_b n)
def pf_addE (S : fx_S) (n : Nat) (kd a b : Int32) : fx_S := fx_up (fx_up (fx_up (fx_up (fx_up S 2 4 (nI (n + 1))) 10 n kd) 11 n a) 12 n b) 13 n (pf_dep (S 13) kd a b)
def pf_pw (ip : Nat → Int32) (se : Int32) : Int32 := if px_sub se (ip 0) then 0 else if px_sub se (ip 1) then 1 else if px_sub se (ip 2) then 2 else -1
def pf_addT (S : fx_S) (n p : Nat) (bf af cd : Int32) : fx_S := fx_up (fx_up (fx_up (fx_up (fx_up S 3 4 (nI (n + 1))) 14 n bf) 15 n af) 16 n cd) 17 p (S 17 p ||| px_b n)
def pf_addO (S : fx_S) (n : Nat) (a b c : Int32) : fx_S := fx_up (fx_up (fx_up (fx_up S 4 3 (nI (n + 1))) 18 n a) 19 n b) 20 n c
def pf_addA (S : fx_S) (n : Nat) (a b c d : Int32) : fx_S := fx_up (fx_up (fx_up (fx_up (fx_up S 5 5 (nI (n + 1))) 21 n a) 22 n b) 23 n c) 24 n d
theorem pf_pw_in (ip : Nat → Int32) (se : Int32) : (pf_pw ip se = -1 ∧ (∀ p, p < 3 → ¬ px_sub se (ip p))) ∨ ∃ p, p < 3 ∧ pf_pw ip se = nI p ∧ px_sub se (ip p) := by
  unfold pf_pw
  by_cases h0 : px_sub se (ip 0)
  · rw [if_pos h0]; exact Or.inr ⟨0, by omega, rfl, h0⟩
  · rw [if_neg h0]
    by_cases h1 : px_sub se (ip 1)
    · rw [if_pos h1]; exact Or.inr ⟨1, by omega, rfl, h1⟩
    · rw [if_neg h1]
      by_cases h2 : px_sub se (ip 2)
      · rw [if_pos h2]; exact Or.inr ⟨2, by omega, rfl, h2⟩
      · rw [if_neg h2]
        refine Or.inl ⟨rfl, fun p hp => ?_⟩
        rcases (show p = 0 ∨ p = 1 ∨ p = 2 by omega) with rfl | rfl | rfl
        · exact h0
        · exact h1
        · exact h2
theorem nI_ne {a b : Nat} (h : a ≠ b) (ha : a < 2 ^ 31) (hb : b < 2 ^ 31) : ¬ nI a = nI b := fun e => h ((nI_eq ha hb).mp e)
theorem nI_le_of {x : Int32} {n : Nat} (h0 : 0 ≤ x) (h : x < nI n) (hn : n < 2 ^ 31) : ∃ j : Nat, j < n ∧ x = nI j := by
  obtain ⟨j, hj, e⟩ := nI_of (x := x) (Int32.not_lt.mpr h0)
  rw [e, nI_ltI hj hn] at h
  exact ⟨j, h, e⟩
section FACE
variable {κ : fx_K} {S : fx_S}
theorem ct_Fc_step (hq : fx_I κ lyX.length) {n : Nat} (hn : S 1 2 = nI n) (hb : n ≤ 8) (part it : Int32) : MC_Fc_step κ [.inr 0, .inl part, .inl it] S (fun r S' => if S 0 7 = 0 ∧ n < 8 ∧ 0 ≤ part ∧ part < 3 then r = nI n ∧ S' = pf_addS S n part it else r = -2 ∧ S' = S) := by
  refine mo_Fc_step hq (Nat.le_of_ble_eq_true rfl) ?_
  intro J hT ht
  refine fx_go_ok [] 99 hT ht ?_
  refine And.intro (fun h => ?_) (fun h => And.intro (fun h2 => ?_) (fun h2 => And.intro (fun h3 => ?_) (fun h3 => And.intro (fun h4 => ?_) (fun h4 => ?_))))
  · show ite _ _ _
    rw [if_neg (fun hc => h hc.1)]; exact ⟨rfl, rfl⟩
  · show ite _ _ _
    rw [if_neg (fun hc => absurd (hn.symm.trans h2) (nI_ne (b := 8) (by omega) (by omega) (by omega)))]; exact ⟨rfl, rfl⟩
  · show ite _ _ _
    rw [if_neg (fun hc => Int32.not_lt.mpr hc.2.2.1 h3)]; exact ⟨rfl, rfl⟩
  · have h8 : n < 8 := by
      refine Nat.lt_of_le_of_ne hb (fun e => h2 ?_)
      rw [hn, e]; rfl
    have h3 := Int32.not_lt.mp h3
    obtain ⟨p, hp, rfl⟩ := nI_le_of (n := 3) h3 h4 (by omega)
    refine fx_ex _ (ct_St_add hq hn h8 hp it) ?_
    rintro r U ⟨hr, hU⟩
    show ite _ _ _
    rw [if_pos ⟨h, h8, h3, h4⟩]
    refine ⟨hr, ?_⟩
    rw [hU, pf_addS, nI_clamp (by omega)]
  · show ite _ _ _
    rw [if_neg (fun hc => h4 hc.2.2.2)]; exact ⟨rfl, rfl⟩
theorem pf_allow_a {S : fx_S} {n : Nat} (hn : S 2 4 = nI n) (hb : n ≤ 24) {kd a b : Int32} (h : pf_allow S kd a b = true) : (kd = 5 ∨ kd = 6 ∨ kd = 7 → vp_in a n) ∧ (kd = 6 ∨ kd = 7 → vp_in b n) := by
  have cb : ∀ x, pf_cbp S x → vp_in x n := fun x hx => by
    obtain ⟨j, hj, rfl⟩ := nI_le_of (n := n) hx.1.1 (by rw [← hn]; exact hx.1.2) (by omega)
    exact vp_in_nI hj (by omega)
  have n0 : ∀ x : Int32, x = 5 ∨ x = 6 ∨ x = 7 → ¬ (x = 0 ∨ x = 1 ∨ x = 2) ∧ ¬ x = 3 ∧ ¬ x = 4 := by
    rintro x (rfl | rfl | rfl) <;> decide
  constructor
  · intro hk
    obtain ⟨m1, m2, m3⟩ := n0 kd hk
    rw [pf_allow, if_neg m1, if_neg m2, if_neg m3] at h
    by_cases h5 : kd = 5
    · rw [if_pos h5] at h; exact cb a (of_decide_eq_true h)
    · rw [if_neg h5, if_pos (hk.resolve_left h5)] at h; exact cb a (of_decide_eq_true h).1
  · intro hk
    obtain ⟨m1, m2, m3⟩ := n0 kd (Or.inr hk)
    rw [pf_allow, if_neg m1, if_neg m2, if_neg m3, if_neg (by rcases hk with rfl | rfl <;> decide), if_pos hk] at h
    exact cb b (of_decide_eq_true h).2
theorem ct_Fc_expression (hq : fx_I κ lyX.length) {n : Nat} (hn : S 2 4 = nI n) (hb : n ≤ 24) (kd a b : Int32) : MC_Fc_expression κ [.inr 0, .inl kd, .inl a, .inl b] S (fun r S' => if S 0 7 = 0 ∧ n < 24 ∧ pf_allow S kd a b = true then r = nI n ∧ S' = pf_addE S n kd a b else r = -2 ∧ S' = S) := by
  refine mo_Fc_expression hq (Nat.le_of_ble_eq_true rfl) ?_
  intro J hT ht
  refine fx_go_ok [] 99 hT ht ?_
  refine And.intro (fun h => ?_) (fun h => And.intro (fun h2 => ?_) (fun h2 => ?_))
  · show ite _ _ _
    rw [if_neg (fun hc => h hc.1)]; exact ⟨rfl, rfl⟩
  · show ite _ _ _
    rw [if_neg (fun hc => absurd (hn.symm.trans h2) (nI_ne (b := 24) (by omega) (by omega) (by omega)))]; exact ⟨rfl, rfl⟩
  · have h8 : n < 24 := by
      refine Nat.lt_of_le_of_ne hb (fun e => h2 ?_)
      rw [hn, e]; rfl
    refine fx_ex1 (ct_Ex_allow hq hn hb kd a b) ?_
    refine And.intro (fun h3 => ?_) (fun h3 => ?_)
    · have h3 := px_z_ne0.mp h3
      obtain ⟨pa, pb⟩ := pf_allow_a hn hb h3
      refine fx_ex _ (ct_Ex_add hq hn h8 pa pb) ?_
      rintro r U ⟨hr, hU⟩
      show ite _ _ _
      rw [if_pos ⟨h, h8, h3⟩]
      exact ⟨hr, hU⟩
    · show ite _ _ _
      rw [if_neg (fun hc => px_z_eq0.mp h3 hc.2.2)]; exact ⟨rfl, rfl⟩
theorem ct_Fc_transition (hq : fx_I κ lyX.length) {n : Nat} (hn : S 3 4 = nI n) (hb : n ≤ 12) (bf af cd : Int32) : MC_Fc_transition κ [.inr 0, .inl bf, .inl af, .inl cd] S (fun r S' => if S 0 7 = 0 ∧ n < 12 ∧ ¬ bf = 0 ∧ ¬ af = 0 ∧ ¬ pf_pw (S 9) (bf ||| af) = -1 ∧ 0 ≤ cd ∧ cd < S 2 4 then r = nI n ∧ S' = pf_addT S n (pf_pw (S 9) (bf ||| af)).toNatClampNeg bf af cd else r = -2 ∧ S' = S) := by
  refine mo_Fc_transition hq (Nat.le_of_ble_eq_true rfl) ?_
  intro J hT ht
  refine fx_go_ok [] 99 hT ht ?_
  refine And.intro (fun h => ?_) (fun h => And.intro (fun h2 => ?_) (fun h2 => And.intro (fun h3 => ?_) (fun h3 => And.intro (fun h4 => ?_) (fun h4 => ?_))))
  · show ite _ _ _
    rw [if_neg (fun hc => h hc.1)]; exact ⟨rfl, rfl⟩
  · show ite _ _ _
    rw [if_neg (fun hc => absurd (hn.symm.trans h2) (nI_ne (b := 12) (by omega) (by omega) (by omega)))]; exact ⟨rfl, rfl⟩
  · show ite _ _ _
    rw [if_neg (fun hc => hc.2.2.1 h3)]; exact ⟨rfl, rfl⟩
  · have h8 : n < 12 := by
      refine Nat.lt_of_le_of_ne hb (fun e => h2 ?_)
      rw [hn, e]; rfl
    refine fx_ex1 (v := pf_pw (S 9) (bf ||| af)) (ct_St_partWithAll hq _) ?_
    rcases pf_pw_in (S 9) (bf ||| af) with ⟨e, -⟩ | ⟨p, hp, e, -⟩
    · refine And.intro (fun h5 => ?_) (fun h5 => ?_)
      · show ite _ _ _
        rw [if_neg (fun hc => hc.2.2.2.2.1 e)]; exact ⟨rfl, rfl⟩
      · exact absurd (by rw [e]; decide) h5
    · refine And.intro (fun h5 => ?_) (fun h5 => ?_)
      · exact absurd h5 (by rw [e]; exact nI_pos (by omega))
      · refine fx_ex1 (ct_Ex_has hq cd) ?_
        refine And.intro (fun h6 => ?_) (fun h6 => ?_)
        · have h6 := px_z_ne0.mp h6
          rw [e]
          refine fx_ex _ (ct_Tr_add hq hn h8 hp bf af cd) ?_
          rintro r U ⟨hr, hU⟩
          show ite _ _ _
          rw [if_pos ⟨h, h8, h3, h4, fun hc => absurd (hc ▸ nI_pos' (n := p) (by omega) : (0 : Int32) ≤ -1) (by decide), h6.1, h6.2⟩]
          refine ⟨hr, ?_⟩
          rw [hU, nI_clamp (by omega), pf_addT]
        · show ite _ _ _
          rw [if_neg (fun hc => px_z_eq0.mp h6 hc.2.2.2.2.2)]; exact ⟨rfl, rfl⟩
  · show ite _ _ _
    rw [if_neg (fun hc => hc.2.2.2.1 h4)]; exact ⟨rfl, rfl⟩
theorem ct_Fc_order (hq : fx_I κ lyX.length) {n m : Nat} (hn : S 4 3 = nI n) (hb : n ≤ 4) (hm : S 1 2 = nI m) (hbm : m ≤ 8) (hpo : ∀ k, k < m → ∃ p, p < 3 ∧ S 8 k = nI p) (st part fx : Int32) : MC_Fc_order κ [.inr 0, .inl st, .inl part, .inl fx] S (fun r S' => if S 0 7 = 0 ∧ n < 4 ∧ (0 ≤ st ∧ st < S 1 2) ∧ S 8 st.toNatClampNeg < part ∧ part < 3 ∧ (fx = -1 ∨ px_sub fx (S 9 part.toNatClampNeg)) then r = nI n ∧ S' = pf_addO S n st part fx else r = -2 ∧ S' = S) := by
  refine mo_Fc_order hq (Nat.le_of_ble_eq_true rfl) ?_
  intro J hT ht
  refine fx_go_ok [] 99 hT ht ?_
  refine And.intro (fun h => ?_) (fun h => And.intro (fun h2 => ?_) (fun h2 => ?_))
  · show ite _ _ _
    rw [if_neg (fun hc => h hc.1)]; exact ⟨rfl, rfl⟩
  · show ite _ _ _
    rw [if_neg (fun hc => absurd (hn.symm.trans h2) (nI_ne (b := 4) (by omega) (by omega) (by omega)))]; exact ⟨rfl, rfl⟩
  · have h8 : n < 4 := by
      refine Nat.lt_of_le_of_ne hb (fun e => h2 ?_)
      rw [hn, e]; rfl
    refine fx_ex1 (ct_St_has hq st) ?_
    refine And.intro (fun h3 => ?_) (fun h3 => ?_)
    · have h3 := px_z_ne0.mp h3
      obtain ⟨k, hk, rfl⟩ := nI_le_of (n := m) h3.1 (by rw [← hm]; exact h3.2) (by omega)
      have ek : (nI k).toNatClampNeg = k := nI_clamp (by omega)
      obtain ⟨p0, hp0, e0⟩ := hpo k hk
      refine And.intro (vp_in_nI (by omega) (by omega)) ?_
      refine And.intro (fun h4 => ?_) (fun h4 => And.intro (fun h5 => ?_) (fun h5 => ?_))
      · show ite _ _ _
        rw [if_neg (fun hc => Int32.not_lt.mpr h4 hc.2.2.2.1)]; exact ⟨rfl, rfl⟩
      · have h4 := Int32.not_le.mp h4
        have hge : 0 ≤ part := by
          rw [ek, e0] at h4
          exact Int32.le_of_lt (Int32.lt_of_le_of_lt (nI_pos' (by omega)) h4)
        obtain ⟨p, hp, rfl⟩ := nI_le_of (n := 3) hge h5 (by omega)
        have acc : (fx = -1 ∨ px_sub fx (S 9 (nI p).toNatClampNeg)) → ∃ post, MC_Or_add κ [.inr 4, .inl (nI k), .inl (nI p), .inl fx] S post ∧ ∀ r S', post r S' → (if S 0 7 = 0 ∧ n < 4 ∧ (0 ≤ nI k ∧ nI k < S 1 2) ∧ S 8 (nI k).toNatClampNeg < nI p ∧ nI p < 3 ∧ (fx = -1 ∨ px_sub fx (S 9 (nI p).toNatClampNeg)) then r = nI n ∧ S' = pf_addO S n (nI k) (nI p) fx else r = -2 ∧ S' = S) := by
          intro hx
          refine fx_ex _ (ct_Or_add hq hn h8 _ _ _) ?_
          rintro r U ⟨hr, hU⟩
          rw [if_pos ⟨h, h8, h3, h4, h5, hx⟩]
          exact ⟨hr, hU⟩
        refine And.intro (fun h6 => ?_) (fun h6 => And.intro (vp_in_nI (by omega) (by omega)) (And.intro (fun h7 => ?_) (fun h7 => ?_)))
        · exact acc (Or.inl h6)
        · exact acc (Or.inr h7)
        · show ite _ _ _
          rw [if_neg (fun hc => hc.2.2.2.2.2.elim h6 h7)]; exact ⟨rfl, rfl⟩
      · show ite _ _ _
        rw [if_neg (fun hc => h5 hc.2.2.2.2.1)]; exact ⟨rfl, rfl⟩
    · show ite _ _ _
      rw [if_neg (fun hc => px_z_eq0.mp h3 hc.2.2.1)]; exact ⟨rfl, rfl⟩
theorem ct_Fc_action (hq : fx_I κ lyX.length) {n : Nat} (hn : S 5 5 = nI n) (hb : n ≤ 12) (st qu va du : Int32) : MC_Fc_action κ [.inr 0, .inl st, .inl qu, .inl va, .inl du] S (fun r S' => if S 0 7 = 0 ∧ n < 12 ∧ (0 ≤ st ∧ st < S 1 2) ∧ (0 ≤ qu ∧ qu ≤ 9) ∧ (0 ≤ va ∧ va < 8) ∧ (0 ≤ du ∧ du ≤ 1000000) then r = nI n ∧ S' = pf_addA S n st qu va du else r = -2 ∧ S' = S) := by
  refine mo_Fc_action hq (Nat.le_of_ble_eq_true rfl) ?_
  intro J hT ht
  refine fx_go_ok [] 99 hT ht ?_
  refine And.intro (fun h => ?_) (fun h => And.intro (fun h2 => ?_) (fun h2 => ?_))
  · show ite _ _ _
    rw [if_neg (fun hc => h hc.1)]; exact ⟨rfl, rfl⟩
  · show ite _ _ _
    rw [if_neg (fun hc => absurd (hn.symm.trans h2) (nI_ne (b := 12) (by omega) (by omega) (by omega)))]; exact ⟨rfl, rfl⟩
  · have h8 : n < 12 := by
      refine Nat.lt_of_le_of_ne hb (fun e => h2 ?_)
      rw [hn, e]; rfl
    refine fx_ex1 (ct_St_has hq st) ?_
    refine And.intro (fun h3 => ?_) (fun h3 => ?_)
    · have h3 := px_z_ne0.mp h3
      refine fx_ex1 (ct_Ac_isQualifier hq qu) ?_
      refine And.intro (fun h4 => ?_) (fun h4 => ?_)
      · show ite _ _ _
        rw [if_neg (fun hc => px_z_eq0.mp h4 hc.2.2.2.1)]; exact ⟨rfl, rfl⟩
      · have h4 := px_z_ne0.mp h4
        refine fx_ex1 (ct_Fc_isLine hq va) ?_
        refine And.intro (fun h5 => ?_) (fun h5 => ?_)
        · show ite _ _ _
          rw [if_neg (fun hc => px_z_eq0.mp h5 hc.2.2.2.2.1)]; exact ⟨rfl, rfl⟩
        · have h5 := px_z_ne0.mp h5
          refine fx_ex1 (ct_Fc_isSpan hq du) ?_
          refine And.intro (fun h6 => ?_) (fun h6 => ?_)
          · have h6 := px_z_ne0.mp h6
            refine fx_ex _ (ct_Ac_add hq hn h8 _ _ _ _) ?_
            rintro r U ⟨hr, hU⟩
            show ite _ _ _
            rw [if_pos ⟨h, h8, h3, h4, h5, h6⟩]
            exact ⟨hr, hU⟩
          · show ite _ _ _
            rw [if_neg (fun hc => px_z_eq0.mp h6 hc.2.2.2.2.2)]; exact ⟨rfl, rfl⟩
    · show ite _ _ _
      rw [if_neg (fun hc => px_z_eq0.mp h3 hc.2.2.1)]; exact ⟨rfl, rfl⟩
/-- a round of unreached -/
def pf_rd (bf af og of : Nat → Int32) (nT nO : Nat) (r : Int32) : Int32 := r ||| (pf_un af (pf_en bf r nT) nT ||| pf_fix og of r nO)
theorem ct_Fc_unreached (hq : fx_I κ lyX.length) {nT nO : Nat} (hnT : S 3 4 = nI nT) (hbT : nT ≤ 12) (hnO : S 4 3 = nI nO) (hbO : nO ≤ 4) : MC_Fc_unreached κ [.inr 0] S (fun r S' => S' = S ∧ r = ((1 <<< (S 1 2 &&& 31)) - 1) &&& (cl_it (pf_rd (S 14) (S 15) (S 18) (S 20) nT nO) 8 (S 1 3) ^^^ (-1))) := by
  refine mo_Fc_unreached hq (Nat.le_of_ble_eq_true rfl) ?_
  intro J hT ht
  have loop : ∀ (j k : Nat) (x i : Int32), k + j = 8 → x = cl_it (pf_rd (S 14) (S 15) (S 18) (S 20) nT nO) k (S 1 3) → i = nI k → J 10 [.inr 0, .inl x, .inl i] [] S := by
    intro j
    induction j with
    | zero =>
      intro k x i hk hx hi
      have hk : k = 8 := by omega
      subst hk; subst hi
      refine fx_go_ok [] 99 hT ht ?_
      refine And.intro (fun _ => ?_) (fun h => absurd (by decide) h)
      refine fx_ex1 (ct_St_all hq) ?_
      exact ⟨rfl, by rw [hx]⟩
    | succ j ih =>
      intro k x i hk hx hi
      subst hi
      refine fx_go_ok [(10, 3)] 99 hT ht ?_
      refine And.intro (fun h => ?_) (fun _ => ?_)
      · exact absurd (show nI 8 ≤ nI k from h) (nI_ge (by omega) (by omega))
      · refine fx_ex1 (ct_Tr_enabledIn hq hnT hbT _) ?_
        refine fx_ex1 (ct_Tr_succeeding hq hnT hbT _) ?_
        refine fx_ex1 (ct_Or_fixedBy hq hnO hbO _) ?_
        refine ih (k + 1) _ _ (by omega) ?_ (nI_1 k)
        rw [hx]
        rfl
  refine fx_go_ok [(10, 3)] 99 hT ht ?_
  exact loop 8 0 _ _ rfl rfl rfl
theorem ct_Fc_active (hq : fx_I κ lyX.length) : MC_Fc_active κ [.inr 0] S (fun r S' => S' = S ∧ r = S 0 9) := by
  refine mo_Fc_active hq (Nat.le_of_ble_eq_true rfl) ?_
  intro J hT ht
  refine fx_go_ok [] 99 hT ht ?_
  exact ⟨rfl, rfl⟩
theorem ct_Fc_outputs (hq : fx_I κ lyX.length) : MC_Fc_outputs κ [.inr 0] S (fun r S' => S' = S ∧ r = S 0 12) := by
  refine mo_Fc_outputs hq (Nat.le_of_ble_eq_true rfl) ?_
  intro J hT ht
  refine fx_go_ok [] 99 hT ht ?_
  exact ⟨rfl, rfl⟩
theorem ct_Fc_evolutions (hq : fx_I κ lyX.length) : MC_Fc_evolutions κ [.inr 0] S (fun r S' => S' = S ∧ r = S 0 13) := by
  refine mo_Fc_evolutions hq (Nat.le_of_ble_eq_true rfl) ?_
  intro J hT ht
  refine fx_go_ok [] 99 hT ht ?_
  exact ⟨rfl, rfl⟩
theorem ct_Fc_cleared (hq : fx_I κ lyX.length) : MC_Fc_cleared κ [.inr 0] S (fun r S' => S' = S ∧ r = S 0 14) := by
  refine mo_Fc_cleared hq (Nat.le_of_ble_eq_true rfl) ?_
  intro J hT ht
  refine fx_go_ok [] 99 hT ht ?_
  exact ⟨rfl, rfl⟩
theorem ct_Fc_lead (hq : fx_I κ lyX.length) : MC_Fc_lead κ [.inr 0] S (fun r S' => S' = S ∧ r = S 0 15) := by
  refine mo_Fc_lead hq (Nat.le_of_ble_eq_true rfl) ?_
  intro J hT ht
  refine fx_go_ok [] 99 hT ht ?_
  exact ⟨rfl, rfl⟩
theorem ct_Fc_period (hq : fx_I κ lyX.length) : MC_Fc_period κ [.inr 0] S (fun r S' => S' = S ∧ r = S 0 16) := by
  refine mo_Fc_period hq (Nat.le_of_ble_eq_true rfl) ?_
  intro J hT ht
  refine fx_go_ok [] 99 hT ht ?_
  exact ⟨rfl, rfl⟩
theorem ct_Fc_enabled (hq : fx_I κ lyX.length) {n : Nat} (hn : S 3 4 = nI n) (hb : n ≤ 12) : MC_Fc_enabled κ [.inr 0] S (fun r S' => S' = S ∧ r = pf_en (S 14) (S 0 9) n) := by
  refine mo_Fc_enabled hq (Nat.le_of_ble_eq_true rfl) ?_
  intro J hT ht
  refine fx_go_ok [] 99 hT ht ?_
  refine fx_ex1 (ct_Tr_enabledIn hq hn hb _) ?_
  exact ⟨rfl, rfl⟩
theorem ct_Fc_stored (hq : fx_I κ lyX.length) (a : Int32) : MC_Fc_stored κ [.inr 0, .inl a] S (fun r S' => S' = S ∧ r = px_z (0 ≤ a ∧ a < S 5 5 ∧ px_in (S 5 6) a)) := by
  refine mo_Fc_stored hq (Nat.le_of_ble_eq_true rfl) ?_
  intro J hT ht
  refine fx_go_ok [] 99 hT ht ?_
  refine fx_ex1 (ct_Ac_isStored hq a) ?_
  exact And.intro (px_z01 _) ⟨rfl, rfl⟩
theorem ct_Fc_time (hq : fx_I κ lyX.length) {n : Nat} (hn : S 1 2 = nI n) (hb : n ≤ 8) (a : Int32) : MC_Fc_time κ [.inr 0, .inl a] S (fun r S' => S' = S ∧ r = if 0 ≤ a ∧ a < S 1 2 then S 7 a.toNatClampNeg else 0) := by
  refine mo_Fc_time hq (Nat.le_of_ble_eq_true rfl) ?_
  intro J hT ht
  refine fx_go_ok [] 99 hT ht ?_
  refine fx_ex1 (ct_St_has hq a) ?_
  refine And.intro (fun h => ?_) (fun h => ?_)
  · exact ⟨rfl, (if_neg (px_z_eq0.mp h)).symm⟩
  · have h := px_z_ne0.mp h
    refine And.intro ?_ ⟨rfl, (if_pos h).symm⟩
    obtain ⟨j, hj, rfl⟩ := nI_le_of (n := n) h.1 (by rw [← hn]; exact h.2) (by omega)
    exact vp_in_nI (by omega) (by omega)
/-- nothing is left of a run -/
def pf_z8 (f : Nat → Int32) (k : Nat) : Nat → Int32 := fun j => if j < k then 0 else f j
def pf_forget (S : fx_S) : fx_S := fx_up (fx_up (fx_up (fx_up (fx_up (fx_up (fx_up (fx_up (fx_up (fx_row S 7 (pf_z8 (S 7) 8)) 5 6 0) 0 9 0) 0 10 0) 0 11 0) 0 12 0) 0 13 0) 0 14 0) 0 15 0) 0 16 0
theorem ct_Fc_forgetRun (hq : fx_I κ lyX.length) : MC_Fc_forgetRun κ [.inr 0] S (fun _ S' => S' = pf_forget S) := by
  refine mo_Fc_forgetRun hq (Nat.le_of_ble_eq_true rfl) ?_
  intro J hT ht
  have loop : ∀ (j k : Nat) (i : Int32) (U : fx_S), k + j = 8 → i = nI k → U = fx_row S 7 (pf_z8 (S 7) k) → J 2 [.inr 0, .inl i] [] U := by
    intro j
    induction j with
    | zero =>
      intro k i U hk hi hU
      have hk : k = 8 := by omega
      subst hk; subst hi; subst hU
      refine fx_go_ok [] 99 hT ht ?_
      refine And.intro (fun _ => ?_) (fun h => absurd (by decide) h)
      refine fx_ex _ (ct_Ac_forgetStored hq) ?_
      intro r V hV
      subst hV
      exact (rfl : _ = _)
    | succ j ih =>
      intro k i U hk hi hU
      subst hi; subst hU
      refine fx_go_ok [(2, 2)] 99 hT ht ?_
      refine And.intro (fun h => ?_) (fun _ => ?_)
      · exact absurd (show nI 8 ≤ nI k from h) (nI_ge (by omega) (by omega))
      · refine And.intro (vp_in_nI (by omega) (by omega)) ?_
        refine ih (k + 1) _ _ (by omega) (nI_1 k) ?_
        rw [nI_clamp (by omega), fx_row_up]
        congr 1
        funext b
        unfold upd pf_z8
        by_cases hbk : b = k
        · subst hbk; rw [if_pos rfl, if_pos (by omega)]
        · rw [if_neg hbk]
          by_cases hlt : b < k
          · rw [if_pos hlt, if_pos (by omega)]
          · rw [if_neg hlt, if_neg (by omega)]
  refine fx_go_ok [(2, 2)] 99 hT ht ?_
  refine loop 8 0 _ _ rfl rfl ?_
  have : pf_z8 (S 7) 0 = S 7 := by funext b; unfold pf_z8; rw [if_neg (by omega)]
  rw [this, fx_row_self]
theorem ct_Fc_start (hq : fx_I κ lyX.length) {st : Int32} (hst : st = 0 ∨ st = 1) : MC_Fc_start κ [.inr 0, .inl st] S (fun r S' => if S 0 7 = 0 ∧ ¬ S 1 3 = 0 then r = 1 ∧ S' = fx_up (fx_up (fx_up (pf_forget S) 0 7 1) 0 8 st) 0 9 (S 1 3) else r = 0 ∧ S' = S) := by
  refine mo_Fc_start hq (Nat.le_of_ble_eq_true rfl) ?_
  intro J hT ht
  refine fx_go_ok [] 99 hT ht ?_
  refine And.intro (fun h => ?_) (fun h => And.intro (fun h2 => ?_) (fun h2 => ?_))
  · refine And.intro (Or.inl rfl) ?_
    show ite _ _ _
    rw [if_neg (fun hc => h hc.1)]; exact ⟨rfl, rfl⟩
  · refine fx_ex _ (ct_Fc_forgetRun hq) ?_
    intro r V hV
    subst hV
    refine And.intro (Or.inr rfl) (And.intro hst ?_)
    refine And.intro (Or.inr rfl) ?_
    show ite _ _ _
    rw [if_pos ⟨h, h2⟩]; exact ⟨rfl, rfl⟩
  · refine And.intro (Or.inl rfl) ?_
    show ite _ _ _
    rw [if_neg (fun hc => hc.2 h2)]; exact ⟨rfl, rfl⟩
theorem ct_Fc_stop (hq : fx_I κ lyX.length) : MC_Fc_stop κ [.inr 0] S (fun _ S' => S' = fx_up (pf_forget S) 0 7 0) := by
  refine mo_Fc_stop hq (Nat.le_of_ble_eq_true rfl) ?_
  intro J hT ht
  refine fx_go_ok [] 99 hT ht ?_
  refine fx_ex _ (ct_Fc_forgetRun hq) ?_
  intro r V hV
  subst hV
  exact And.intro (Or.inl rfl) (rfl : _ = _)
end FACE
