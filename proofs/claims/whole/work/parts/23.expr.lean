theorem px_z_dec (P : Prop) [Decidable P] : px_z (decide P = true) = px_z P := px_z_congr decide_eq_true_iff
section TRIAL
variable {κ : fx_K} {S : fx_S}
theorem ct_Ti_timeOf (hq : fx_I κ lyX.length) {a : Nat} (ha : a < 8) : MC_Ti_timeOf κ [.inr 6, .inl (nI a)] S (fun r S' => S' = S ∧ r = pf_tm (S 6 6) (S 26) (nI a)) := by
  refine mo_Ti_timeOf hq (Nat.le_of_ble_eq_true rfl) ?_
  intro J hT ht
  refine fx_go_ok [] 99 hT ht ?_
  refine fx_ex1 (ct_Fc_isIn hq _ _) ?_
  refine And.intro (fun h => ?_) (fun h => ?_)
  · refine ⟨rfl, ?_⟩
    rw [pf_tm, if_neg (px_z_eq0.mp h)]
  · refine And.intro (vp_in_nI (by omega) (by omega)) ?_
    refine ⟨rfl, ?_⟩
    rw [pf_tm, if_pos (px_z_ne0.mp h)]
theorem ct_Ti_endEdges (hq : fx_I κ lyX.length) : MC_Ti_endEdges κ [.inr 6] S (fun r S' => S' = fx_up (fx_up S 6 3 0) 6 4 0) := by
  refine mo_Ti_endEdges hq (Nat.le_of_ble_eq_true rfl) ?_
  intro J hT ht
  refine fx_go_ok [] 99 hT ht ?_
  exact (rfl : _ = _)
theorem ct_Ti_sense (hq : fx_I κ lyX.length) (o n : Int32) : MC_Ti_sense κ [.inr 6, .inl o, .inl n] S (fun r S' => S' = fx_up (fx_up (fx_up S 6 2 n) 6 3 (n &&& (o ^^^ (-1)))) 6 4 (o &&& (n ^^^ (-1)))) := by
  refine mo_Ti_sense hq (Nat.le_of_ble_eq_true rfl) ?_
  intro J hT ht
  refine fx_go_ok [] 99 hT ht ?_
  exact (rfl : _ = _)
theorem ct_Ti_moveTo (hq : fx_I κ lyX.length) (nx cl : Int32) : MC_Ti_moveTo κ [.inr 6, .inl nx, .inl cl] S (fun r S' => (cl = 0 ∧ nx = S 6 5 ∧ r = 0 ∧ S' = S) ∨ (¬ (cl = 0 ∧ nx = S 6 5) ∧ r = 1 ∧ S' = fx_up (fx_up (fx_up (fx_up S 6 5 nx) 6 6 (S 6 6 &&& nx)) 6 7 (S 6 7 ||| cl)) 6 8 (S 6 8 + 1))) := by
  refine mo_Ti_moveTo hq (Nat.le_of_ble_eq_true rfl) ?_
  intro J hT ht
  refine fx_go_ok [] 99 hT ht ?_
  refine And.intro (fun h => ?_) (fun h => And.intro (fun h2 => ?_) (fun h2 => ?_))
  · exact And.intro (Or.inr rfl) (Or.inr ⟨fun hc => h hc.1, rfl, rfl⟩)
  · exact And.intro (Or.inr rfl) (Or.inr ⟨fun hc => h2 hc.2, rfl, rfl⟩)
  · exact And.intro (Or.inl rfl) (Or.inl ⟨h, h2, rfl, rfl⟩)
end TRIAL
section EXPR
variable {κ : fx_K} {S : fx_S}
theorem ct_Fc_isSpan (hq : fx_I κ lyX.length) (a : Int32) : MC_Fc_isSpan κ [.inl a] S (fun r S' => S' = S ∧ r = px_z (0 ≤ a ∧ a ≤ 1000000)) := by
  refine mo_Fc_isSpan hq (Nat.le_of_ble_eq_true rfl) ?_
  intro J hT ht
  refine fx_go_ok [] 99 hT ht ?_
  refine And.intro (fun h => ?_) (fun h => And.intro (fun h2 => ?_) (fun h2 => ?_))
  · exact And.intro (Or.inl rfl) ⟨rfl, (px_z_f (fun hn => Int32.not_lt.mpr hn.1 h)).symm⟩
  · exact And.intro (Or.inl rfl) ⟨rfl, (px_z_f (fun hn => Int32.not_lt.mpr hn.2 h2)).symm⟩
  · exact And.intro (Or.inr rfl) ⟨rfl, (px_z_t ⟨Int32.not_lt.mp h, Int32.not_lt.mp h2⟩).symm⟩
theorem ct_Ex_has (hq : fx_I κ lyX.length) (a : Int32) : MC_Ex_has κ [.inr 2, .inl a] S (fun r S' => S' = S ∧ r = px_z (0 ≤ a ∧ a < S 2 4)) := by
  refine mo_Ex_has hq (Nat.le_of_ble_eq_true rfl) ?_
  intro J hT ht
  refine fx_go_ok [] 99 hT ht ?_
  refine And.intro (fun h => ?_) (fun h => And.intro (fun h2 => ?_) (fun h2 => ?_))
  · exact And.intro (Or.inl rfl) ⟨rfl, (px_z_f (fun hn => Int32.not_lt.mpr hn.1 h)).symm⟩
  · exact And.intro (Or.inl rfl) ⟨rfl, (px_z_f (fun hn => Int32.not_lt.mpr h2 hn.2)).symm⟩
  · exact And.intro (Or.inr rfl) ⟨rfl, (px_z_t ⟨Int32.not_lt.mp h, Int32.not_le.mp h2⟩).symm⟩
/-- what may be a part of an expression -/
abbrev pf_cbp (S : fx_S) (a : Int32) : Prop := (0 ≤ a ∧ a < S 2 4) ∧ S 13 a.toNatClampNeg < 4
theorem ct_Ex_canBePart (hq : fx_I κ lyX.length) {n : Nat} (hn : S 2 4 = nI n) (hb : n ≤ 24) (a : Int32) : MC_Ex_canBePart κ [.inr 2, .inl a] S (fun r S' => S' = S ∧ r = px_z (pf_cbp S a)) := by
  refine mo_Ex_canBePart hq (Nat.le_of_ble_eq_true rfl) ?_
  intro J hT ht
  refine fx_go_ok [] 99 hT ht ?_
  refine fx_ex1 (ct_Ex_has hq a) ?_
  refine And.intro (fun h => ?_) (fun h => ?_)
  · exact And.intro (Or.inl rfl) ⟨rfl, (px_z_f (fun hc => px_z_eq0.mp h hc.1)).symm⟩
  · have h := px_z_ne0.mp h
    refine And.intro ?_ (And.intro (fun h2 => ?_) (fun h2 => ?_))
    · obtain ⟨j, hj, e⟩ := nI_of (x := a) (Int32.not_lt.mpr h.1)
      have h2 := h.2
      rw [hn, e, nI_ltI hj (by omega)] at h2
      rw [e]; exact vp_in_nI (by omega) (by omega)
    · exact And.intro (Or.inl rfl) ⟨rfl, (px_z_f (fun hc => Int32.not_lt.mpr h2 hc.2)).symm⟩
    · exact And.intro (Or.inr rfl) ⟨rfl, (px_z_t ⟨h, Int32.not_le.mp h2⟩).symm⟩
/-- which expressions are allowed -/
def pf_allow (S : fx_S) (kd a b : Int32) : Bool :=
  if kd = 0 ∨ kd = 1 ∨ kd = 2 then decide (0 ≤ a ∧ a < 8) else if kd = 3 then decide (0 ≤ a ∧ a < S 1 2) else if kd = 4 then decide ((0 ≤ a ∧ a < S 1 2) ∧ 0 ≤ b ∧ b ≤ 1000000) else if kd = 5 then decide (pf_cbp S a) else if kd = 6 ∨ kd = 7 then decide (pf_cbp S a ∧ pf_cbp S b) else false
theorem ct_Ex_allow (hq : fx_I κ lyX.length) {n : Nat} (hn : S 2 4 = nI n) (hb : n ≤ 24) (kd a b : Int32) : MC_Ex_allow κ [.inr 2, .inl kd, .inl a, .inl b, .inr 1] S (fun r S' => S' = S ∧ r = px_z (pf_allow S kd a b = true)) := by
  refine mo_Ex_allow hq (Nat.le_of_ble_eq_true rfl) ?_
  intro J hT ht
  refine fx_go_ok [] 99 hT ht ?_
  have line : (kd = 0 ∨ kd = 1 ∨ kd = 2) → px_z (0 ≤ a ∧ a < 8) = px_z (pf_allow S kd a b = true) := fun h => by
    rw [pf_allow, if_pos h, px_z_dec]
  have both : ¬ (kd = 0 ∨ kd = 1 ∨ kd = 2) → ¬ kd = 3 → ¬ kd = 4 → ¬ kd = 5 → (kd = 6 ∨ kd = 7) → px_z (pf_cbp S a ∧ pf_cbp S b) = px_z (pf_allow S kd a b = true) := fun h1 h2 h3 h4 h => by
    rw [pf_allow, if_neg h1, if_neg h2, if_neg h3, if_neg h4, if_pos h, px_z_dec]
  refine And.intro (fun h0 => ?_) (fun h0 => And.intro (fun h1 => ?_) (fun h1 => And.intro (fun h2 => ?_) (fun h2 => And.intro (fun h3 => ?_) (fun h3 => And.intro (fun h4 => ?_) (fun h4 => And.intro (fun h5 => ?_) (fun h5 => And.intro (fun h6 => ?_) (fun h6 => And.intro (fun h7 => ?_) (fun h7 => ?_))))))))
  · refine fx_ex1 (ct_Fc_isLine hq a) ?_
    exact And.intro (px_z01 _) ⟨rfl, line (Or.inl h0)⟩
  · refine fx_ex1 (ct_Fc_isLine hq a) ?_
    exact And.intro (px_z01 _) ⟨rfl, line (Or.inr (Or.inl h1))⟩
  · refine fx_ex1 (ct_Fc_isLine hq a) ?_
    exact And.intro (px_z01 _) ⟨rfl, line (Or.inr (Or.inr h2))⟩
  · refine fx_ex1 (ct_St_has hq a) ?_
    refine And.intro (px_z01 _) ⟨rfl, ?_⟩
    rw [pf_allow, if_neg (fun h => h.elim h0 (fun h => h.elim h1 h2)), if_pos h3, px_z_dec]
  · have e : pf_allow S kd a b = decide ((0 ≤ a ∧ a < S 1 2) ∧ 0 ≤ b ∧ b ≤ 1000000) := by
      rw [pf_allow, if_neg (fun h => h.elim h0 (fun h => h.elim h1 h2)), if_neg h3, if_pos h4]
    refine fx_ex1 (ct_St_has hq a) ?_
    refine And.intro (fun h => ?_) (fun h => ?_)
    · refine And.intro (Or.inl rfl) ⟨rfl, ?_⟩
      rw [e, px_z_dec, px_z_f (fun hc => px_z_eq0.mp h hc.1)]
    · refine fx_ex1 (ct_Fc_isSpan hq b) ?_
      refine And.intro (fun h9 => ?_) (fun h9 => ?_)
      · refine And.intro (Or.inl rfl) ⟨rfl, ?_⟩
        rw [e, px_z_dec, px_z_f (fun hc => px_z_eq0.mp h9 hc.2)]
      · refine And.intro (Or.inr rfl) ⟨rfl, ?_⟩
        rw [e, px_z_dec, px_z_t ⟨px_z_ne0.mp h, px_z_ne0.mp h9⟩]
  · refine fx_ex1 (ct_Ex_canBePart hq hn hb a) ?_
    refine And.intro (px_z01 _) ⟨rfl, ?_⟩
    rw [pf_allow, if_neg (fun h => h.elim h0 (fun h => h.elim h1 h2)), if_neg h3, if_neg h4, if_pos h5, px_z_dec]
  · have e := both (fun h => h.elim h0 (fun h => h.elim h1 h2)) h3 h4 h5 (Or.inl h6)
    refine fx_ex1 (ct_Ex_canBePart hq hn hb a) ?_
    refine And.intro (fun h => ?_) (fun h => ?_)
    · exact And.intro (Or.inl rfl) ⟨rfl, by rw [← e, px_z_f (fun hc => px_z_eq0.mp h hc.1)]⟩
    · refine fx_ex1 (ct_Ex_canBePart hq hn hb b) ?_
      refine And.intro (fun h9 => ?_) (fun h9 => ?_)
      · exact And.intro (Or.inl rfl) ⟨rfl, by rw [← e, px_z_f (fun hc => px_z_eq0.mp h9 hc.2)]⟩
      · exact And.intro (Or.inr rfl) ⟨rfl, by rw [← e, px_z_t ⟨px_z_ne0.mp h, px_z_ne0.mp h9⟩]⟩
  · have e := both (fun h => h.elim h0 (fun h => h.elim h1 h2)) h3 h4 h5 (Or.inr h7)
    refine fx_ex1 (ct_Ex_canBePart hq hn hb a) ?_
    refine And.intro (fun h => ?_) (fun h => ?_)
    · exact And.intro (Or.inl rfl) ⟨rfl, by rw [← e, px_z_f (fun hc => px_z_eq0.mp h hc.1)]⟩
    · refine fx_ex1 (ct_Ex_canBePart hq hn hb b) ?_
      refine And.intro (fun h9 => ?_) (fun h9 => ?_)
      · exact And.intro (Or.inl rfl) ⟨rfl, by rw [← e, px_z_f (fun hc => px_z_eq0.mp h9 hc.2)]⟩
      · exact And.intro (Or.inr rfl) ⟨rfl, by rw [← e, px_z_t ⟨px_z_ne0.mp h, px_z_ne0.mp h9⟩]⟩
  · refine And.intro (Or.inl rfl) ⟨rfl, ?_⟩
    rw [pf_allow, if_neg (fun h => h.elim h0 (fun h => h.elim h1 h2)), if_neg h3, if_neg h4, if_neg h5, if_neg (fun h => h.elim h6 h7)]
    rfl
/-- the depth of a new expression; its parts are there -/
def pf_dep (dp : Nat → Int32) (kd a b : Int32) : Int32 :=
  if kd = 5 then dp a.toNatClampNeg + 1 else if kd = 6 ∨ kd = 7 then fx_max (dp a.toNatClampNeg) (dp b.toNatClampNeg) + 1 else 0
theorem ct_Ex_depthFor (hq : fx_I κ lyX.length) {kd a b : Int32} (ha : kd = 5 ∨ kd = 6 ∨ kd = 7 → vp_in a 24) (hb : kd = 6 ∨ kd = 7 → vp_in b 24) : MC_Ex_depthFor κ [.inr 2, .inl kd, .inl a, .inl b] S (fun r S' => S' = S ∧ r = pf_dep (S 13) kd a b) := by
  refine mo_Ex_depthFor hq (Nat.le_of_ble_eq_true rfl) ?_
  intro J hT ht
  refine fx_go_ok [] 99 hT ht ?_
  refine And.intro (fun h5 => ?_) (fun h5 => And.intro (fun h6 => ?_) (fun h6 => And.intro (fun h7 => ?_) (fun h7 => ?_)))
  · refine And.intro (ha (Or.inl h5)) ?_
    exact ⟨rfl, by rw [pf_dep, if_pos h5]⟩
  · refine And.intro (ha (Or.inr (Or.inl h6))) (And.intro (hb (Or.inl h6)) ?_)
    exact ⟨rfl, by rw [pf_dep, if_neg h5, if_pos (Or.inl h6)]⟩
  · refine And.intro (ha (Or.inr (Or.inr h7))) (And.intro (hb (Or.inr h7)) ?_)
    exact ⟨rfl, by rw [pf_dep, if_neg h5, if_pos (Or.inr h7)]⟩
  · exact ⟨rfl, by rw [pf_dep, if_neg h5, if_neg (fun h => h.elim h6 h7)]⟩
theorem ct_Ex_add (hq : fx_I κ lyX.length) {n : Nat} (hn : S 2 4 = nI n) (hb : n < 24) {kd a b : Int32} (hpa : kd = 5 ∨ kd = 6 ∨ kd = 7 → vp_in a n) (hpb : kd = 6 ∨ kd = 7 → vp_in b n) : MC_Ex_add κ [.inr 2, .inl kd, .inl a, .inl b] S (fun r S' => r = nI n ∧ S' = fx_up (fx_up (fx_up (fx_up (fx_up S 2 4 (nI (n + 1))) 10 n kd) 11 n a) 12 n b) 13 n (pf_dep (S 13) kd a b)) := by
  refine mo_Ex_add hq (Nat.le_of_ble_eq_true rfl) ?_
  intro J hT ht
  have e : (nI n).toNatClampNeg = n := nI_clamp (by omega)
  have hv : vp_in (nI n) 24 := vp_in_nI (by omega) (by omega)
  have up : ∀ x : Int32, vp_in x n → vp_in x 24 := fun x hx => by
    obtain ⟨j, h1, h2⟩ := vp_in_of hx (by omega)
    rw [h2]; exact vp_in_nI (by omega) (by omega)
  refine fx_go_ok [] 99 hT ht ?_
  refine And.intro (by rw [hn]; exact hv) ?_
  refine And.intro (by rw [hn]; exact hv) ?_
  refine And.intro (by rw [hn]; exact hv) ?_
  refine fx_ex1 (ct_Ex_depthFor hq (fun h => up _ (hpa h)) (fun h => up _ (hpb h))) ?_
  refine And.intro (by rw [hn]; exact hv) ?_
  refine ⟨hn, ?_⟩
  rw [hn, e, nI_1]
  rfl
theorem ct_Ex_holds (hq : fx_I κ lyX.length) {k : Nat} (hk : k < 24) (h4 : S 10 k = 4 → ∃ a, a < 8 ∧ S 11 k = nI a) (tr : Int32) : MC_Ex_holds κ [.inr 2, .inl (nI k), .inl tr, .inr 6] S (fun r S' => S' = S ∧ r = px_z (pf_ho (S 10 k) (S 11 k) (S 12 k) (S 6 2) (S 6 3) (S 6 4) (S 6 5) (S 6 6) (S 26) tr = true)) := by
  refine mo_Ex_holds hq (Nat.le_of_ble_eq_true rfl) ?_
  intro J hT ht
  have e : (nI k).toNatClampNeg = k := nI_clamp (by omega)
  have hv : vp_in (nI k) 24 := vp_in_nI (by omega) (by omega)
  refine fx_go_ok [] 99 hT ht ?_
  refine And.intro hv (And.intro hv (And.intro hv ?_))
  rw [e]
  refine And.intro (fun h0 => ?_) (fun h0 => And.intro (fun h1 => ?_) (fun h1 => And.intro (fun h2 => ?_) (fun h2 => And.intro (fun h3 => ?_) (fun h3 => And.intro (fun h4' => ?_) (fun h4' => And.intro (fun h5 => ?_) (fun h5 => And.intro (fun h6 => ?_) (fun h6 => ?_)))))))
  · refine fx_ex1 (ct_Fc_isIn hq _ _) ?_
    refine And.intro (px_z01 _) ⟨rfl, ?_⟩
    rw [pf_ho, if_pos h0, px_z_dec]
  · refine fx_ex1 (ct_Fc_isIn hq _ _) ?_
    refine And.intro (px_z01 _) ⟨rfl, ?_⟩
    rw [pf_ho, if_neg h0, if_pos h1, px_z_dec]
  · refine fx_ex1 (ct_Fc_isIn hq _ _) ?_
    refine And.intro (px_z01 _) ⟨rfl, ?_⟩
    rw [pf_ho, if_neg h0, if_neg h1, if_pos h2, px_z_dec]
  · refine fx_ex1 (ct_Fc_isIn hq _ _) ?_
    refine And.intro (px_z01 _) ⟨rfl, ?_⟩
    rw [pf_ho, if_neg h0, if_neg h1, if_neg h2, if_pos h3, px_z_dec]
  · obtain ⟨a, ha, hae⟩ := h4 h4'
    have e9 : pf_ho (S 10 k) (S 11 k) (S 12 k) (S 6 2) (S 6 3) (S 6 4) (S 6 5) (S 6 6) (S 26) tr = decide (px_in (S 6 5) (S 11 k) ∧ S 12 k ≤ pf_tm (S 6 6) (S 26) (S 11 k)) := by
      rw [pf_ho, if_neg h0, if_neg h1, if_neg h2, if_neg h3, if_pos h4']
    refine fx_ex1 (ct_Fc_isIn hq _ _) ?_
    refine And.intro (fun h => ?_) (fun h => ?_)
    · refine And.intro (Or.inl rfl) ⟨rfl, ?_⟩
      rw [e9, px_z_dec, px_z_f (fun hc => px_z_eq0.mp h hc.1)]
    · rw [hae]
      refine fx_ex1 (ct_Ti_timeOf hq ha) ?_
      refine And.intro (fun h9 => ?_) (fun h9 => ?_)
      · refine And.intro (Or.inl rfl) ⟨rfl, ?_⟩
        rw [← hae, e9, px_z_dec, px_z_f (fun hc => Int32.not_lt.mpr (by rw [← hae]; exact hc.2) h9)]
      · refine And.intro (Or.inr rfl) ⟨rfl, ?_⟩
        rw [← hae, e9, px_z_dec, px_z_t ⟨px_z_ne0.mp h, by rw [hae]; exact Int32.not_lt.mp h9⟩]
  · refine fx_ex1 (ct_Fc_isIn hq _ _) ?_
    have e9 : pf_ho (S 10 k) (S 11 k) (S 12 k) (S 6 2) (S 6 3) (S 6 4) (S 6 5) (S 6 6) (S 26) tr = decide (¬ px_in tr (S 11 k)) := by
      rw [pf_ho, if_neg h0, if_neg h1, if_neg h2, if_neg h3, if_neg h4', if_pos h5]
    refine And.intro (fun h => ?_) (fun h => ?_)
    · refine And.intro (Or.inl rfl) ⟨rfl, ?_⟩
      rw [e9, px_z_dec, px_z_f (fun hc => hc (px_z_ne0.mp h))]
    · refine And.intro (Or.inr rfl) ⟨rfl, ?_⟩
      rw [e9, px_z_dec, px_z_t (px_z_eq0.mp h)]
  · have e9 : pf_ho (S 10 k) (S 11 k) (S 12 k) (S 6 2) (S 6 3) (S 6 4) (S 6 5) (S 6 6) (S 26) tr = decide (px_in tr (S 11 k) ∧ px_in tr (S 12 k)) := by
      rw [pf_ho, if_neg h0, if_neg h1, if_neg h2, if_neg h3, if_neg h4', if_neg h5, if_pos h6]
    refine fx_ex1 (ct_Fc_isIn hq _ _) ?_
    refine And.intro (fun h => ?_) (fun h => ?_)
    · refine And.intro (Or.inl rfl) ⟨rfl, ?_⟩
      rw [e9, px_z_dec, px_z_f (fun hc => px_z_eq0.mp h hc.1)]
    · refine fx_ex1 (ct_Fc_isIn hq _ _) ?_
      refine And.intro (fun h9 => ?_) (fun h9 => ?_)
      · refine And.intro (Or.inl rfl) ⟨rfl, ?_⟩
        rw [e9, px_z_dec, px_z_f (fun hc => px_z_eq0.mp h9 hc.2)]
      · refine And.intro (Or.inr rfl) ⟨rfl, ?_⟩
        rw [e9, px_z_dec, px_z_t ⟨px_z_ne0.mp h, px_z_ne0.mp h9⟩]
  · have e9 : pf_ho (S 10 k) (S 11 k) (S 12 k) (S 6 2) (S 6 3) (S 6 4) (S 6 5) (S 6 6) (S 26) tr = decide (px_in tr (S 11 k) ∨ px_in tr (S 12 k)) := by
      rw [pf_ho, if_neg h0, if_neg h1, if_neg h2, if_neg h3, if_neg h4', if_neg h5, if_neg h6]
    refine fx_ex1 (ct_Fc_isIn hq _ _) ?_
    refine And.intro (fun h => ?_) (fun h => ?_)
    · refine And.intro (Or.inr rfl) ⟨rfl, ?_⟩
      rw [e9, px_z_dec, px_z_t (Or.inl (px_z_ne0.mp h))]
    · refine fx_ex1 (ct_Fc_isIn hq _ _) ?_
      refine And.intro (fun h9 => ?_) (fun h9 => ?_)
      · refine And.intro (Or.inl rfl) ⟨rfl, ?_⟩
        rw [e9, px_z_dec, px_z_f (fun hc => hc.elim (px_z_eq0.mp h) (px_z_eq0.mp h9))]
      · refine And.intro (Or.inr rfl) ⟨rfl, ?_⟩
        rw [e9, px_z_dec, px_z_t (Or.inr (px_z_ne0.mp h9))]
theorem ct_Ex_trueIn (hq : fx_I κ lyX.length) {n : Nat} (hn : S 2 4 = nI n) (hb : n ≤ 24) (h4 : ∀ k, k < n → S 10 k = 4 → ∃ a, a < 8 ∧ S 11 k = nI a) : MC_Ex_trueIn κ [.inr 2, .inr 6] S (fun r S' => S' = S ∧ r = pf_tr (S 10) (S 11) (S 12) (S 6 2) (S 6 3) (S 6 4) (S 6 5) (S 6 6) (S 26) n) := by
  refine mo_Ex_trueIn hq (Nat.le_of_ble_eq_true rfl) ?_
  intro J hT ht
  have loop : ∀ (j k : Nat) (x i : Int32), k + j = n → x = pf_tr (S 10) (S 11) (S 12) (S 6 2) (S 6 3) (S 6 4) (S 6 5) (S 6 6) (S 26) k → i = nI k → J 4 [.inr 2, .inr 6, .inl x, .inl i] [] S := by
    intro j
    induction j with
    | zero =>
      intro k x i hk hx hi
      refine fx_go_ok [] 99 hT ht ?_
      refine And.intro (fun _ => ?_) (fun h => ?_)
      · exact ⟨rfl, by rw [hx, show k = n by omega]⟩
      · exact absurd (by rw [hn, hi]; exact nI_le (by omega) (by omega)) h
    | succ j ih =>
      intro k x i hk hx hi
      subst hi
      refine fx_go_ok [(4, 4)] 99 hT ht ?_
      refine And.intro (fun h => ?_) (fun _ => ?_)
      · exact absurd h (by rw [hn]; exact nI_ge (by omega) (by omega))
      · refine fx_ex1 (ct_Ex_holds hq (by omega) (h4 k (by omega)) x) ?_
        refine And.intro (fun h => ?_) (fun h => ?_)
        · refine ih (k + 1) _ _ (by omega) ?_ (nI_1 k)
          rw [hx] at h
          rw [hx, pf_tr, if_neg (px_z_eq0.mp h)]
        · refine ih (k + 1) _ _ (by omega) ?_ (nI_1 k)
          rw [hx] at h
          rw [hx, pf_tr, if_pos (px_z_ne0.mp h)]
  refine fx_go_ok [(4, 4)] 99 hT ht ?_
  exact loop n 0 _ _ (by omega) rfl rfl
end EXPR
