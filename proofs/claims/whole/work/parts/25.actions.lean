/-! actions -/
def fx_row (S : fx_S) (c : Nat) (f : Nat → Int32) : fx_S := fun a => if a = c then f else S a
theorem fx_row_at (S : fx_S) (c : Nat) (f : Nat → Int32) : fx_row S c f c = f := if_pos rfl
theorem fx_row_ne (S : fx_S) {c a : Nat} (f : Nat → Int32) (h : a ≠ c) : fx_row S c f a = S a := if_neg h
theorem fx_row_up (S : fx_S) (c : Nat) (f : Nat → Int32) (i : Nat) (x : Int32) : fx_up (fx_row S c f) c i x = fx_row S c (upd f i x) := by
  funext a j
  by_cases h : a = c
  · subst h; simp [fx_up, fx_row, upd]
  · simp [fx_up, fx_row, h]
theorem fx_row_self (S : fx_S) (c : Nat) : fx_row S c (S c) = S := by
  funext a
  by_cases h : a = c
  · subst h; exact fx_row_at S a _
  · exact fx_row_ne S _ h
/-- the ages of the first k actions, grown -/
def pf_gr (ag : Nat → Int32) (st dt : Int32) (k : Nat) : Nat → Int32 := fun j => if j < k ∧ px_in st (nI j) then ag j + dt else ag j
/-- the variables that are reset -/
def pf_rs (ow qu va : Nat → Int32) (si : Int32) : Nat → Int32
  | 0 => 0
  | k + 1 => if qu k = 1 ∧ px_in si (ow k) then pf_rs ow qu va si k ||| (1 <<< (va k &&& 31)) else pf_rs ow qu va si k
def pf_sa (qu du tm : Int32) : Bool := if qu = 2 ∨ qu = 7 ∨ qu = 9 then true else if qu = 8 then decide (du ≤ tm) else false
/-- the stored set and the ages behind one action's turn -/
def pf_sto (k : Nat) (qu du : Int32) (re is : Prop) [Decidable re] [Decidable is] (tm : Int32) (a : Int32 × (Nat → Int32)) : Int32 × (Nat → Int32) :=
  if re then (a.1 &&& (px_b k ^^^ (-1)), a.2) else if is ∧ ¬ px_in a.1 (nI k) ∧ pf_sa qu du tm = true then (a.1 ||| px_b k, upd a.2 k 0) else a
def pf_on (qu du ag : Int32) (ke is was : Prop) [Decidable ke] [Decidable is] [Decidable was] (tm : Int32) : Bool :=
  if qu = 0 then decide is else if qu = 2 ∨ qu = 8 then decide ke else if qu = 3 then decide (is ∧ tm < du) else if qu = 4 then decide (is ∧ du ≤ tm) else if qu = 5 then decide (is ∧ ¬ was) else if qu = 6 then decide (was ∧ ¬ is) else if qu = 7 then decide (ke ∧ du ≤ ag) else if qu = 9 then decide (ke ∧ ag < du) else false
/-- stored set and ages, and the variables that are on, behind the first k actions -/
def pf_act (ow qu va du : Nat → Int32) (si sb re : Int32) (tm : Nat → Int32) (a : Int32 × (Nat → Int32)) : Nat → (Int32 × (Nat → Int32)) × Int32
  | 0 => (a, 0)
  | k + 1 =>
    let b := pf_sto k (qu k) (du k) (px_in re (va k)) (px_in si (ow k)) (tm (ow k).toNatClampNeg) (pf_act ow qu va du si sb re tm a k).1
    (b, if pf_on (qu k) (du k) (b.2 k) (px_in b.1 (nI k)) (px_in si (ow k)) (px_in sb (ow k)) (tm (ow k).toNatClampNeg) = true then (pf_act ow qu va du si sb re tm a k).2 ||| (1 <<< (va k &&& 31)) else (pf_act ow qu va du si sb re tm a k).2)
section ACTIONS
variable {κ : fx_K} {S : fx_S}
theorem ct_Ac_isQualifier (hq : fx_I κ lyX.length) (a : Int32) : MC_Ac_isQualifier κ [.inl a] S (fun r S' => S' = S ∧ r = px_z (0 ≤ a ∧ a ≤ 9)) := by
  refine mo_Ac_isQualifier hq (Nat.le_of_ble_eq_true rfl) ?_
  intro J hT ht
  refine fx_go_ok [] 99 hT ht ?_
  refine And.intro (fun h => ?_) (fun h => And.intro (fun h2 => ?_) (fun h2 => ?_))
  · exact And.intro (Or.inl rfl) ⟨rfl, (px_z_f (fun hn => Int32.not_lt.mpr hn.1 h)).symm⟩
  · exact And.intro (Or.inl rfl) ⟨rfl, (px_z_f (fun hn => Int32.not_lt.mpr hn.2 h2)).symm⟩
  · exact And.intro (Or.inr rfl) ⟨rfl, (px_z_t ⟨Int32.not_lt.mp h, Int32.not_lt.mp h2⟩).symm⟩
theorem ct_Ac_add (hq : fx_I κ lyX.length) {n : Nat} (hn : S 5 5 = nI n) (hb : n < 12) (a b c d : Int32) : MC_Ac_add κ [.inr 5, .inl a, .inl b, .inl c, .inl d] S (fun r S' => r = nI n ∧ S' = fx_up (fx_up (fx_up (fx_up (fx_up S 5 5 (nI (n + 1))) 21 n a) 22 n b) 23 n c) 24 n d) := by
  refine mo_Ac_add hq (Nat.le_of_ble_eq_true rfl) ?_
  intro J hT ht
  have e : (nI n).toNatClampNeg = n := nI_clamp (by omega)
  have hv : vp_in (nI n) 12 := vp_in_nI (by omega) (by omega)
  refine fx_go_ok [] 99 hT ht ?_
  refine And.intro (by rw [hn]; exact hv) ?_
  refine And.intro (by rw [hn]; exact hv) ?_
  refine And.intro (by rw [hn]; exact hv) ?_
  refine And.intro (by rw [hn]; exact hv) ?_
  refine ⟨hn, ?_⟩
  rw [hn, e, nI_1]
theorem ct_Ac_isStored (hq : fx_I κ lyX.length) (a : Int32) : MC_Ac_isStored κ [.inr 5, .inl a] S (fun r S' => S' = S ∧ r = px_z (0 ≤ a ∧ a < S 5 5 ∧ px_in (S 5 6) a)) := by
  refine mo_Ac_isStored hq (Nat.le_of_ble_eq_true rfl) ?_
  intro J hT ht
  refine fx_go_ok [] 99 hT ht ?_
  refine And.intro (fun h => ?_) (fun h => And.intro (fun h2 => ?_) (fun h2 => ?_))
  · exact And.intro (Or.inl rfl) ⟨rfl, (px_z_f (fun hn => Int32.not_lt.mpr hn.1 h)).symm⟩
  · exact And.intro (Or.inl rfl) ⟨rfl, (px_z_f (fun hn => Int32.not_lt.mpr h2 hn.2.1)).symm⟩
  · refine fx_ex1 (ct_Fc_isIn hq _ _) ?_
    refine And.intro (fun h3 => ?_) (fun h3 => ?_)
    · exact And.intro (Or.inl rfl) ⟨rfl, (px_z_f (fun hn => px_z_eq0.mp h3 hn.2.2)).symm⟩
    · exact And.intro (Or.inr rfl) ⟨rfl, (px_z_t ⟨Int32.not_lt.mp h, Int32.not_le.mp h2, px_z_ne0.mp h3⟩).symm⟩
theorem ct_Ac_forgetStored (hq : fx_I κ lyX.length) : MC_Ac_forgetStored κ [.inr 5] S (fun _ S' => S' = fx_up S 5 6 0) := by
  refine mo_Ac_forgetStored hq (Nat.le_of_ble_eq_true rfl) ?_
  intro J hT ht
  refine fx_go_ok [] 99 hT ht ?_
  exact (rfl : _ = _)
theorem ct_Ac_grow (hq : fx_I κ lyX.length) {n : Nat} (hn : S 5 5 = nI n) (hb : n ≤ 12) (dt : Int32) : MC_Ac_grow κ [.inr 5, .inl dt] S (fun _ S' => S' = fx_row S 25 (pf_gr (S 25) (S 5 6) dt n)) := by
  refine mo_Ac_grow hq (Nat.le_of_ble_eq_true rfl) ?_
  intro J hT ht
  have loop : ∀ (j k : Nat) (i : Int32) (U : fx_S), k + j = n → i = nI k → U = fx_row S 25 (pf_gr (S 25) (S 5 6) dt k) → J 2 [.inr 5, .inl dt, .inl i] [] U := by
    intro j
    induction j with
    | zero =>
      intro k i U hk hi hU
      have hk : k = n := by omega
      subst hk; subst hi; subst hU
      refine fx_go_ok [] 99 hT ht ?_
      refine And.intro (fun _ => ?_) (fun h => ?_)
      · exact (rfl : _ = _)
      · exact absurd (show S 5 5 ≤ nI k by rw [hn]; exact nI_le (by omega) (by omega)) h
    | succ j ih =>
      intro k i U hk hi hU
      subst hi; subst hU
      have e : (nI k).toNatClampNeg = k := nI_clamp (by omega)
      have hv : vp_in (nI k) 12 := vp_in_nI (by omega) (by omega)
      have g0 : pf_gr (S 25) (S 5 6) dt k k = S 25 k := by
        unfold pf_gr; rw [if_neg (fun h => absurd h.1 (by omega))]
      refine fx_go_ok [(2, 3)] 99 hT ht ?_
      refine And.intro (fun h => ?_) (fun _ => ?_)
      · exact absurd (show S 5 5 ≤ nI k from h) (by rw [hn]; exact nI_ge (by omega) (by omega))
      · refine fx_ex1 (ct_Fc_isIn hq _ _) ?_
        refine And.intro (fun h => ?_) (fun h => ?_)
        · have h : ¬ px_in (S 5 6) (nI k) := px_z_eq0.mp h
          refine ih (k + 1) _ _ (by omega) (nI_1 k) ?_
          congr 1
          funext j
          unfold pf_gr
          by_cases hjk : j = k
          · subst hjk
            rw [if_neg (fun hc => absurd hc.1 (by omega)), if_neg (fun hc => h hc.2)]
          · by_cases hc : j < k ∧ px_in (S 5 6) (nI j)
            · rw [if_pos hc, if_pos ⟨by omega, hc.2⟩]
            · rw [if_neg hc, if_neg (fun h9 => hc ⟨by omega, h9.2⟩)]
        · have h : px_in (S 5 6) (nI k) := px_z_ne0.mp h
          refine And.intro hv (And.intro hv ?_)
          refine ih (k + 1) _ _ (by omega) (nI_1 k) ?_
          rw [e, fx_row_at, g0, fx_row_up]
          congr 1
          funext j
          unfold upd pf_gr
          by_cases hjk : j = k
          · subst hjk
            rw [if_pos rfl, if_pos ⟨by omega, h⟩]
          · rw [if_neg hjk]
            by_cases hc : j < k ∧ px_in (S 5 6) (nI j)
            · rw [if_pos hc, if_pos ⟨by omega, hc.2⟩]
            · rw [if_neg hc, if_neg (fun h9 => hc ⟨by omega, h9.2⟩)]
  refine fx_go_ok [(2, 3)] 99 hT ht ?_
  refine loop n 0 _ _ (by omega) rfl ?_
  have : pf_gr (S 25) (S 5 6) dt 0 = S 25 := by
    funext j; unfold pf_gr; rw [if_neg (fun h => absurd h.1 (by omega))]
  rw [this, fx_row_self]
theorem ct_Ac_resetVariables (hq : fx_I κ lyX.length) {n : Nat} (hn : S 5 5 = nI n) (hb : n ≤ 12) (si : Int32) : MC_Ac_resetVariables κ [.inr 5, .inl si] S (fun r S' => S' = S ∧ r = pf_rs (S 21) (S 22) (S 23) si n) := by
  refine mo_Ac_resetVariables hq (Nat.le_of_ble_eq_true rfl) ?_
  intro J hT ht
  have loop : ∀ (j k : Nat) (x i : Int32), k + j = n → x = pf_rs (S 21) (S 22) (S 23) si k → i = nI k → J 4 [.inr 5, .inl si, .inl x, .inl i] [] S := by
    intro j
    induction j with
    | zero =>
      intro k x i hk hx hi
      refine fx_go_ok [] 99 hT ht ?_
      refine And.intro (fun _ => ?_) (fun h => ?_)
      · exact ⟨rfl, by rw [hx, show k = n by omega]⟩
      · exact absurd (by rw [hn, hi]; exact nI_le (by omega) (by omega)) h
    | succ j ih =>
      intro k x i hk hx hi
      subst hi
      have e : (nI k).toNatClampNeg = k := nI_clamp (by omega)
      have hv : vp_in (nI k) 12 := vp_in_nI (by omega) (by omega)
      refine fx_go_ok [(4, 4)] 99 hT ht ?_
      refine And.intro (fun h => ?_) (fun _ => ?_)
      · exact absurd h (by rw [hn]; exact nI_ge (by omega) (by omega))
      · refine And.intro hv (And.intro (fun h => ?_) (fun h => ?_))
        · refine ih (k + 1) _ _ (by omega) ?_ (nI_1 k)
          rw [e] at h
          rw [hx, pf_rs, if_neg (fun hc => h hc.1)]
        · refine And.intro hv ?_
          refine fx_ex1 (ct_Fc_isIn hq _ _) ?_
          rw [e] at h ⊢
          refine And.intro (fun h2 => ?_) (fun h2 => ?_)
          · refine ih (k + 1) _ _ (by omega) ?_ (nI_1 k)
            rw [hx, pf_rs, if_neg (fun hc => px_z_eq0.mp h2 hc.2)]
          · refine And.intro hv ?_
            refine ih (k + 1) _ _ (by omega) ?_ (nI_1 k)
            rw [hx, e, pf_rs, if_pos ⟨h, px_z_ne0.mp h2⟩]
  refine fx_go_ok [(4, 4)] 99 hT ht ?_
  exact loop n 0 _ _ (by omega) rfl rfl
end ACTIONS
