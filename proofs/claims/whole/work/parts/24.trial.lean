/-- the steps of si whose time is not 0 -/
def pf_tmd (si : Int32) (tb : Nat → Int32) : Nat → Int32
  | 0 => 0
  | k + 1 => if px_in si (nI k) ∧ ¬ tb k = 0 then pf_tmd si tb k ||| px_b k else pf_tmd si tb k
theorem fx_up_at (S : fx_S) (k i : Nat) (x : Int32) : fx_up S k i x k i = x := by simp [fx_up]
theorem fx_up_ne1 (S : fx_S) {k a : Nat} (i : Nat) (x : Int32) (j : Nat) (h : a ≠ k) : fx_up S k i x a j = S a j := by simp [fx_up, h]
theorem fx_up_ne2 (S : fx_S) (k : Nat) {i j : Nat} (x : Int32) (h : j ≠ i) : fx_up S k i x k j = S k j := by simp [fx_up, h]
section TRIAL2
variable {κ : fx_K} {S : fx_S}
/-- what begin leaves -/
def pf_beg (S : fx_S) (si dt : Int32) (S' : fx_S) : Prop := S' 6 5 = si ∧ S' 6 6 = pf_tmd si (fun k => S 7 k + dt) 8 ∧ S' 6 7 = 0 ∧ S' 6 8 = 0 ∧ S' 6 9 = 0 ∧ S' 6 10 = 0 ∧ (∀ k, k < 8 → S' 26 k = S 7 k + dt) ∧ (∀ a, a ≠ 6 → a ≠ 26 → S' a = S a) ∧ ∀ i, i < 5 → S' 6 i = S 6 i
theorem ct_Ti_begin (hq : fx_I κ lyX.length) (si dt : Int32) : MC_Ti_begin κ [.inr 6, .inl si, .inr 7, .inl dt] S (fun r S' => pf_beg S si dt S') := by
  refine mo_Ti_begin hq (Nat.le_of_ble_eq_true rfl) ?_
  intro J hT ht
  have loop : ∀ (j k : Nat) (i : Int32) (U : fx_S), k + j = 8 → i = nI k → (U 6 5 = si ∧ U 6 6 = pf_tmd si (fun k => S 7 k + dt) k ∧ (∀ b, b < k → U 26 b = S 7 b + dt) ∧ (∀ a, a ≠ 6 → a ≠ 26 → U a = S a) ∧ ∀ i, i < 5 → U 6 i = S 6 i) → J 13 [.inr 6, .inl si, .inr 7, .inl dt, .inl i] [] U := by
    intro j
    induction j with
    | zero =>
      intro k i U hk hi hU
      obtain ⟨u1, u2, u3, u4, u5⟩ := hU
      have hk : k = 8 := by omega
      subst hk
      subst hi
      refine fx_go_ok [] 99 hT ht ?_
      refine And.intro (fun _ => ?_) (fun h => absurd (by decide) h)
      refine ⟨?_, ?_, ?_, ?_, ?_, ?_, ?_, ?_, ?_⟩
      · exact u1
      · exact u2
      · rfl
      · rfl
      · rfl
      · rfl
      · exact u3
      · intro a h6 h26
        rw [fx_up_ne _ _ _ h6, fx_up_ne _ _ _ h6, fx_up_ne _ _ _ h6, fx_up_ne _ _ _ h6]
        exact u4 a h6 h26
      · intro b hb
        rw [fx_up_ne2 _ _ _ (by omega), fx_up_ne2 _ _ _ (by omega), fx_up_ne2 _ _ _ (by omega), fx_up_ne2 _ _ _ (by omega)]
        exact u5 b hb
    | succ j ih =>
      intro k i U hk hi hU
      obtain ⟨u1, u2, u3, u4, u5⟩ := hU
      subst hi
      have e : (nI k).toNatClampNeg = k := nI_clamp (by omega)
      have hv : vp_in (nI k) 8 := vp_in_nI (by omega) (by omega)
      have h7 : U 7 k = S 7 k := by rw [u4 7 (by decide) (by decide)]
      have key : ∀ t : Int32, t = pf_tmd si (fun k => S 7 k + dt) (k + 1) → ∀ V : fx_S, V = fx_up (fx_up U 26 k (U 7 k + dt)) 6 6 t → (V 6 5 = si ∧ V 6 6 = pf_tmd si (fun k => S 7 k + dt) (k + 1) ∧ (∀ b, b < k + 1 → V 26 b = S 7 b + dt) ∧ (∀ a, a ≠ 6 → a ≠ 26 → V a = S a) ∧ ∀ i, i < 5 → V 6 i = S 6 i) := by
        intro t ht V hV
        subst hV
        refine ⟨u1, ht, ?_, ?_, ?_⟩
        · intro b hb
          rw [fx_up_ne1 _ _ _ _ (by decide)]
          by_cases hbk : b = k
          · subst hbk; rw [fx_up_at, h7]
          · rw [fx_up_ne2 _ _ _ hbk]; exact u3 b (by omega)
        · intro a h6 h26
          rw [fx_up_ne _ _ _ h6, fx_up_ne _ _ _ h26]
          exact u4 a h6 h26
        · intro b hb
          rw [fx_up_ne2 _ _ _ (by omega), fx_up_ne1 _ _ _ _ (by decide)]
          exact u5 b hb
      have same : pf_tmd si (fun k => S 7 k + dt) k = pf_tmd si (fun k => S 7 k + dt) (k + 1) → (let V := fx_up U 26 k (U 7 k + dt); V 6 5 = si ∧ V 6 6 = pf_tmd si (fun k => S 7 k + dt) (k + 1) ∧ (∀ b, b < k + 1 → V 26 b = S 7 b + dt) ∧ (∀ a, a ≠ 6 → a ≠ 26 → V a = S a) ∧ ∀ i, i < 5 → V 6 i = S 6 i) := by
        intro h9
        refine key _ (by rw [← h9]) _ ?_
        funext a b
        by_cases ha : a = 6
        · subst ha
          by_cases hb : b = 6
          · subst hb
            rw [fx_up_at, fx_up_ne1 _ _ _ _ (by decide)]; exact u2
          · rw [fx_up_ne2 _ _ _ hb]
        · rw [fx_up_ne _ _ _ ha]
      refine fx_go_ok [(13, 5)] 99 hT ht ?_
      refine And.intro (fun h => ?_) (fun _ => ?_)
      · exact absurd (show nI 8 ≤ nI k from h) (nI_ge (by omega) (by omega))
      · refine And.intro hv (And.intro hv ?_)
        refine fx_ex1 (ct_Fc_isIn hq _ _) ?_
        rw [e]
        refine And.intro (fun h => ?_) (fun h => ?_)
        · have h : ¬ px_in (U 6 5) (nI k) := px_z_eq0.mp h
          rw [u1] at h
          refine ih (k + 1) _ _ (by omega) (nI_1 k) (same ?_)
          rw [pf_tmd, if_neg (fun hc => h hc.1)]
        · have h : px_in (U 6 5) (nI k) := px_z_ne0.mp h
          rw [u1] at h
          refine And.intro hv ?_
          rw [e]
          refine And.intro (fun h2 => ?_) (fun h2 => ?_)
          · have h2 : fx_up U 26 k (U 7 k + dt) 26 k = 0 := h2
            rw [fx_up_at, h7] at h2
            refine ih (k + 1) _ _ (by omega) (nI_1 k) (same ?_)
            rw [pf_tmd, if_neg (fun hc => hc.2 h2)]
          · have h2 : ¬ fx_up U 26 k (U 7 k + dt) 26 k = 0 := h2
            rw [fx_up_at, h7] at h2
            refine ih (k + 1) _ _ (by omega) (nI_1 k) (key _ ?_ _ rfl)
            rw [pf_tmd, if_pos ⟨h, h2⟩, ← u2]
            rfl
  refine fx_go_ok [(13, 5)] 99 hT ht ?_
  refine loop 8 0 _ _ rfl rfl ⟨rfl, rfl, fun b hb => absurd hb (by omega), ?_, ?_⟩
  · intro a h6 h26
    rw [fx_up_ne _ _ _ h6, fx_up_ne _ _ _ h6]
  · intro b hb
    rw [fx_up_ne2 _ _ _ (by omega), fx_up_ne2 _ _ _ (by omega)]
/-- the number of the state that the trial is in -/
abbrev pf_st (si ti : Int32) : Int32 := si ||| ti <<< ((8 : Int32) &&& 31)
theorem ct_Ti_findsCycle (hq : fx_I κ lyX.length) {m : Nat} (hm : S 6 8 = nI m) (h1 : 1 ≤ m) (hb : m ≤ 512) : MC_Ti_findsCycle κ [.inr 6] S (fun r S' => (∃ d, 1 ≤ d ∧ d < m ∧ S 27 d = pf_st (S 6 5) (S 6 6) ∧ (∀ b, 1 ≤ b → b < d → S 27 b ≠ pf_st (S 6 5) (S 6 6)) ∧ r = 1 ∧ S' = fx_up (fx_up S 6 9 (nI d)) 6 10 (nI (m - d))) ∨ ((∀ b, 1 ≤ b → b < m → S 27 b ≠ pf_st (S 6 5) (S 6 6)) ∧ r = 0 ∧ S' = fx_up S 27 m (pf_st (S 6 5) (S 6 6)))) := by
  refine mo_Ti_findsCycle hq (Nat.le_of_ble_eq_true rfl) ?_
  intro J hT ht
  have loop : ∀ (j k : Nat) (x i : Int32), k + j = m → 1 ≤ k → i = nI k → x = pf_st (S 6 5) (S 6 6) → (∀ b, 1 ≤ b → b < k → S 27 b ≠ pf_st (S 6 5) (S 6 6)) → J 15 [.inr 6, .inl x, .inl i] [] S := by
    intro j
    induction j with
    | zero =>
      intro k x i hk hk1 hi hx hne
      have hk : k = m := by omega
      subst hk
      subst hi
      refine fx_go_ok [] 99 hT ht ?_
      refine And.intro (fun _ => ?_) (fun h => absurd (by rw [hm]; exact nI_le (by omega) (by omega)) h)
      refine And.intro (by rw [hm]; exact vp_in_nI (by omega) (by omega)) ?_
      refine And.intro (Or.inl rfl) (Or.inr ⟨hne, rfl, ?_⟩)
      rw [hm, nI_clamp (by omega), hx]
    | succ j ih =>
      intro k x i hk hk1 hi hx hne
      subst hi
      have e : (nI k).toNatClampNeg = k := nI_clamp (by omega)
      refine fx_go_ok [(15, 3)] 99 hT ht ?_
      refine And.intro (fun h => absurd h (by rw [hm]; exact nI_ge (by omega) (by omega))) (fun _ => ?_)
      refine And.intro (vp_in_nI (by omega) (by omega)) (And.intro (fun h => ?_) (fun h => ?_))
      · rw [e, hx] at h
        refine ih (k + 1) _ _ (by omega) (by omega) (nI_1 k) hx (fun b h2 h3 => ?_)
        by_cases hbk : b = k
        · subst hbk; exact h
        · exact hne b h2 (by omega)
      · rw [e, hx] at h
        refine And.intro (Or.inr rfl) (Or.inl ⟨k, hk1, by omega, h, hne, rfl, ?_⟩)
        rw [← pk_sub (by omega), ← hm]
        rfl
  refine fx_go_ok [(15, 3)] 99 hT ht ?_
  exact loop (m - 1) 1 _ _ (by omega) (by omega) rfl rfl (fun b h2 h3 => absurd h3 (by omega))
end TRIAL2
