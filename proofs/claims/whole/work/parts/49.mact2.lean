/-! the reference: act, scan -/
/-- kept and age of the reference are the stored set and the ages -/
def pm_rel (st : Int32) (ag kp gg : Nat → Int32) : Prop := ∀ j, j < 12 → kp j = px_z (bt st j = true) ∧ (bt st j = true → ag j = gg j)
abbrev pm_re (S : fx_S) (n : Nat) : Int32 := pf_rs (S 14) (S 15) (S 16) (S 0 26) n
abbrev pm_A (S : fx_S) (st : Int32) (ag : Nat → Int32) (dt : Int32) (n k : Nat) : (Int32 × (Nat → Int32)) × Int32 := pf_act (S 14) (S 15) (S 16) (S 17) (S 0 26) (S 0 28) (pm_re S n) (S 20) (st, pf_gr ag st dt n) k
theorem or_and_in {x y r : Int32} {u : Nat} (hu : u < 8) (h : bt r u = true) (hy : y = 1 <<< (nI u &&& 31)) : (x ||| y) &&& (r ^^^ (-1)) = x &&& (r ^^^ (-1)) := by
  apply b_ext
  intro i hi
  rw [b_and, b_and, b_or, hy, px_b_bt (by omega) hi, px_not_bt hi]
  by_cases hiu : i = u
  · subst hiu; rw [h]; simp
  · rw [decide_eq_false hiu, Bool.or_false]
theorem or_and_out {x y r : Int32} {u : Nat} (hu : u < 8) (h : ¬ bt r u = true) (hy : y = 1 <<< (nI u &&& 31)) : (x ||| y) &&& (r ^^^ (-1)) = (x &&& (r ^^^ (-1))) ||| y := by
  apply b_ext
  intro i hi
  rw [b_and, b_or, b_or, b_and, hy, px_b_bt (by omega) hi, px_not_bt hi]
  by_cases hiu : i = u
  · subst hiu
    rw [Bool.not_eq_true] at h
    rw [h]; simp
  · rw [decide_eq_false hiu, Bool.or_false, Bool.or_false]
section MDI
variable {κ : fx_K} {S : fx_S}
theorem ct_Md_act (hq : fx_I κ lyM.length) {n : Nat} (hn : S 0 17 = nI n) (hb : n ≤ 12) (how : ∀ k, k < n → ∃ o, o < 8 ∧ S 14 k = nI o) (hva : ∀ k, k < n → ∃ u, u < 8 ∧ S 16 k = nI u) {st : Int32} {ag : Nat → Int32} (hrel : pm_rel st ag (S 18) (S 19)) (dt : Int32) : MC_Md_act κ [.inr 0, .inl dt] S (fun _ S' => S' 0 30 = (pm_A S st ag dt n n).2 &&& (pm_re S n ^^^ (-1)) ∧ pm_rel (pm_A S st ag dt n n).1.1 (pm_A S st ag dt n n).1.2 (S' 18) (S' 19) ∧ (∀ j, j ≠ 30 → S' 0 j = S 0 j) ∧ ∀ b, b ≠ 0 → b ≠ 18 → b ≠ 19 → S' b = S b) := by
  refine mo_Md_act hq (Nat.le_of_ble_eq_true rfl) ?_
  intro J hT ht
  have loop : ∀ (j k : Nat) (i : Int32) (U : fx_S), k + j = n → i = nI k → U 0 30 = (pm_A S st ag dt n k).2 &&& (pm_re S n ^^^ (-1)) → (∀ j, j < 12 → U 18 j = px_z (bt (pm_A S st ag dt n k).1.1 j = true)) → (∀ j, j < k → bt (pm_A S st ag dt n k).1.1 j = true → (pm_A S st ag dt n k).1.2 j = U 19 j) → (∀ j, k ≤ j → U 19 j = S 19 j) → (∀ j, j ≠ 30 → U 0 j = S 0 j) → (∀ b, b ≠ 0 → b ≠ 18 → b ≠ 19 → U b = S b) → J 7 [.inr 0, .inl dt, .inl i] [] U := by
    intro j
    induction j with
    | zero =>
      intro k i U hk hi u30 u18 u19 u19' u0 ub
      have hk : k = n := by omega
      subst hk; subst hi
      refine fx_go_ok [] 99 hT ht ?_
      refine And.intro (fun _ => ?_) (fun h => absurd (show U 0 17 ≤ nI k by rw [u0 17 (by decide), hn]; exact nI_le (by omega) (by omega)) h)
      refine ⟨u30, fun j hj => ⟨u18 j hj, fun hbit => ?_⟩, u0, ub⟩
      by_cases hjk : j < k
      · exact u19 j hjk hbit
      · have hi := pf_act_hi (S 14) (S 15) (S 16) (S 17) (S 0 26) (S 0 28) (pm_re S k) (S 20) (st, pf_gr ag st dt k) k (by omega) j (by omega) (by omega)
        rw [hi.1] at hbit
        rw [u19' j (by omega), hi.2]
        show pf_gr ag st dt k j = _
        unfold pf_gr
        rw [if_neg (fun q => hjk q.1)]
        exact (hrel j hj).2 hbit
    | succ j ih =>
      intro k i U hk hi u30 u18 u19 u19' u0 ub
      subst hi
      have e : (nI k).toNatClampNeg = k := nI_clamp (by omega)
      have hv : vp_in (nI k) 12 := vp_in_nI (by omega) (by omega)
      obtain ⟨o, ho, eo⟩ := how k (by omega)
      obtain ⟨u, hu, eu⟩ := hva k (by omega)
      have eo2 : (nI o).toNatClampNeg = o := nI_clamp (by omega)
      have hhi := pf_act_hi (S 14) (S 15) (S 16) (S 17) (S 0 26) (S 0 28) (pm_re S n) (S 20) (st, pf_gr ag st dt n) k (by omega) k (by omega) (by omega)
      have k18 : U 18 k = px_z (bt st k = true) := by rw [u18 k (by omega)]; exact px_z_congr (by rw [hhi.1])
      have k19 : U 19 k = S 19 k := u19' k (by omega)
      -- the rest of the turn, with the age that was found
      have mid : ∀ v : Int32, (bt st k = true → v = pf_gr ag st dt n k) → (¬ bt st k = true → v = 0) → J 42 [.inr 0, .inl dt, .inl (nI k)] [] (fx_up U 19 k v) := by
        intro v hv1 hv0
        generalize hX : fx_up U 19 k v = X
        have xb : ∀ b, b ≠ 19 → X b = U b := fun b h => by rw [← hX, fx_up_ne _ _ _ h]
        have x19 : X 19 k = v := by rw [← hX, fx_up_at]
        have x19' : ∀ j, j ≠ k → X 19 j = U 19 j := fun j h => by rw [← hX, fx_up_ne2 _ _ _ h]
        have xS : ∀ b, b ≠ 0 → b ≠ 18 → b ≠ 19 → X b = S b := fun b h1 h2 h3 => (xb b h3).trans (ub b h1 h2 h3)
        have x0 : ∀ j, j ≠ 30 → X 0 j = S 0 j := fun j h => by rw [xb 0 (by decide)]; exact u0 j h
        have r14 : X 14 = S 14 := xS 14 (by decide) (by decide) (by decide)
        have r15 : X 15 = S 15 := xS 15 (by decide) (by decide) (by decide)
        have r16 : X 16 = S 16 := xS 16 (by decide) (by decide) (by decide)
        have r17 : X 17 = S 17 := xS 17 (by decide) (by decide) (by decide)
        have r20 : X 20 = S 20 := xS 20 (by decide) (by decide) (by decide)
        have r26 : X 0 26 = S 0 26 := x0 26 (by decide)
        refine fx_go_ok [(7, 3)] 150 hT ht ?_
        refine And.intro hv ?_
        rw [e, r16, eu]
        refine fx_ex1 (ct_Md_reset hq (n := n) (by rw [x0 17 (by decide)]; exact hn) hb (by rw [r16]; exact hva) hu) ?_
        rw [r14, r15, r16, r26]
        have hst := ct_Md_store hq (S := X) (k := k) (o := o) (by omega) ho (by rw [r14]; exact eo) (bt (pm_re S n) u = true) (bt st k = true) (by rw [xb 18 (by decide)]; exact k18) (fun h => by rw [x19]; exact hv0 h)
        rw [r26, r15, r17, r20] at hst
        refine fx_ex _ hst ?_
        intro r1 V hV
        obtain ⟨v18, v18', vb⟩ := hV
        have vS : ∀ b, b ≠ 0 → b ≠ 18 → b ≠ 19 → V b = S b := fun b h1 h2 h3 => (vb b h2).trans (xS b h1 h2 h3)
        have v0 : V 0 = X 0 := vb 0 (by decide)
        have v19 : V 19 = X 19 := vb 19 (by decide)
        have w26 : V 0 26 = S 0 26 := by rw [v0]; exact r26
        have w28 : V 0 28 = S 0 28 := by rw [v0]; exact x0 28 (by decide)
        have w30 : V 0 30 = (pm_A S st ag dt n k).2 &&& (pm_re S n ^^^ (-1)) := by rw [v0, xb 0 (by decide)]; exact u30
        -- the other side's turn
        have hA1 : (pm_A S st ag dt n (k + 1)).1 = pf_sto k (S 15 k) (S 17 k) (px_in (pm_re S n) (nI u)) (px_in (S 0 26) (nI o)) (S 20 o) (pm_A S st ag dt n k).1 := by
          show pf_sto k (S 15 k) (S 17 k) (px_in (pm_re S n) (S 16 k)) (px_in (S 0 26) (S 14 k)) (S 20 (S 14 k).toNatClampNeg) (pm_A S st ag dt n k).1 = _
          simp only [eu, eo, eo2]
        have hA2 : (pm_A S st ag dt n (k + 1)).2 = if pf_on (S 15 k) (S 17 k) ((pm_A S st ag dt n (k + 1)).1.2 k) (px_in (pm_A S st ag dt n (k + 1)).1.1 (nI k)) (px_in (S 0 26) (nI o)) (px_in (S 0 28) (nI o)) (S 20 o) = true then (pm_A S st ag dt n k).2 ||| (1 <<< (nI u &&& 31)) else (pm_A S st ag dt n k).2 := by
          rw [hA1]
          show (if pf_on (S 15 k) (S 17 k) ((pf_sto k (S 15 k) (S 17 k) (px_in (pm_re S n) (S 16 k)) (px_in (S 0 26) (S 14 k)) (S 20 (S 14 k).toNatClampNeg) (pm_A S st ag dt n k).1).2 k) (px_in (pf_sto k (S 15 k) (S 17 k) (px_in (pm_re S n) (S 16 k)) (px_in (S 0 26) (S 14 k)) (S 20 (S 14 k).toNatClampNeg) (pm_A S st ag dt n k).1).1 (nI k)) (px_in (S 0 26) (S 14 k)) (px_in (S 0 28) (S 14 k)) (S 20 (S 14 k).toNatClampNeg) = true then (pm_A S st ag dt n k).2 ||| (1 <<< (S 16 k &&& 31)) else (pm_A S st ag dt n k).2) = _
          simp only [eu, eo, eo2]
        have sat := pf_sto_at (k := k) (by omega) (qu := S 15 k) (du := S 17 k) (re := px_in (pm_re S n) (nI u)) (is := px_in (S 0 26) (nI o)) (tm := S 20 o) (a := (pm_A S st ag dt n k).1)
        rw [← hA1, hhi.1, px_in_bt (show u < 32 by omega)] at sat
        have V18k : V 18 k = px_z (bt (pm_A S st ag dt n (k + 1)).1.1 k = true) := by
          rw [v18]; exact px_z_congr sat.1.symm
        have agek : bt (pm_A S st ag dt n (k + 1)).1.1 k = true → (pm_A S st ag dt n (k + 1)).1.2 k = V 19 k := by
          intro hbit
          rw [sat.2 hbit, v19, x19]
          by_cases hs : bt st k = true
          · rw [if_pos hs, hv1 hs]; exact hhi.2
          · rw [if_neg hs, hv0 hs]
        have oth : ∀ j, j < 12 → j ≠ k → bt (pm_A S st ag dt n (k + 1)).1.1 j = bt (pm_A S st ag dt n k).1.1 j ∧ (pm_A S st ag dt n (k + 1)).1.2 j = (pm_A S st ag dt n k).1.2 j := by
          intro j hj hjk
          rw [hA1]
          exact pf_sto_ne (by omega) (by omega) hjk
        have fin : ∀ x : Int32, x = (pm_A S st ag dt n (k + 1)).2 &&& (pm_re S n ^^^ (-1)) → J 7 [.inr 0, .inl dt, .inl (nI k + 1)] [] (fx_up V 0 30 x) := by
          intro x hx
          refine ih (k + 1) _ _ (by omega) (nI_1 k) ?_ ?_ ?_ ?_ ?_ ?_
          · rw [fx_up_at]; exact hx
          · intro j hj
            rw [fx_up_ne _ _ _ (by decide)]
            by_cases hjk : j = k
            · subst hjk; exact V18k
            · rw [v18' j hjk, xb 18 (by decide), u18 j hj]
              exact px_z_congr (by rw [(oth j hj hjk).1])
          · intro j hj hbit
            rw [fx_up_ne _ _ _ (by decide)]
            by_cases hjk : j = k
            · subst hjk; exact agek hbit
            · rw [(oth j (by omega) hjk).1] at hbit
              rw [(oth j (by omega) hjk).2, v19, x19' j hjk]
              exact u19 j (by omega) hbit
          · intro j hj
            rw [fx_up_ne _ _ _ (by decide), v19, x19' j (by omega)]
            exact u19' j (by omega)
          · intro j hj
            rw [fx_up_ne2 _ _ _ hj, v0]
            exact x0 j hj
          · intro b h1 h2 h3
            rw [fx_up_ne _ _ _ h1]
            exact vS b h1 h2 h3
        refine And.intro (fun hr => ?_) (fun hr => ?_)
        · have hr := px_z_ne0.mp hr
          refine fin _ ?_
          rw [w30, hA2]
          by_cases hon : pf_on (S 15 k) (S 17 k) ((pm_A S st ag dt n (k + 1)).1.2 k) (px_in (pm_A S st ag dt n (k + 1)).1.1 (nI k)) (px_in (S 0 26) (nI o)) (px_in (S 0 28) (nI o)) (S 20 o) = true
          · rw [if_pos hon, or_and_in hu hr rfl]
          · rw [if_neg hon]
        · have hr := px_z_eq0.mp hr
          have hac := ct_Md_acts hq (S := V) (k := k) (o := o) (by omega) ho (by rw [vS 14 (by decide) (by decide) (by decide)]; exact eo) (by rw [V18k]; exact px_z01 _)
          rw [vS 15 (by decide) (by decide) (by decide), vS 17 (by decide) (by decide) (by decide), vS 20 (by decide) (by decide) (by decide), w26, w28] at hac
          have hkey : pf_on (S 15 k) (S 17 k) (V 19 k) (¬ V 18 k = 0) (px_in (S 0 26) (nI o)) (px_in (S 0 28) (nI o)) (S 20 o) = pf_on (S 15 k) (S 17 k) ((pm_A S st ag dt n (k + 1)).1.2 k) (px_in (pm_A S st ag dt n (k + 1)).1.1 (nI k)) (px_in (S 0 26) (nI o)) (px_in (S 0 28) (nI o)) (S 20 o) := by
            have hiff : (¬ V 18 k = 0) ↔ px_in (pm_A S st ag dt n (k + 1)).1.1 (nI k) := by
              rw [V18k, px_z_ne0, px_in_bt (by omega)]
            rw [pf_on_congr2 hiff]
            exact (pf_on_congr (fun h9 => agek (by rw [px_in_bt (by omega)] at h9; exact h9))).symm
          rw [hkey] at hac
          refine fx_ex1 hac ?_
          refine And.intro (fun hon => ?_) (fun hon => ?_)
          · have hon := px_z_eq0.mp hon
            refine fin _ ?_
            rw [w30, hA2, if_neg hon]
          · have hon := px_z_ne0.mp hon
            refine And.intro hv ?_
            rw [e, vS 16 (by decide) (by decide) (by decide), eu]
            refine fin _ ?_
            rw [w30, hA2, if_pos hon, or_and_out hu hr rfl]
      refine fx_go_ok [(42, 3)] 150 hT ht ?_
      refine And.intro (fun h => absurd (show S 0 17 ≤ nI k by rw [← u0 17 (by decide)]; exact h) (by rw [hn]; exact nI_ge (by omega) (by omega))) (fun _ => ?_)
      refine And.intro hv ?_
      rw [e, k18]
      refine And.intro (fun h => ?_) (fun h => ?_)
      · have h := px_z_eq0.mp h
        refine And.intro hv ?_
        rw [e]
        exact mid 0 (fun q => absurd q h) (fun _ => rfl)
      · have h := px_z_ne0.mp h
        refine And.intro hv (And.intro hv ?_)
        rw [e, k19]
        refine mid _ (fun _ => ?_) (fun q => absurd h q)
        unfold pf_gr
        rw [if_pos ⟨by omega, by rw [px_in_bt (by omega)]; exact h⟩, (hrel k (by omega)).2 h]
  refine fx_go_ok [(7, 3)] 99 hT ht ?_
  refine loop n 0 _ _ (by omega) rfl ?_ ?_ (fun j hj => absurd hj (by omega)) (fun j _ => rfl) ?_ ?_
  · show (0 : Int32) = 0 &&& _
    apply b_ext
    intro i hi
    rw [b_and, b_0, Bool.false_and]
  · intro j hj
    exact (hrel j hj).1
  · intro j hj
    rw [fx_up_ne2 _ _ _ hj]
  · intro b h1 h2 h3
    rw [fx_up_ne _ _ _ h1]
end MDI
