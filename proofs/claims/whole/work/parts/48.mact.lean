/-! the reference: actions -/
theorem px_b_in {x : Int32} {u w : Nat} (hu : u < 8) (hw : w < 8) : bt (x ||| (1 <<< (nI u &&& 31))) w = (bt x w || decide (w = u)) := px_or_b (by omega) (by omega)
theorem pf_on_congr {qu du ag ag' : Int32} {ke is was : Prop} [Decidable ke] [Decidable is] [Decidable was] {tm : Int32} (h : ke → ag = ag') : pf_on qu du ag ke is was tm = pf_on qu du ag' ke is was tm := by
  by_cases hk : ke
  · rw [h hk]
  · unfold pf_on
    have e1 : decide (ke ∧ du ≤ ag) = decide (ke ∧ du ≤ ag') := by rw [decide_eq_false (fun q => hk q.1), decide_eq_false (fun q => hk q.1)]
    have e2 : decide (ke ∧ ag < du) = decide (ke ∧ ag' < du) := by rw [decide_eq_false (fun q => hk q.1), decide_eq_false (fun q => hk q.1)]
    rw [e1, e2]
theorem pf_on_congr2 {qu du ag : Int32} {ke ke' is was : Prop} [Decidable ke] [Decidable ke'] [Decidable is] [Decidable was] {tm : Int32} (h : ke ↔ ke') : pf_on qu du ag ke is was tm = pf_on qu du ag ke' is was tm := by
  unfold pf_on
  have e0 : decide ke = decide ke' := decide_eq_decide.mpr h
  have e1 : decide (ke ∧ du ≤ ag) = decide (ke' ∧ du ≤ ag) := decide_eq_decide.mpr (and_congr_left' h)
  have e2 : decide (ke ∧ ag < du) = decide (ke' ∧ ag < du) := decide_eq_decide.mpr (and_congr_left' h)
  rw [e0, e1, e2]
theorem pf_sto_ne {k : Nat} (hk : k < 32) {qu du : Int32} {re is : Prop} [Decidable re] [Decidable is] {tm : Int32} {a : Int32 × (Nat → Int32)} {j : Nat} (hj : j < 32) (hjk : j ≠ k) : bt (pf_sto k qu du re is tm a).1 j = bt a.1 j ∧ (pf_sto k qu du re is tm a).2 j = a.2 j := by
  unfold pf_sto
  by_cases h : re
  · rw [if_pos h]
    refine ⟨?_, rfl⟩
    show bt (a.1 &&& (px_b k ^^^ (-1))) j = _
    rw [b_and, px_not_bt hj, px_b_bt hk hj, decide_eq_false hjk, Bool.not_false, Bool.and_true]
  · rw [if_neg h]
    by_cases h2 : is ∧ ¬ px_in a.1 (nI k) ∧ pf_sa qu du tm = true
    · rw [if_pos h2]
      refine ⟨?_, ?_⟩
      · show bt (a.1 ||| px_b k) j = _
        rw [px_or_b hk hj, decide_eq_false hjk, Bool.or_false]
      · show upd a.2 k 0 j = _
        exact pk_un hjk
    · rw [if_neg h2]
      exact ⟨rfl, rfl⟩
theorem pf_sto_at {k : Nat} (hk : k < 32) {qu du : Int32} {re is : Prop} [Decidable re] [Decidable is] {tm : Int32} {a : Int32 × (Nat → Int32)} : (bt (pf_sto k qu du re is tm a).1 k = true ↔ ¬ re ∧ (bt a.1 k = true ∨ (is ∧ pf_sa qu du tm = true))) ∧ (bt (pf_sto k qu du re is tm a).1 k = true → (pf_sto k qu du re is tm a).2 k = if bt a.1 k = true then a.2 k else 0) := by
  unfold pf_sto
  by_cases h : re
  · rw [if_pos h]
    have e : bt (a.1 &&& (px_b k ^^^ (-1))) k = false := by
      rw [b_and, px_not_bt hk, px_b_bt hk hk]
      simp
    refine ⟨⟨fun q => ?_, fun q => absurd h q.1⟩, fun q => ?_⟩
    · have q : bt (a.1 &&& (px_b k ^^^ (-1))) k = true := q
      rw [e] at q; cases q
    · have q : bt (a.1 &&& (px_b k ^^^ (-1))) k = true := q
      rw [e] at q; cases q
  · rw [if_neg h]
    by_cases h2 : is ∧ ¬ px_in a.1 (nI k) ∧ pf_sa qu du tm = true
    · rw [if_pos h2]
      have e : bt (a.1 ||| px_b k) k = true := by
        rw [px_or_b hk hk]
        simp
      have hn : ¬ bt a.1 k = true := by rw [← px_in_bt hk]; exact h2.2.1
      refine ⟨⟨fun _ => ⟨h, Or.inr ⟨h2.1, h2.2.2⟩⟩, fun _ => e⟩, fun _ => ?_⟩
      rw [if_neg hn]
      exact pk_us
    · rw [if_neg h2]
      refine ⟨⟨fun q => ⟨h, Or.inl q⟩, fun q => ?_⟩, fun q => ?_⟩
      · rcases q.2 with q2 | q2
        · exact q2
        · refine Classical.not_not.mp (fun q3 => h2 ⟨q2.1, ?_, q2.2⟩)
          rw [px_in_bt hk]; exact q3
      · rw [if_pos q]
theorem pf_act_hi (ow qu va du : Nat → Int32) (si sb re : Int32) (tm : Nat → Int32) (a : Int32 × (Nat → Int32)) : ∀ (k : Nat), k ≤ 32 → ∀ j, k ≤ j → j < 32 → bt (pf_act ow qu va du si sb re tm a k).1.1 j = bt a.1 j ∧ (pf_act ow qu va du si sb re tm a k).1.2 j = a.2 j
  | 0, _, j, _, _ => ⟨rfl, rfl⟩
  | k + 1, hk, j, h1, h2 => by
    have ih := pf_act_hi ow qu va du si sb re tm a k (by omega) j (by omega) h2
    have h3 := pf_sto_ne (k := k) (by omega) (qu := qu k) (du := du k) (re := px_in re (va k)) (is := px_in si (ow k)) (tm := tm (ow k).toNatClampNeg) (a := (pf_act ow qu va du si sb re tm a k).1) h2 (show j ≠ k by omega)
    exact ⟨h3.1.trans ih.1, h3.2.trans ih.2⟩
section MDH
variable {κ : fx_K} {S : fx_S}
theorem ct_Md_reset (hq : fx_I κ lyM.length) {n w : Nat} (hn : S 0 17 = nI n) (hb : n ≤ 12) (hva : ∀ k, k < n → ∃ u, u < 8 ∧ S 16 k = nI u) (hw : w < 8) : MC_Md_reset κ [.inr 0, .inl (nI w)] S (fun r S' => S' = S ∧ r = px_z (bt (pf_rs (S 14) (S 15) (S 16) (S 0 26) n) w = true)) := by
  refine mo_Md_reset hq (Nat.le_of_ble_eq_true rfl) ?_
  intro J hT ht
  have loop : ∀ (j k : Nat) (x i : Int32), k + j = n → i = nI k → x = px_z (bt (pf_rs (S 14) (S 15) (S 16) (S 0 26) k) w = true) → J 4 [.inr 0, .inl (nI w), .inl x, .inl i] [] S := by
    intro j
    induction j with
    | zero =>
      intro k x i hk hi hx
      have hk : k = n := by omega
      subst hk; subst hi
      refine fx_go_ok [] 99 hT ht ?_
      refine And.intro (fun _ => ?_) (fun h => absurd (show S 0 17 ≤ nI k by rw [hn]; exact nI_le (by omega) (by omega)) h)
      exact And.intro (by rw [hx]; exact px_z01 _) ⟨rfl, hx⟩
    | succ j ih =>
      intro k x i hk hi hx
      subst hi
      have e : (nI k).toNatClampNeg = k := nI_clamp (by omega)
      have hv : vp_in (nI k) 12 := vp_in_nI (by omega) (by omega)
      obtain ⟨u, hu, eu⟩ := hva k (by omega)
      have nxt : bt (pf_rs (S 14) (S 15) (S 16) (S 0 26) (k + 1)) w = true ↔ bt (pf_rs (S 14) (S 15) (S 16) (S 0 26) k) w = true ∨ (S 15 k = 1 ∧ px_in (S 0 26) (S 14 k) ∧ w = u) := by
        rw [pf_rs, eu]
        by_cases hc : S 15 k = 1 ∧ px_in (S 0 26) (S 14 k)
        · rw [if_pos hc, px_b_in hu hw, Bool.or_eq_true, decide_eq_true_iff]
          exact ⟨fun q => q.imp id (fun q => ⟨hc.1, hc.2, q⟩), fun q => q.imp id (fun q => q.2.2)⟩
        · rw [if_neg hc]
          exact ⟨fun q => Or.inl q, fun q => q.elim id (fun q => absurd ⟨q.1, q.2.1⟩ hc)⟩
      have fin : ∀ v : Int32, v = px_z (bt (pf_rs (S 14) (S 15) (S 16) (S 0 26) (k + 1)) w = true) → J 4 [.inr 0, .inl (nI w), .inl v, .inl (nI k + 1)] [] S := fun v hv9 => ih (k + 1) _ _ (by omega) (nI_1 k) hv9
      refine fx_go_ok [(4, 4)] 99 hT ht ?_
      refine And.intro (fun h => absurd h (by rw [hn]; exact nI_ge (by omega) (by omega))) (fun _ => ?_)
      refine And.intro (fun h => ?_) (fun h => ?_)
      · rw [hx] at h
        refine fin _ ?_
        rw [px_z_t (nxt.mpr (Or.inl (px_z_ne0.mp h)))]
      · rw [hx] at h
        have h := px_z_eq0.mp h
        refine And.intro hv ?_
        rw [e]
        refine And.intro (fun h1 => ?_) (fun h1 => ?_)
        · refine fin _ ?_
          rw [px_z_f (fun q => (nxt.mp q).elim h (fun q => h1 q.1))]
        · refine And.intro hv ?_
          rw [e, eu]
          refine And.intro (fun h2 => ?_) (fun h2 => ?_)
          · refine fin _ ?_
            rw [px_z_f (fun q => (nxt.mp q).elim h (fun q => h2 (by rw [q.2.2])))]
          · have h2 : w = u := ((nI_eq (by omega) (by omega)).mp h2).symm
            refine And.intro hv ?_
            rw [e]
            refine fx_ex1 (ct_Md_in hq _ _) ?_
            refine And.intro (fun h3 => ?_) (fun h3 => ?_)
            · refine fin _ ?_
              rw [px_z_f (fun q => (nxt.mp q).elim h (fun q => px_z_eq0.mp h3 q.2.1))]
            · refine fin _ ?_
              rw [px_z_t (nxt.mpr (Or.inr ⟨h1, px_z_ne0.mp h3, h2⟩))]
  refine fx_go_ok [(4, 4)] 99 hT ht ?_
  refine loop n 0 _ _ (by omega) rfl ?_
  rw [px_z_f]
  rw [pf_rs, b_0]
  exact fun q => by cases q
theorem ct_Md_store (hq : fx_I κ lyM.length) {k o : Nat} (hk : k < 12) (ho : o < 8) (eo : S 14 k = nI o) (Re Ke : Prop) [Decidable Re] [Decidable Ke] (hke : S 18 k = px_z Ke) (hag : ¬ Ke → S 19 k = 0) : MC_Md_store κ [.inr 0, .inl (nI k), .inl (px_z Re)] S (fun _ S' => S' 18 k = px_z (¬ Re ∧ (Ke ∨ (px_in (S 0 26) (nI o) ∧ pf_sa (S 15 k) (S 17 k) (S 20 o) = true))) ∧ (∀ j, j ≠ k → S' 18 j = S 18 j) ∧ ∀ b, b ≠ 18 → S' b = S b) := by
  refine mo_Md_store hq (Nat.le_of_ble_eq_true rfl) ?_
  intro J hT ht
  have e : (nI k).toNatClampNeg = k := nI_clamp (by omega)
  have hv : vp_in (nI k) 12 := vp_in_nI (by omega) (by omega)
  have e2 : (nI o).toNatClampNeg = o := nI_clamp (by omega)
  have hvo : vp_in (nI o) 8 := vp_in_nI (by omega) (by omega)
  have put : ∀ v : Int32, v = px_z (¬ Re ∧ (Ke ∨ (px_in (S 0 26) (nI o) ∧ pf_sa (S 15 k) (S 17 k) (S 20 o) = true))) → (fx_up S 18 k v 18 k = px_z (¬ Re ∧ (Ke ∨ (px_in (S 0 26) (nI o) ∧ pf_sa (S 15 k) (S 17 k) (S 20 o) = true))) ∧ (∀ j, j ≠ k → fx_up S 18 k v 18 j = S 18 j) ∧ ∀ b, b ≠ 18 → fx_up S 18 k v b = S b) := by
    intro v hv9
    refine ⟨?_, fun j hj => ?_, fun b hb => ?_⟩
    · rw [fx_up_at]; exact hv9
    · rw [fx_up_ne2 _ _ _ hj]
    · rw [fx_up_ne _ _ _ hb]
  have same : px_z Ke = px_z (¬ Re ∧ (Ke ∨ (px_in (S 0 26) (nI o) ∧ pf_sa (S 15 k) (S 17 k) (S 20 o) = true))) → (S 18 k = px_z (¬ Re ∧ (Ke ∨ (px_in (S 0 26) (nI o) ∧ pf_sa (S 15 k) (S 17 k) (S 20 o) = true))) ∧ (∀ j, j ≠ k → S 18 j = S 18 j) ∧ ∀ b, b ≠ 18 → S b = S b) := fun h => ⟨hke.trans h, fun _ _ => rfl, fun _ _ => rfl⟩
  refine fx_go_ok [(107, 5)] 150 hT ht ?_
  refine And.intro hv (And.intro hv ?_)
  rw [e, eo]
  refine fx_ex1 (ct_Md_in hq _ _) ?_
  refine And.intro (fun h => ?_) (fun h => ?_)
  · have h := px_z_eq0.mp h
    refine And.intro (fun h8 => ?_) (fun h8 => ?_)
    · -- not 8
      have none : ¬ (S 15 k = 2 ∨ S 15 k = 7 ∨ S 15 k = 9) → (S 18 k = px_z (¬ Re ∧ (Ke ∨ (px_in (S 0 26) (nI o) ∧ pf_sa (S 15 k) (S 17 k) (S 20 o) = true))) ∧ (∀ j, j ≠ k → S 18 j = S 18 j) ∧ ∀ b, b ≠ 18 → S b = S b) := by
        intro h9
        refine same (px_z_congr ?_)
        rw [pf_sa, if_neg h9, if_neg h8]
        exact ⟨fun q => ⟨h, Or.inl q⟩, fun q => q.2.elim id (fun q => by cases q.2)⟩
      have some9 : (S 15 k = 2 ∨ S 15 k = 7 ∨ S 15 k = 9) → J 107 [.inr 0, .inl (nI k), .inl (px_z Re), .inl (S 15 k), .inl (px_z (px_in (S 0 26) (nI o)))] [] S := by
        intro h9
        have esa : pf_sa (S 15 k) (S 17 k) (S 20 o) = true := by rw [pf_sa, if_pos h9]
        refine fx_go_ok [] 99 hT ht ?_
        refine And.intro (fun hx => ?_) (fun hx => ?_)
        · have hx := px_z_eq0.mp hx
          refine same (px_z_congr ?_)
          exact ⟨fun q => ⟨h, Or.inl q⟩, fun q => q.2.elim id (fun q => absurd q.1 hx)⟩
        · have hx := px_z_ne0.mp hx
          refine And.intro hv ?_
          rw [e, hke]
          refine And.intro (fun hk9 => ?_) (fun hk9 => ?_)
          · have hk9 := px_z_ne0.mp hk9
            refine same (px_z_congr ?_)
            exact ⟨fun q => ⟨h, Or.inl q⟩, fun _ => hk9⟩
          · have hk9 := px_z_eq0.mp hk9
            refine And.intro (Or.inr rfl) (And.intro hv (And.intro hv ?_))
            rw [e]
            have hp := put 1 (by rw [px_z_t ⟨h, Or.inr ⟨hx, esa⟩⟩])
            have eU : fx_up (fx_up S 18 k 1) 19 k 0 = fx_up S 18 k 1 := by
              have := fx_up_self (fx_up S 18 k 1) 19 k
              rw [show fx_up S 18 k 1 19 k = S 19 k from fx_up_ne1 _ _ _ _ (by decide), hag hk9] at this
              exact this
            rw [eU]
            exact hp
      refine And.intro (fun h2 => ?_) (fun h2 => And.intro (fun h7 => ?_) (fun h7 => And.intro (fun h9 => ?_) (fun h9 => ?_)))
      · exact some9 (Or.inl h2)
      · exact some9 (Or.inr (Or.inl h7))
      · exact none (fun q => q.elim h2 (fun q => q.elim h7 h9))
      · exact some9 (Or.inr (Or.inr h9))
    · have h8 : S 15 k = 8 := h8
      have esa : pf_sa (S 15 k) (S 17 k) (S 20 o) = decide (S 17 k ≤ S 20 o) := by
        rw [pf_sa, if_neg (fun q => q.elim (fun q => absurd (h8.symm.trans q) (by decide)) (fun q => q.elim (fun q => absurd (h8.symm.trans q) (by decide)) (fun q => absurd (h8.symm.trans q) (by decide)))), if_pos h8]
      refine And.intro hv ?_
      rw [e, hke]
      refine And.intro (fun hk9 => ?_) (fun hk9 => ?_)
      · have hk9 := px_z_ne0.mp hk9
        refine And.intro (Or.inr rfl) (And.intro hv ?_)
        rw [e]
        exact put 1 (by rw [px_z_t ⟨h, Or.inl hk9⟩])
      · have hk9 := px_z_eq0.mp hk9
        refine And.intro (fun hx => ?_) (fun hx => ?_)
        · have hx := px_z_eq0.mp hx
          refine And.intro (Or.inl rfl) (And.intro hv ?_)
          rw [e]
          exact put 0 (by rw [px_z_f (fun q => q.2.elim hk9 (fun q => hx q.1))])
        · have hx := px_z_ne0.mp hx
          refine And.intro hv ?_
          rw [e, eo]
          refine And.intro hvo (And.intro hv ?_)
          rw [e, e2]
          refine And.intro (fun hd => ?_) (fun hd => ?_)
          · refine And.intro (Or.inl rfl) (And.intro hv ?_)
            rw [e]
            exact put 0 (by
              rw [px_z_f]
              rintro ⟨-, q | q⟩
              · exact hk9 q
              · rw [esa] at q
                exact Int32.not_lt.mpr (of_decide_eq_true q.2) hd)
          · refine And.intro (Or.inr rfl) (And.intro hv ?_)
            rw [e]
            exact put 1 (by rw [px_z_t ⟨h, Or.inr ⟨hx, by rw [esa]; exact decide_eq_true (Int32.not_lt.mp hd)⟩⟩])
  · have h := px_z_ne0.mp h
    refine And.intro (Or.inl rfl) (And.intro hv ?_)
    rw [e]
    exact put 0 (by rw [px_z_f (fun q => q.1 h)])
theorem ct_Md_acts (hq : fx_I κ lyM.length) {k o : Nat} (hk : k < 12) (ho : o < 8) (eo : S 14 k = nI o) (hke : S 18 k = 0 ∨ S 18 k = 1) : MC_Md_acts κ [.inr 0, .inl (nI k)] S (fun r S' => S' = S ∧ r = px_z (pf_on (S 15 k) (S 17 k) (S 19 k) (¬ S 18 k = 0) (px_in (S 0 26) (nI o)) (px_in (S 0 28) (nI o)) (S 20 o) = true)) := by
  refine mo_Md_acts hq (Nat.le_of_ble_eq_true rfl) ?_
  intro J hT ht
  have e : (nI k).toNatClampNeg = k := nI_clamp (by omega)
  have hv : vp_in (nI k) 12 := vp_in_nI (by omega) (by omega)
  have e2 : (nI o).toNatClampNeg = o := nI_clamp (by omega)
  have hvo : vp_in (nI o) 8 := vp_in_nI (by omega) (by omega)
  have kz : S 18 k = px_z (¬ S 18 k = 0) := by
    rcases hke with h | h
    · rw [h, px_z_f (fun q => q rfl)]
    · rw [h, px_z_t (by decide)]
  generalize hP : pf_on (S 15 k) (S 17 k) (S 19 k) (¬ S 18 k = 0) (px_in (S 0 26) (nI o)) (px_in (S 0 28) (nI o)) (S 20 o) = P at hT
  have tail : ∀ (la ol : Int32), (la = px_z (S 17 k ≤ S 20 o)) → (ol = px_z (S 17 k ≤ S 19 k)) → J 85 [.inr 0, .inl (nI k), .inl (S 15 k), .inl (px_z (px_in (S 0 26) (nI o))), .inl (px_z (px_in (S 0 28) (nI o))), .inl la, .inl ol] [] S := by
    intro la ol hla hol
    subst hla; subst hol
    have two : ∀ (A B : Prop) [Decidable A] [Decidable B], P = decide (A ∧ B) → A → B → (1 : Int32) = px_z (P = true) := fun A B _ _ h a b => by rw [h, px_z_dec, px_z_t ⟨a, b⟩]
    have no1 : ∀ (A B : Prop) [Decidable A] [Decidable B], P = decide (A ∧ B) → ¬ A → (0 : Int32) = px_z (P = true) := fun A B _ _ h a => by rw [h, px_z_dec, px_z_f (fun q => a q.1)]
    have no2 : ∀ (A B : Prop) [Decidable A] [Decidable B], P = decide (A ∧ B) → ¬ B → (0 : Int32) = px_z (P = true) := fun A B _ _ h b => by rw [h, px_z_dec, px_z_f (fun q => b q.2)]
    refine fx_go_ok [(102, 7)] 150 hT ht ?_
    have kept : (S 15 k = 2 ∨ S 15 k = 8) → ¬ S 15 k = 0 → J 102 [.inr 0, .inl (nI k), .inl (S 15 k), .inl (px_z (px_in (S 0 26) (nI o))), .inl (px_z (px_in (S 0 28) (nI o))), .inl (px_z (S 17 k ≤ S 20 o)), .inl (px_z (S 17 k ≤ S 19 k))] [] S := by
      intro h h0
      refine fx_go_ok [] 99 hT ht ?_
      refine And.intro hv ?_
      rw [e]
      refine And.intro hke ⟨rfl, ?_⟩
      rw [← hP, pf_on, if_neg h0, if_pos h, px_z_dec]
      exact kz
    refine And.intro (fun h0 => ?_) (fun h0 => ?_)
    · refine And.intro (fun h2 => ?_) (fun h2 => And.intro (fun h8 => ?_) (fun h8 => ?_))
      · exact kept (Or.inl h2) h0
      · have n28 : ¬ (S 15 k = 2 ∨ S 15 k = 8) := fun q => q.elim h2 h8
        refine And.intro (fun h3 => ?_) (fun h3 => ?_)
        · refine And.intro (fun h4 => ?_) (fun h4 => ?_)
          · refine And.intro (fun h5 => ?_) (fun h5 => ?_)
            · refine And.intro (fun h6 => ?_) (fun h6 => ?_)
              · refine And.intro (fun h7 => ?_) (fun h7 => ?_)
                · refine And.intro (fun h9 => ?_) (fun h9 => ?_)
                  · refine And.intro (Or.inl rfl) ⟨rfl, ?_⟩
                    rw [← hP, pf_on, if_neg h0, if_neg n28, if_neg h3, if_neg h4, if_neg h5, if_neg h6, if_neg h7, if_neg h9]
                    rfl
                  · have eP : P = decide ((¬ S 18 k = 0) ∧ S 19 k < S 17 k) := by
                      rw [← hP, pf_on, if_neg h0, if_neg n28, if_neg h3, if_neg h4, if_neg h5, if_neg h6, if_neg h7, if_pos h9]
                    refine And.intro hv ?_
                    rw [e]
                    refine And.intro (fun q => ?_) (fun q => And.intro (fun q2 => ?_) (fun q2 => ?_))
                    · exact And.intro (Or.inl rfl) ⟨rfl, no1 _ _ eP (fun q9 => q9 q)⟩
                    · exact And.intro (Or.inl rfl) ⟨rfl, no2 _ _ eP (fun q9 => Int32.not_lt.mpr (px_z_ne0.mp q2) q9)⟩
                    · exact And.intro (Or.inr rfl) ⟨rfl, two _ _ eP q (Int32.not_le.mp (px_z_eq0.mp q2))⟩
                · have eP : P = decide ((¬ S 18 k = 0) ∧ S 17 k ≤ S 19 k) := by
                    rw [← hP, pf_on, if_neg h0, if_neg n28, if_neg h3, if_neg h4, if_neg h5, if_neg h6, if_pos h7]
                  refine And.intro hv ?_
                  rw [e]
                  refine And.intro (fun q => ?_) (fun q => And.intro (fun q2 => ?_) (fun q2 => ?_))
                  · exact And.intro (Or.inl rfl) ⟨rfl, no1 _ _ eP (fun q9 => q9 q)⟩
                  · exact And.intro (Or.inl rfl) ⟨rfl, no2 _ _ eP (px_z_eq0.mp q2)⟩
                  · exact And.intro (Or.inr rfl) ⟨rfl, two _ _ eP q (px_z_ne0.mp q2)⟩
              · have eP : P = decide (px_in (S 0 28) (nI o) ∧ ¬ px_in (S 0 26) (nI o)) := by
                  rw [← hP, pf_on, if_neg h0, if_neg n28, if_neg h3, if_neg h4, if_neg h5, if_pos h6]
                refine And.intro (fun q => ?_) (fun q => And.intro (fun q2 => ?_) (fun q2 => ?_))
                · exact And.intro (Or.inl rfl) ⟨rfl, no1 _ _ eP (px_z_eq0.mp q)⟩
                · exact And.intro (Or.inl rfl) ⟨rfl, no2 _ _ eP (fun q9 => q9 (px_z_ne0.mp q2))⟩
                · exact And.intro (Or.inr rfl) ⟨rfl, two _ _ eP (px_z_ne0.mp q) (px_z_eq0.mp q2)⟩
            · have eP : P = decide (px_in (S 0 26) (nI o) ∧ ¬ px_in (S 0 28) (nI o)) := by
                rw [← hP, pf_on, if_neg h0, if_neg n28, if_neg h3, if_neg h4, if_pos h5]
              refine And.intro (fun q => ?_) (fun q => And.intro (fun q2 => ?_) (fun q2 => ?_))
              · exact And.intro (Or.inl rfl) ⟨rfl, no1 _ _ eP (px_z_eq0.mp q)⟩
              · exact And.intro (Or.inl rfl) ⟨rfl, no2 _ _ eP (fun q9 => q9 (px_z_ne0.mp q2))⟩
              · exact And.intro (Or.inr rfl) ⟨rfl, two _ _ eP (px_z_ne0.mp q) (px_z_eq0.mp q2)⟩
          · have eP : P = decide (px_in (S 0 26) (nI o) ∧ S 17 k ≤ S 20 o) := by
              rw [← hP, pf_on, if_neg h0, if_neg n28, if_neg h3, if_pos h4]
            refine And.intro (fun q => ?_) (fun q => And.intro (fun q2 => ?_) (fun q2 => ?_))
            · exact And.intro (Or.inl rfl) ⟨rfl, no1 _ _ eP (px_z_eq0.mp q)⟩
            · exact And.intro (Or.inl rfl) ⟨rfl, no2 _ _ eP (px_z_eq0.mp q2)⟩
            · exact And.intro (Or.inr rfl) ⟨rfl, two _ _ eP (px_z_ne0.mp q) (px_z_ne0.mp q2)⟩
        · have eP : P = decide (px_in (S 0 26) (nI o) ∧ S 20 o < S 17 k) := by
            rw [← hP, pf_on, if_neg h0, if_neg n28, if_pos h3]
          refine And.intro (fun q => ?_) (fun q => And.intro (fun q2 => ?_) (fun q2 => ?_))
          · exact And.intro (Or.inl rfl) ⟨rfl, no1 _ _ eP (px_z_eq0.mp q)⟩
          · exact And.intro (Or.inl rfl) ⟨rfl, no2 _ _ eP (fun q9 => Int32.not_lt.mpr (px_z_ne0.mp q2) q9)⟩
          · exact And.intro (Or.inr rfl) ⟨rfl, two _ _ eP (px_z_ne0.mp q) (Int32.not_le.mp (px_z_eq0.mp q2))⟩
      · exact kept (Or.inr h8) h0
    · refine And.intro (px_z01 _) ⟨rfl, ?_⟩
      rw [← hP, pf_on, if_pos h0, px_z_dec]
  refine fx_go_ok [(85, 7)] 150 hT ht ?_
  refine And.intro hv (And.intro hv ?_)
  rw [e, eo]
  refine fx_ex1 (ct_Md_in hq _ _) ?_
  refine And.intro hv ?_
  rw [e, eo]
  refine fx_ex1 (ct_Md_in hq _ _) ?_
  refine And.intro hv ?_
  rw [e, eo]
  refine And.intro hvo (And.intro hv ?_)
  rw [e, e2]
  refine And.intro (fun h1 => ?_) (fun h1 => ?_)
  · refine And.intro hv (And.intro hv ?_)
    rw [e]
    refine And.intro (fun h2 => ?_) (fun h2 => ?_)
    · exact tail _ _ (by rw [px_z_f (fun q => Int32.not_lt.mpr q h1)]) (by rw [px_z_f (fun q => Int32.not_lt.mpr q h2)])
    · exact tail _ _ (by rw [px_z_f (fun q => Int32.not_lt.mpr q h1)]) (by rw [px_z_t (Int32.not_lt.mp h2)])
  · refine And.intro hv (And.intro hv ?_)
    rw [e]
    refine And.intro (fun h2 => ?_) (fun h2 => ?_)
    · exact tail _ _ (by rw [px_z_t (Int32.not_lt.mp h1)]) (by rw [px_z_f (fun q => Int32.not_lt.mpr q h2)])
    · exact tail _ _ (by rw [px_z_t (Int32.not_lt.mp h1)]) (by rw [px_z_t (Int32.not_lt.mp h2)])
end MDH
