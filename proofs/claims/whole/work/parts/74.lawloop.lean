/-! the law: its begin and its loop (by program: wip/gen/mkstart.py) -/
theorem wm_41 : (Jvm.Cond.classLink "ForcedChartLaw" (7 : Nat) "ForcedChart") ∈ TB := tb_1 41 (by decide +kernel) (by decide +kernel)
theorem wm_42 : (Jvm.Cond.instantiable "ForcedChart" (17 : Nat)) ∈ TB := tb_1 42 (by decide +kernel) (by decide +kernel)
theorem wm_43 : (Jvm.Cond.methodLink "ForcedChartLaw" (9 : Nat) ({ cls := "ForcedChart", name := "<init>", desc := "()V" } : Jvm.MethodName)) ∈ TB := tb_1 43 (by decide +kernel) (by decide +kernel)
theorem wm_44 : (Jvm.Cond.instanceMethod ({ cls := "ForcedChart", name := "<init>", desc := "()V" } : Jvm.MethodName)) ∈ TB := tb_1 44 (by decide +kernel) (by decide +kernel)
theorem wm_50 : (Jvm.Cond.instantiable "ForcedChart$Steps" (4 : Nat)) ∈ TB := tb_1 50 (by decide +kernel) (by decide +kernel)
theorem wm_72 : (Jvm.Cond.arrayClass Jvm.ClassFile.FieldType.int) ∈ TB := tb_1 72 (by decide +kernel) (by decide +kernel)
theorem wm_74 : (Jvm.Cond.instantiable "ForcedChart$Expressions" (5 : Nat)) ∈ TB := tb_1 74 (by decide +kernel) (by decide +kernel)
theorem wm_97 : (Jvm.Cond.instantiable "ForcedChart$Transitions" (5 : Nat)) ∈ TB := tb_1 97 (by decide +kernel) (by decide +kernel)
theorem wm_121 : (Jvm.Cond.instantiable "ForcedChart$Orders" (4 : Nat)) ∈ TB := tb_1 121 (by decide +kernel) (by decide +kernel)
theorem wm_141 : (Jvm.Cond.instantiable "ForcedChart$Actions" (7 : Nat)) ∈ TB := tb_1 141 (by decide +kernel) (by decide +kernel)
theorem wm_170 : (Jvm.Cond.instantiable "ForcedChart$Trial" (11 : Nat)) ∈ TB := tb_1 170 (by decide +kernel) (by decide +kernel)
theorem wm_533 : (Jvm.Cond.classLink "ForcedChartLaw" (10 : Nat) "ForcedChartModel") ∈ TB := tb_1 533 (by decide +kernel) (by decide +kernel)
theorem wm_534 : (Jvm.Cond.instantiable "ForcedChartModel" (43 : Nat)) ∈ TB := tb_1 534 (by decide +kernel) (by decide +kernel)
theorem wm_535 : (Jvm.Cond.methodLink "ForcedChartLaw" (12 : Nat) ({ cls := "ForcedChartModel", name := "<init>", desc := "()V" } : Jvm.MethodName)) ∈ TB := tb_1 535 (by decide +kernel) (by decide +kernel)
theorem wm_536 : (Jvm.Cond.instanceMethod ({ cls := "ForcedChartModel", name := "<init>", desc := "()V" } : Jvm.MethodName)) ∈ TB := tb_1 536 (by decide +kernel) (by decide +kernel)
theorem wm_669 : (Jvm.Cond.arrayClass Jvm.ClassFile.FieldType.boolean) ∈ TB := tb_1 669 (by decide +kernel) (by decide +kernel)
/-! the classes and arrays as the tables have them -/
theorem lw_K {s : State} {args : Array Value} (hts : ∀ w ∈ TB, w.before args s = true) : ∃ (D : va_G) (cA : Nat → ClassId), va_K D vwCl (fx_ty cA) s := by
  obtain ⟨k0, f0, h0⟩ := u_known (T := T_Fc) (N := 17) hts in_Fc (hts _ wm_42)
  obtain ⟨k1, f1, h1⟩ := u_known (T := T_St) (N := 4) hts in_St (hts _ wm_50)
  obtain ⟨k2, f2, h2⟩ := u_known (T := T_Ex) (N := 5) hts in_Ex (hts _ wm_74)
  obtain ⟨k3, f3, h3⟩ := u_known (T := T_Tr) (N := 5) hts in_Tr (hts _ wm_97)
  obtain ⟨k4, f4, h4⟩ := u_known (T := T_Or) (N := 4) hts in_Or (hts _ wm_121)
  obtain ⟨k5, f5, h5⟩ := u_known (T := T_Ac) (N := 7) hts in_Ac (hts _ wm_141)
  obtain ⟨k6, f6, h6⟩ := u_known (T := T_Ti) (N := 11) hts in_Ti (hts _ wm_170)
  obtain ⟨k7, f7, h7⟩ := u_known (T := T_Md) (N := 43) hts in_Md (hts _ wm_534)
  obtain ⟨cI, kI, pI, i1, i2, i3⟩ := Cond.arrayClass_spec (hts _ wm_72)
  obtain ⟨cZ, kZ, pZ, z1, z2, z3⟩ := Cond.arrayClass_spec (hts _ wm_669)
  refine ⟨(fun c => match c with | 0 => k0 | 1 => k1 | 2 => k2 | 3 => k3 | 4 => k4 | 5 => k5 | 6 => k6 | _ => k7, fun c => match c with | 0 => f0 | 1 => f1 | 2 => f2 | 3 => f3 | 4 => f4 | 5 => f5 | 6 => f6 | _ => f7), fun t => match t with | 0 => cI | _ => cZ, ?_, ?_⟩
  · intro c q hq
    match c, hq with
    | 0, hq => cases hq; exact h0
    | 1, hq => cases hq; exact h1
    | 2, hq => cases hq; exact h2
    | 3, hq => cases hq; exact h3
    | 4, hq => cases hq; exact h4
    | 5, hq => cases hq; exact h5
    | 6, hq => cases hq; exact h6
    | 7, hq => cases hq; exact h7
  · intro k q hq
    match k, hq with
    | 0, hq => cases hq; exact ⟨fun n z => ⟨fun k h => (by cases h), kI, i2, pI, i3⟩, i1⟩
    | 1, hq => cases hq; exact ⟨fun n z => ⟨fun k h => (by cases h), kZ, z2, pZ, z3⟩, z1⟩
theorem lw_nw {s : State} {args : Array Value} (hts : ∀ w ∈ lw_tbl, w.before args s = true) : ∀ w ∈ nwl, va_Nw w s := by
  unfold nwl
  refine List.forall_mem_cons.mpr ⟨va_Nw.of rfl (hts _ (List.mem_of_getElem? (i := 51) (by decide +kernel))), ?_⟩
  refine List.forall_mem_cons.mpr ⟨va_Nw.of rfl (hts _ (List.mem_of_getElem? (i := 56) (by decide +kernel))), ?_⟩
  refine List.forall_mem_cons.mpr ⟨va_Nw.of rfl (hts _ (List.mem_of_getElem? (i := 58) (by decide +kernel))), ?_⟩
  refine List.forall_mem_cons.mpr ⟨va_Nw.of rfl (hts _ (List.mem_of_getElem? (i := 60) (by decide +kernel))), ?_⟩
  refine List.forall_mem_cons.mpr ⟨va_Nw.of rfl (hts _ (List.mem_of_getElem? (i := 62) (by decide +kernel))), ?_⟩
  refine List.forall_mem_cons.mpr ⟨va_Nw.of rfl (hts _ (List.mem_of_getElem? (i := 75) (by decide +kernel))), ?_⟩
  refine List.forall_mem_cons.mpr ⟨va_Nw.of rfl (hts _ (List.mem_of_getElem? (i := 84) (by decide +kernel))), ?_⟩
  refine List.forall_mem_cons.mpr ⟨va_Nw.of rfl (hts _ (List.mem_of_getElem? (i := 98) (by decide +kernel))), ?_⟩
  refine List.forall_mem_cons.mpr ⟨va_Nw.of rfl (hts _ (List.mem_of_getElem? (i := 106) (by decide +kernel))), ?_⟩
  refine List.forall_mem_cons.mpr ⟨va_Nw.of rfl (hts _ (List.mem_of_getElem? (i := 108) (by decide +kernel))), ?_⟩
  refine List.forall_mem_cons.mpr ⟨va_Nw.of rfl (hts _ (List.mem_of_getElem? (i := 122) (by decide +kernel))), ?_⟩
  refine List.forall_mem_cons.mpr ⟨va_Nw.of rfl (hts _ (List.mem_of_getElem? (i := 130) (by decide +kernel))), ?_⟩
  refine List.forall_mem_cons.mpr ⟨va_Nw.of rfl (hts _ (List.mem_of_getElem? (i := 142) (by decide +kernel))), ?_⟩
  refine List.forall_mem_cons.mpr ⟨va_Nw.of rfl (hts _ (List.mem_of_getElem? (i := 152) (by decide +kernel))), ?_⟩
  refine List.forall_mem_cons.mpr ⟨va_Nw.of rfl (hts _ (List.mem_of_getElem? (i := 171) (by decide +kernel))), ?_⟩
  refine List.forall_mem_cons.mpr ⟨va_Nw.of rfl (hts _ (List.mem_of_getElem? (i := 178) (by decide +kernel))), ?_⟩
  refine List.forall_mem_cons.mpr ⟨va_Nw.of rfl (hts _ (List.mem_of_getElem? (i := 180) (by decide +kernel))), ?_⟩
  refine List.forall_mem_cons.mpr ⟨va_Nw.of rfl (hts _ (List.mem_of_getElem? (i := 182) (by decide +kernel))), ?_⟩
  refine List.forall_mem_cons.mpr ⟨va_Nw.of rfl (hts _ (List.mem_of_getElem? (i := 184) (by decide +kernel))), ?_⟩
  refine List.forall_mem_cons.mpr ⟨va_Nw.of rfl (hts _ (List.mem_of_getElem? (i := 185) (by decide +kernel))), ?_⟩
  refine List.forall_mem_cons.mpr ⟨va_Nw.of rfl (hts _ (List.mem_of_getElem? (i := 188) (by decide +kernel))), ?_⟩
  refine List.forall_mem_cons.mpr ⟨va_Nw.of rfl (hts _ (List.mem_of_getElem? (i := 190) (by decide +kernel))), ?_⟩
  refine List.forall_mem_cons.mpr ⟨va_Nw.of rfl (hts _ (List.mem_of_getElem? (i := 192) (by decide +kernel))), ?_⟩
  refine List.forall_mem_cons.mpr ⟨va_Nw.of rfl (hts _ (List.mem_of_getElem? (i := 194) (by decide +kernel))), ?_⟩
  refine List.forall_mem_cons.mpr ⟨va_Nw.of rfl (hts _ (List.mem_of_getElem? (i := 286) (by decide +kernel))), ?_⟩
  refine List.forall_mem_cons.mpr ⟨va_Nw.of rfl (hts _ (List.mem_of_getElem? (i := 293) (by decide +kernel))), ?_⟩
  refine List.forall_mem_cons.mpr ⟨va_Nw.of rfl (hts _ (List.mem_of_getElem? (i := 367) (by decide +kernel))), ?_⟩
  refine List.forall_mem_cons.mpr ⟨va_Nw.of rfl (hts _ (List.mem_of_getElem? (i := 374) (by decide +kernel))), ?_⟩
  refine List.forall_mem_cons.mpr ⟨va_Nw.of rfl (hts _ (List.mem_of_getElem? (i := 407) (by decide +kernel))), ?_⟩
  refine List.forall_mem_cons.mpr ⟨va_Nw.of rfl (hts _ (List.mem_of_getElem? (i := 428) (by decide +kernel))), ?_⟩
  refine List.forall_mem_cons.mpr ⟨va_Nw.of rfl (hts _ (List.mem_of_getElem? (i := 472) (by decide +kernel))), ?_⟩
  exact fun _ h => absurd h List.not_mem_nil
theorem fx_w_ex {cA : Nat → ClassId} {q : Nat → Nat} {ly : fx_L} {S : fx_S} {k : Nat} (h : k < ly.length) : ∃ e, (fx_w cA q ly S)[k]? = some (q k, e) := by
  obtain ⟨c, hc⟩ : ∃ c, ly[k]? = some c := ⟨_, List.getElem?_eq_getElem h⟩
  exact ⟨_, fx_w_at hc⟩
theorem fx_w_len {cA : Nat → ClassId} {q : Nat → Nat} {ly : fx_L} {S : fx_S} : (fx_w cA q ly S).length = ly.length := by simp [fx_w]
theorem lw_apart {A : Nat → Prop} {cA : Nat → ClassId} {qX qM : Nat → Nat} {S S' : fx_S} (hD : va_D A (fx_w cA qX lyX S ++ fx_w cA qM lyM S')) : (∀ k, k < 28 → A (qX k)) ∧ (∀ k, k < 23 → A (qM k)) ∧ (∀ i j, i < 28 → j < 23 → qX i ≠ qM j) ∧ (∀ i j, i < 28 → j < 28 → qX i = qX j → i = j) ∧ (∀ i j, i < 23 → j < 23 → qM i = qM j → i = j) := by
  have lX : ∀ k, k < 28 → ∃ e, (fx_w cA qX lyX S ++ fx_w cA qM lyM S')[k]? = some (qX k, e) := fun k hk => by
    obtain ⟨e, he⟩ := fx_w_ex (cA := cA) (q := qX) (ly := lyX) (S := S) (k := k) hk
    exact ⟨e, by rw [List.getElem?_append_left (by rw [fx_w_len]; exact hk)]; exact he⟩
  have lM : ∀ k, k < 23 → ∃ e, (fx_w cA qX lyX S ++ fx_w cA qM lyM S')[28 + k]? = some (qM k, e) := fun k hk => by
    obtain ⟨e, he⟩ := fx_w_ex (cA := cA) (q := qM) (ly := lyM) (S := S') (k := k) hk
    refine ⟨e, ?_⟩
    rw [List.getElem?_append_right (by rw [fx_w_len]; exact Nat.le_add_right 28 k), fx_w_len]
    rw [show 28 + k - lyX.length = k from Nat.add_sub_cancel_left 28 k]; exact he
  refine ⟨fun k hk => ?_, fun k hk => ?_, fun i j hi hj e => ?_, fun i j hi hj e => ?_, fun i j hi hj e => ?_⟩
  · obtain ⟨e, he⟩ := lX k hk; exact hD.2 _ _ he
  · obtain ⟨e, he⟩ := lM k hk; exact hD.2 _ _ he
  · obtain ⟨e1, h1⟩ := lX i hi
    obtain ⟨e2, h2⟩ := lM j hj
    have := hD.1 _ _ _ _ h1 h2 e
    omega
  · obtain ⟨e1, h1⟩ := lX i hi
    obtain ⟨e2, h2⟩ := lX j hj
    exact hD.1 _ _ _ _ h1 h2 e
  · obtain ⟨e1, h1⟩ := lM i hi
    obtain ⟨e2, h2⟩ := lM j hj
    have := hD.1 _ _ _ _ h1 h2 e
    omega
theorem RR_0 : RR (fun _ _ => 0) (fun _ _ => 0) := by
  refine ⟨0, 0, 0, 0, 0, ⟨⟨rfl, rfl, by omega⟩, ⟨rfl, rfl, by omega⟩, ⟨rfl, rfl, by omega⟩, ⟨rfl, rfl, by omega⟩, ⟨rfl, rfl, by omega⟩, ⟨rfl, rfl, rfl, rfl, rfl, rfl, rfl, rfl, rfl, rfl, rfl, rfl, rfl, rfl, rfl⟩, ⟨fun _ _ => rfl, fun _ _ => rfl, rfl⟩, fun k hk => absurd hk (by omega), ⟨fun k hk => absurd hk (by omega), fun k hk => absurd hk (by omega)⟩, fun k hk => absurd hk (by omega), fun k hk => absurd hk (by omega), fun k hk => absurd hk (by omega)⟩, ⟨rfl, rfl, rfl, rfl, rfl, rfl, rfl, rfl, rfl, rfl, fun _ _ => rfl, px_lo_0 0, fun j _ => ⟨?_, fun _ => rfl⟩⟩⟩
  rw [b_0]; rfl
theorem lw_turn {J : fx_J LS2} {κX κM : fx_K} {L : Nat} {xs : Nat → Int32} (hX : fx_I κX lyX.length) (hM : fx_I κM lyM.length) (hL : L ≤ 2560) (th : ∀ r ∈ tl_h κX κM L xs, fx_Snd J r.1 r.2) (t120 : ∀ r ∈ tl_120 κX κM L xs, fx_Snd J r.1 r.2) (t169 : ∀ r ∈ tl_169 κX κM L xs, fx_Snd J r.1 r.2) (t212 : ∀ r ∈ tl_212 κX κM L xs, fx_Snd J r.1 r.2) (t255 : ∀ r ∈ tl_255 κX κM L xs, fx_Snd J r.1 r.2) (t298 : ∀ r ∈ tl_298 κX κM L xs, fx_Snd J r.1 r.2) (t351 : ∀ r ∈ tl_351 κX κM L xs, fx_Snd J r.1 r.2) (t364 : ∀ r ∈ tl_364 κX κM L xs, fx_Snd J r.1 r.2) (t403 : ∀ r ∈ tl_403 κX κM L xs, fx_Snd J r.1 r.2) (t414 : ∀ r ∈ tl_414 κX κM L xs, fx_Snd J r.1 r.2) (t447 : ∀ r ∈ tl_447 κX κM L xs, fx_Snd J r.1 r.2) (t460 : ∀ r ∈ tl_460 κX κM L xs, fx_Snd J r.1 r.2) (t483 : ∀ r ∈ tl_483 κX κM L xs, fx_Snd J r.1 r.2) (t496 : ∀ r ∈ tl_496 κX κM L xs, fx_Snd J r.1 r.2) (t509 : ∀ r ∈ tl_509 κX κM L xs, fx_Snd J r.1 r.2) (t532 : ∀ r ∈ tl_532 κX κM L xs, fx_Snd J r.1 r.2) (t545 : ∀ r ∈ tl_545 κX κM L xs, fx_Snd J r.1 r.2) (t558 : ∀ r ∈ tl_558 κX κM L xs, fx_Snd J r.1 r.2) (t571 : ∀ r ∈ tl_571 κX κM L xs, fx_Snd J r.1 r.2) (ht : ∀ pc k ls st S, J pc (ls.take k) st S → J pc ls st S) {k : Nat} (hk : 5 * k ≤ L + 5) {X M : fx_S} (hR : RR X M) (nx : 5 * k + 5 ≤ L → ∀ X' M', RR X' M' → J 18 [.inr 2, .inr 0, .inr 1, .inl (nI (5 * (k + 1)))] [] (X', M')) : J 18 [.inr 2, .inr 0, .inr 1, .inl (nI (5 * k))] [] (X, M) := by
  refine fx_go_ok [(120, 4), (169, 4), (212, 4), (255, 4), (298, 4), (351, 4), (364, 4), (403, 4), (414, 4), (447, 4), (460, 4), (483, 4), (496, 4), (509, 4), (532, 4), (545, 4), (558, 4), (571, 4), (584, 4)] 99 th ht ?_
  refine And.intro (fun _ => rfl) (fun h => ?_)
  have hk2 : 5 * k + 5 ≤ L := Nat.not_lt.mp (fun q => h ((lw_cmp hL hk).mpr q))
  have n5 : ∀ X' M', RR X' M' → J 584 [.inr 2, .inr 0, .inr 1, .inl (nI (5 * k))] [] (X', M') := fun X' M' hR' => by
    refine fx_go_ok [(18, 4)] 9 th ht ?_
    have := nx hk2 X' M' hR'
    rw [show nI (5 * (k + 1)) = nI (5 * k) + 5 from (nI_add (5 * k) 5).symm] at this
    exact this
  have v0 : vp_in (nI (5 * k)) L := vp_in_nI (by omega) (by omega)
  have v1 : vp_in (nI (5 * k) + 1) L := by rw [show nI (5 * k) + 1 = nI (5 * k + 1) from nI_add (5 * k) 1]; exact vp_in_nI (by omega) (by omega)
  have v2 : vp_in (nI (5 * k) + 2) L := by rw [show nI (5 * k) + 2 = nI (5 * k + 2) from nI_add (5 * k) 2]; exact vp_in_nI (by omega) (by omega)
  have v3 : vp_in (nI (5 * k) + 3) L := by rw [show nI (5 * k) + 3 = nI (5 * k + 3) from nI_add (5 * k) 3]; exact vp_in_nI (by omega) (by omega)
  have v4 : vp_in (nI (5 * k) + 4) L := by rw [show nI (5 * k) + 4 = nI (5 * k + 4) from nI_add (5 * k) 4]; exact vp_in_nI (by omega) (by omega)
  have c120 := lc_120 hX hM t120 ht v1 v2 v3 v4 hR n5
  have c169 := lc_169 hX hM t169 ht v1 v2 v3 v4 hR n5
  have c212 := lc_212 hX hM t212 ht v1 v2 v3 v4 hR n5
  have c255 := lc_255 hX hM t255 ht v1 v2 v3 v4 hR n5
  have c298 := lc_298 hX hM t298 ht v1 v2 v3 v4 hR n5
  have c351 := lc_351 hX hM t351 ht v1 v2 v3 v4 hR n5
  have c364 := lc_364 hX hM t364 ht v1 v2 v3 v4 hR n5
  have c403 := lc_403 hX hM t403 ht v1 v2 v3 v4 hR n5
  have c414 := lc_414 hX hM t414 ht v1 v2 v3 v4 hR n5
  have c447 := lc_447 hX hM t447 ht v1 v2 v3 v4 hR n5
  have c460 := lc_460 hX hM t460 ht v1 v2 v3 v4 hR n5
  have c483 := lc_483 hX hM t483 ht v1 v2 v3 v4 hR n5
  have c496 := lc_496 hX hM t496 ht v1 v2 v3 v4 hR n5
  have c509 := lc_509 hX hM t509 ht v1 v2 v3 v4 hR n5
  have c532 := lc_532 hX hM t532 ht v1 v2 v3 v4 hR n5
  have c545 := lc_545 hX hM t545 ht v1 v2 v3 v4 hR n5
  have c558 := lc_558 hX hM t558 ht v1 v2 v3 v4 hR n5
  have c571 := lc_571 hX hM t571 ht v1 v2 v3 v4 hR n5
  have cn := n5 X M hR
  refine And.intro v0 ?_
  refine And.intro (fun _ => c120) (fun _ => ?_)
  refine And.intro (fun _ => c169) (fun _ => ?_)
  refine And.intro (fun _ => c212) (fun _ => ?_)
  refine And.intro (fun _ => c255) (fun _ => ?_)
  refine And.intro (fun _ => c298) (fun _ => ?_)
  refine And.intro (fun _ => c351) (fun _ => ?_)
  refine And.intro (fun _ => c364) (fun _ => ?_)
  refine And.intro (fun _ => c403) (fun _ => ?_)
  refine And.intro (fun _ => c414) (fun _ => ?_)
  refine And.intro (fun _ => c447) (fun _ => ?_)
  refine And.intro (fun _ => c460) (fun _ => ?_)
  refine And.intro (fun _ => c483) (fun _ => ?_)
  refine And.intro (fun _ => c496) (fun _ => ?_)
  refine And.intro (fun _ => c509) (fun _ => ?_)
  refine And.intro (fun _ => c532) (fun _ => ?_)
  refine And.intro (fun _ => c545) (fun _ => ?_)
  refine And.intro (fun _ => c558) (fun _ => ?_)
  refine And.intro (fun _ => c571) (fun _ => ?_)
  exact cn
theorem lw_loop {J : fx_J LS2} {κX κM : fx_K} {L : Nat} {xs : Nat → Int32} (hX : fx_I κX lyX.length) (hM : fx_I κM lyM.length) (hL : L ≤ 2560) (th : ∀ r ∈ tl_h κX κM L xs, fx_Snd J r.1 r.2) (t120 : ∀ r ∈ tl_120 κX κM L xs, fx_Snd J r.1 r.2) (t169 : ∀ r ∈ tl_169 κX κM L xs, fx_Snd J r.1 r.2) (t212 : ∀ r ∈ tl_212 κX κM L xs, fx_Snd J r.1 r.2) (t255 : ∀ r ∈ tl_255 κX κM L xs, fx_Snd J r.1 r.2) (t298 : ∀ r ∈ tl_298 κX κM L xs, fx_Snd J r.1 r.2) (t351 : ∀ r ∈ tl_351 κX κM L xs, fx_Snd J r.1 r.2) (t364 : ∀ r ∈ tl_364 κX κM L xs, fx_Snd J r.1 r.2) (t403 : ∀ r ∈ tl_403 κX κM L xs, fx_Snd J r.1 r.2) (t414 : ∀ r ∈ tl_414 κX κM L xs, fx_Snd J r.1 r.2) (t447 : ∀ r ∈ tl_447 κX κM L xs, fx_Snd J r.1 r.2) (t460 : ∀ r ∈ tl_460 κX κM L xs, fx_Snd J r.1 r.2) (t483 : ∀ r ∈ tl_483 κX κM L xs, fx_Snd J r.1 r.2) (t496 : ∀ r ∈ tl_496 κX κM L xs, fx_Snd J r.1 r.2) (t509 : ∀ r ∈ tl_509 κX κM L xs, fx_Snd J r.1 r.2) (t532 : ∀ r ∈ tl_532 κX κM L xs, fx_Snd J r.1 r.2) (t545 : ∀ r ∈ tl_545 κX κM L xs, fx_Snd J r.1 r.2) (t558 : ∀ r ∈ tl_558 κX κM L xs, fx_Snd J r.1 r.2) (t571 : ∀ r ∈ tl_571 κX κM L xs, fx_Snd J r.1 r.2) (ht : ∀ pc k ls st S, J pc (ls.take k) st S → J pc ls st S) : ∀ (n k : Nat) (X M : fx_S), RR X M → L + 5 ≤ n + 5 * k → 5 * k ≤ L + 5 → J 18 [.inr 2, .inr 0, .inr 1, .inl (nI (5 * k))] [] (X, M) := by
  intro n
  induction n with
  | zero =>
    intro k X M hR h1 h2
    exact lw_turn hX hM hL th t120 t169 t212 t255 t298 t351 t364 t403 t414 t447 t460 t483 t496 t509 t532 t545 t558 t571 ht h2 hR (fun h => absurd h (by omega))
  | succ n ih =>
    intro k X M hR h1 h2
    exact lw_turn hX hM hL th t120 t169 t212 t255 t298 t351 t364 t403 t414 t447 t460 t483 t496 t509 t532 t545 t558 t571 ht h2 hR (fun h X' M' hR' => ih (k + 1) X' M' hR' (by omega) (by omega))
def lw_qX (h : Nat) (u : Nat → Nat) : Nat → Nat := fun i => match i with
  | 0 => h
  | n + 1 => u (n + 1)
def lw_qM (h : Nat) (u : Nat → Nat) : Nat → Nat := fun i => match i with
  | 0 => h
  | n + 1 => u n
abbrev lw_S0 : fx_S := fun _ _ => 0
