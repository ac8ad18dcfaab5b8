/-- what a walk of a method of a world stands on -/
def fx_C (p : Program) (s : State) (m : MethodId) (args : Array Value) (meth : Method) (c : Code) (cc : ByteArray) (nL : Nat) (Ts : List Cond) (own : String) (D : va_G) (cl : List vw_C) (cA : Nat → ClassId) (q : Nat → Nat) (N : Nat) : Prop :=
  CallFix p m c cc nL s args Ts own ∧ va_K D cl (fx_ty cA) s ∧ (∀ i j, i < N → j < N → q i = q j → i = j) ∧ meth.locks = false
def fx_P (D : va_G) (cl : List vw_C) (cA : Nat → ClassId) (q : Nat → Nat) (ly : fx_L) (S : fx_S) (H : Heap) : Prop := va_P D cl (fx_w cA q ly S) H
def fx_N (nwl : List Cond) : Prop := ∀ w ∈ nwl, w.onTables = true ∧ ∀ (s U : State), s.WarmedH U.vm → va_Nw w s → va_Nw w U
def fx_Pc (D : va_G) (cl : List vw_C) (cA : Nat → ClassId) (q : Nat → Nat) (ly : fx_L) (nwl : List Cond) (av : List fx_V) (S : fx_S) : Array Value → State → Prop := va_Pc (av.map (fx_v q)) (fun U => va_P D cl (fx_w cA q ly S) U.heap ∧ va_K D cl (fx_ty cA) U ∧ ∀ w ∈ nwl, va_Nw w U)
def fx_Qc (D : va_G) (cl : List vw_C) (cA : Nat → ClassId) (q : Nat → Nat) (ly : fx_L) (z : Bool) (post : Int32 → fx_S → Prop) : Array Value → State → Outcome → State → Prop := fun _ st oc t => (∃ (r : Int32) (S' : fx_S), oc = .returned (bif z then some (.int r) else none) ∧ post r S' ∧ va_P D cl (fx_w cA q ly S') t.heap) ∧ va_F (fx_A q ly.length) st t
/-- a method's contract at one start: from the arguments av and the state S it answers r and leaves S' with post r S' -/
def fx_Met (l : Launch) (D : va_G) (cl : List vw_C) (cA : Nat → ClassId) (q : Nat → Nat) (ly : fx_L) (nwl : List Cond) (y : MethodName) (ws : List Cond) (rm : Room) (z : Bool) (av : List fx_V) (S : fx_S) (post : Int32 → fx_S → Prop) : Prop := Met l y ws rm (fx_Pc D cl cA q ly nwl av S) (fx_Qc D cl cA q ly z post) 0 0 (fx_A q ly.length)
theorem fx_fs_set {q : Nat → Nat} {r : Nat → Int32} {fs : List (Option Nat)} {j : Nat} {x : Int32} (h : fs[j]? = some none) : (fs.mapIdx (fx_f q r)).set j (.int x) = fs.mapIdx (fx_f q (upd r j x)) := by
  apply List.ext_getElem?
  intro i
  by_cases hi : i = j
  · subst hi
    rw [List.getElem?_set_self (by simpa using (List.getElem?_eq_some_iff.mp h).1), List.getElem?_mapIdx, h]
    simp [fx_f, upd]
  · rw [List.getElem?_set_ne (Ne.symm hi), List.getElem?_mapIdx, List.getElem?_mapIdx]
    cases hc : fs[i]? with
    | none => rfl
    | some d => cases d <;> simp [fx_f, upd, hi]
theorem fx_w_put {cA : Nat → ClassId} {q : Nat → Nat} {ly : fx_L} {S : fx_S} {a ci j : Nat} {fs : List (Option Nat)} {x : Int32} (hly : ly[a]? = some (.inr (ci, fs))) (hfs : fs[j]? = some none) : (fx_w cA q ly S).set a (q a, .inr (ci, (fs.mapIdx (fx_f q (S a))).set j (.int x))) = fx_w cA q ly (fx_up S a j x) := by
  rw [fx_fs_set hfs, ← fx_up_row]
  exact fx_w_set hly (fun i hi => fx_up_ne S j x hi)
theorem fx_w_ast {cA : Nat → ClassId} {q : Nat → Nat} {ly : fx_L} {S : fx_S} {a t n i : Nat} {x : Int32} (hly : ly[a]? = some (.inl (t, n))) : (fx_w cA q ly S).set a (q a, .inl (cA t, n, .inl (upd (S a) i x))) = fx_w cA q ly (fx_up S a i x) := by
  rw [← fx_up_row]
  exact fx_w_set hly (fun j hj => fx_up_ne S i x hj)
theorem fx_ln {ly : fx_L} {t : Nat} {ln : List (Nat × Nat)} (h : ∀ x ∈ ln, ly[x.1]? = some (.inl (t, x.2))) (a n : Nat) (he : fx_lk ln a = some n) : ly[a]? = some (.inl (t, n)) := h _ (fx_lk_mem ln a n he)
theorem fx_blind {D : va_G} {cl : List vw_C} {cA : Nat → ClassId} {q : Nat → Nat} {ly : fx_L} {nwl : List Cond} {av : List fx_V} {S : fx_S} (hN : fx_N nwl) : FrameBlind (fx_Pc D cl cA q ly nwl av S) :=
  fun a U g mk hp => ⟨hp.1, hp.2.1, va_K.moved (u := U) (U := U.calling g mk a) (Vm.Alike.refl U.vm) hp.2.2.1, fun w hw => va_Nw.same (u := U) (U := U.calling g mk a) (hN w hw).1 rfl (hp.2.2.2 w hw)⟩
section FXT
variable {p : Program} {l : Launch} {e : Env} {R : Room} {s : State} {m : MethodId} {args : Array Value} {below : List Frame} {meth : Method} {c : Code} {Q : State → Prop} {D : va_G} {cl : List vw_C} {cA : Nat → ClassId} {q : Nat → Nat} {ly : fx_L} {nL : Nat} {cc : ByteArray} {Ts : List Cond} {own : String} {pc : Nat}
theorem fs_get (h : fx_C p s m args meth c cc nL Ts own D cl cA q ly.length) {C : String} {T : u_T} {N ci index cN j : Nat} {fs : List (Option Nat)} (hly : ly[cN]? = some (.inr (ci, fs))) (hfs : fs[j]? = some none) (hc : cl[ci]? = some (C, T, N)) (hj : j < N) (hin : ∀ w ∈ u_ws C T N, w ∈ Ts) (hlink : (Cond.fieldLink own index (T j).1 (T j).2.1 (T j).2.2.1).before args s = true) (hd : decode cc pc = .ok (.getfield index, 3)) : fx_Snd (fx_W p l e R s m args below meth c Q (fx_A q ly.length) 0 0 (fx_P D cl cA q ly) q nL) pc (fm_get cN j (pc + 3)) := by
  intro k ls st S hk hf LS H locs hl hP hS
  obtain ⟨a, r, rfl, hf1⟩ := fx_pr_e hf
  cases hb : Nat.beq a cN with
  | false => rw [hb] at hf1; exact hf1.elim
  | true =>
    rw [hb] at hf1
    obtain rfl := Nat.eq_of_beq_eq_true hb
    exact va_get (D := D) (ci := ci) (v := .int (S a j)) (C := C) (T := T) (N := N) (fs := fs.mapIdx (fx_f q (S a))) h.1.1 h.1.2.1 h.1.2.2.2.2 hin h.1.2.2.2.1 h.2.1 hP a (fx_w_at hly) hc j hj hlink (fun _ h9 => h9) (by rw [List.getElem?_mapIdx, hfs]; rfl) hd (hk _ _ _ _ hf1 LS H locs hl hP hS)
theorem fs_getr (h : fx_C p s m args meth c cc nL Ts own D cl cA q ly.length) {C : String} {T : u_T} {N ci index cN j d : Nat} {fs : List (Option Nat)} (hly : ly[cN]? = some (.inr (ci, fs))) (hfs : fs[j]? = some (some d)) (hc : cl[ci]? = some (C, T, N)) (hj : j < N) (hin : ∀ w ∈ u_ws C T N, w ∈ Ts) (hlink : (Cond.fieldLink own index (T j).1 (T j).2.1 (T j).2.2.1).before args s = true) (hd : decode cc pc = .ok (.getfield index, 3)) : fx_Snd (fx_W p l e R s m args below meth c Q (fx_A q ly.length) 0 0 (fx_P D cl cA q ly) q nL) pc (fm_getr cN d (pc + 3)) := by
  intro k ls st S hk hf LS H locs hl hP hS
  obtain ⟨a, r, rfl, hf1⟩ := fx_pr_e hf
  cases hb : Nat.beq a cN with
  | false => rw [hb] at hf1; exact hf1.elim
  | true =>
    rw [hb] at hf1
    obtain rfl := Nat.eq_of_beq_eq_true hb
    exact va_get (D := D) (ci := ci) (v := .ref (q d)) (C := C) (T := T) (N := N) (fs := fs.mapIdx (fx_f q (S a))) h.1.1 h.1.2.1 h.1.2.2.2.2 hin h.1.2.2.2.1 h.2.1 hP a (fx_w_at hly) hc j hj hlink (fun _ h9 => h9) (by rw [List.getElem?_mapIdx, hfs]; rfl) hd (hk _ _ _ _ hf1 LS H locs hl hP hS)
theorem fs_getN (h : fx_C p s m args meth c cc nL Ts own D cl cA q ly.length) {C host : String} {T : u_T} {N ci index cN j : Nat} {fs : List (Option Nat)} (hly : ly[cN]? = some (.inr (ci, fs))) (hfs : fs[j]? = some none) (hc : cl[ci]? = some (C, T, N)) (hj : j < N) (hin : ∀ w ∈ u_ws C T N, w ∈ Ts) (hlink : va_Nw (.fieldLinkNest own index (T j).1 (T j).2.1 (T j).2.2.1 host) s) (hd : decode cc pc = .ok (.getfield index, 3)) : fx_Snd (fx_W p l e R s m args below meth c Q (fx_A q ly.length) 0 0 (fx_P D cl cA q ly) q nL) pc (fm_get cN j (pc + 3)) := by
  intro k ls st S hk hf LS H locs hl hP hS
  obtain ⟨a, r, rfl, hf1⟩ := fx_pr_e hf
  cases hb : Nat.beq a cN with
  | false => rw [hb] at hf1; exact hf1.elim
  | true =>
    rw [hb] at hf1
    obtain rfl := Nat.eq_of_beq_eq_true hb
    exact va_getN (D := D) (ci := ci) (v := .int (S a j)) (C := C) (T := T) (N := N) (fs := fs.mapIdx (fx_f q (S a))) h.1.1 h.1.2.1 h.1.2.2.2.2 hin h.1.2.2.2.1 h.2.1 hP a (fx_w_at hly) hc j hj (va_Nw.use rfl hlink) (fun _ h9 => h9) (by rw [List.getElem?_mapIdx, hfs]; rfl) hd (hk _ _ _ _ hf1 LS H locs hl hP hS)
theorem fs_getrN (h : fx_C p s m args meth c cc nL Ts own D cl cA q ly.length) {C host : String} {T : u_T} {N ci index cN j d : Nat} {fs : List (Option Nat)} (hly : ly[cN]? = some (.inr (ci, fs))) (hfs : fs[j]? = some (some d)) (hc : cl[ci]? = some (C, T, N)) (hj : j < N) (hin : ∀ w ∈ u_ws C T N, w ∈ Ts) (hlink : va_Nw (.fieldLinkNest own index (T j).1 (T j).2.1 (T j).2.2.1 host) s) (hd : decode cc pc = .ok (.getfield index, 3)) : fx_Snd (fx_W p l e R s m args below meth c Q (fx_A q ly.length) 0 0 (fx_P D cl cA q ly) q nL) pc (fm_getr cN d (pc + 3)) := by
  intro k ls st S hk hf LS H locs hl hP hS
  obtain ⟨a, r, rfl, hf1⟩ := fx_pr_e hf
  cases hb : Nat.beq a cN with
  | false => rw [hb] at hf1; exact hf1.elim
  | true =>
    rw [hb] at hf1
    obtain rfl := Nat.eq_of_beq_eq_true hb
    exact va_getN (D := D) (ci := ci) (v := .ref (q d)) (C := C) (T := T) (N := N) (fs := fs.mapIdx (fx_f q (S a))) h.1.1 h.1.2.1 h.1.2.2.2.2 hin h.1.2.2.2.1 h.2.1 hP a (fx_w_at hly) hc j hj (va_Nw.use rfl hlink) (fun _ h9 => h9) (by rw [List.getElem?_mapIdx, hfs]; rfl) hd (hk _ _ _ _ hf1 LS H locs hl hP hS)
theorem fx_z {x : Int32} (h : x = 0 ∨ x = 1) : narrow .boolean (.int x) = .int x ∧ fits .boolean (.int x) = true ∧ vp_nar .boolean x = x := by
  rcases h with rfl | rfl <;> exact ⟨by rfl, by rfl, by rfl⟩
theorem fs_put (h : fx_C p s m args meth c cc nL Ts own D cl cA q ly.length) {C : String} {T : u_T} {N ci index cN j : Nat} {fs : List (Option Nat)} (hly : ly[cN]? = some (.inr (ci, fs))) (hfs : fs[j]? = some none) (hc : cl[ci]? = some (C, T, N)) (hj : j < N) (ty0 : Nat → FieldType) (hty : ∀ k, k < N → parseFieldDescriptor (T k).2.2.1 = some (ty0 k)) (hnm : ∀ a, a < N → ∀ b, b < N → a ≠ b → (T a).2.1 ≠ (T b).2.1) (hfin : (T j).2.2.2 = false) (ht : parseFieldDescriptor (T j).2.2.1 = some .int) (hin : ∀ w ∈ u_ws C T N, w ∈ Ts) (hlink : (Cond.fieldLink own index (T j).1 (T j).2.1 (T j).2.2.1).before args s = true) (hd : decode cc pc = .ok (.putfield index, 3)) : fx_Snd (fx_W p l e R s m args below meth c Q (fx_A q ly.length) 0 0 (fx_P D cl cA q ly) q nL) pc (fm_put cN j (pc + 3)) := by
  intro k ls st S hk hf LS H locs hl hP hS
  obtain ⟨x, r, rfl, hf1⟩ := fx_pi_e hf
  obtain ⟨a, r, rfl, hf2⟩ := fx_pr_e hf1
  cases hb : Nat.beq a cN with
  | false => rw [hb] at hf2; exact hf2.elim
  | true =>
    rw [hb] at hf2
    obtain rfl := Nat.eq_of_beq_eq_true hb
    refine va_put (D := D) (ci := ci) (v := .int x) (ty := .int) (C := C) (T := T) (N := N) (fs := fs.mapIdx (fx_f q (S a))) h.1.1 h.1.2.1 h.1.2.2.2.2 hin ty0 hty hnm h.1.2.2.2.1 h.2.1 hP (fx_D h.2.2.1 (fun k hk => ⟨k, hk, rfl⟩)) hS a (fx_w_at hly) hc j hj hlink (fun _ h9 => h9) hfin ht rfl rfl (by simpa using (List.getElem?_eq_some_iff.mp hfs).1) hd (fun H1 locs1 hP1 _ hS1 => ?_)
    rw [fx_w_put hly hfs] at hP1
    exact hk _ _ _ _ hf2 LS H1 locs1 hl hP1 hS1
theorem fs_putz (h : fx_C p s m args meth c cc nL Ts own D cl cA q ly.length) {C : String} {T : u_T} {N ci index cN j : Nat} {fs : List (Option Nat)} (hly : ly[cN]? = some (.inr (ci, fs))) (hfs : fs[j]? = some none) (hc : cl[ci]? = some (C, T, N)) (hj : j < N) (ty0 : Nat → FieldType) (hty : ∀ k, k < N → parseFieldDescriptor (T k).2.2.1 = some (ty0 k)) (hnm : ∀ a, a < N → ∀ b, b < N → a ≠ b → (T a).2.1 ≠ (T b).2.1) (hfin : (T j).2.2.2 = false) (ht : parseFieldDescriptor (T j).2.2.1 = some .boolean) (hin : ∀ w ∈ u_ws C T N, w ∈ Ts) (hlink : (Cond.fieldLink own index (T j).1 (T j).2.1 (T j).2.2.1).before args s = true) (hd : decode cc pc = .ok (.putfield index, 3)) : fx_Snd (fx_W p l e R s m args below meth c Q (fx_A q ly.length) 0 0 (fx_P D cl cA q ly) q nL) pc (fm_putz cN j (pc + 3)) := by
  intro k ls st S hk hf LS H locs hl hP hS
  obtain ⟨x, r, rfl, hf1⟩ := fx_pi_e hf
  obtain ⟨a, r, rfl, hf2⟩ := fx_pr_e hf1
  cases hb : Nat.beq a cN with
  | false => rw [hb] at hf2; exact hf2.elim
  | true =>
    rw [hb] at hf2
    obtain rfl := Nat.eq_of_beq_eq_true hb
    obtain ⟨hx, hf3⟩ := hf2
    refine va_put (D := D) (ci := ci) (v := .int x) (ty := .boolean) (C := C) (T := T) (N := N) (fs := fs.mapIdx (fx_f q (S a))) h.1.1 h.1.2.1 h.1.2.2.2.2 hin ty0 hty hnm h.1.2.2.2.1 h.2.1 hP (fx_D h.2.2.1 (fun k hk => ⟨k, hk, rfl⟩)) hS a (fx_w_at hly) hc j hj hlink (fun _ h9 => h9) hfin ht (fx_z hx).1 (fx_z hx).2.1 (by simpa using (List.getElem?_eq_some_iff.mp hfs).1) hd (fun H1 locs1 hP1 _ hS1 => ?_)
    rw [fx_w_put hly hfs] at hP1
    exact hk _ _ _ _ hf3 LS H1 locs1 hl hP1 hS1
theorem fs_ald (h : fx_C p s m args meth c cc nL Ts own D cl cA q ly.length) {ln : List (Nat × Nat)} (hln : ∀ x ∈ ln, ly[x.1]? = some (.inl (0, x.2))) (hd : decode cc pc = .ok (.iaload, 1)) : fx_Snd (fx_W p l e R s m args below meth c Q (fx_A q ly.length) 0 0 (fx_P D cl cA q ly) q nL) pc (fm_ald ln (pc + 1)) := by
  intro k ls st S hk hf LS H locs hl hP hS
  obtain ⟨i, r, rfl, hf1⟩ := fx_pi_e hf
  obtain ⟨a, r, rfl, hf2⟩ := fx_pr_e hf1
  cases hn : fx_lk ln a with
  | none => rw [hn] at hf2; exact hf2.elim
  | some n =>
    rw [hn] at hf2
    exact va_iald h.1.1 h.1.2.1 h.2.1 hP a 0 (fx_w_at (fx_ln hln a n hn)) rfl hf2.1 hd (hk _ _ _ _ hf2.2 LS H locs hl hP hS)
theorem fs_zald (h : fx_C p s m args meth c cc nL Ts own D cl cA q ly.length) {ln : List (Nat × Nat)} (hln : ∀ x ∈ ln, ly[x.1]? = some (.inl (1, x.2))) (hd : decode cc pc = .ok (.baload, 1)) : fx_Snd (fx_W p l e R s m args below meth c Q (fx_A q ly.length) 0 0 (fx_P D cl cA q ly) q nL) pc (fm_ald ln (pc + 1)) := by
  intro k ls st S hk hf LS H locs hl hP hS
  obtain ⟨i, r, rfl, hf1⟩ := fx_pi_e hf
  obtain ⟨a, r, rfl, hf2⟩ := fx_pr_e hf1
  cases hn : fx_lk ln a with
  | none => rw [hn] at hf2; exact hf2.elim
  | some n =>
    rw [hn] at hf2
    exact va_zald h.1.1 h.1.2.1 h.2.1 hP a 1 (fx_w_at (fx_ln hln a n hn)) rfl hf2.1 hd (hk _ _ _ _ hf2.2 LS H locs hl hP hS)
theorem fs_ast (h : fx_C p s m args meth c cc nL Ts own D cl cA q ly.length) {ln : List (Nat × Nat)} (hln : ∀ x ∈ ln, ly[x.1]? = some (.inl (0, x.2))) (hd : decode cc pc = .ok (.iastore, 1)) : fx_Snd (fx_W p l e R s m args below meth c Q (fx_A q ly.length) 0 0 (fx_P D cl cA q ly) q nL) pc (fm_ast ln (pc + 1)) := by
  intro k ls st S hk hf LS H locs hl hP hS
  obtain ⟨x, r, rfl, hf1⟩ := fx_pi_e hf
  obtain ⟨i, r, rfl, hf2⟩ := fx_pi_e hf1
  obtain ⟨a, r, rfl, hf3⟩ := fx_pr_e hf2
  cases hn : fx_lk ln a with
  | none => rw [hn] at hf3; exact hf3.elim
  | some n =>
    rw [hn] at hf3
    refine va_iast h.1.1 h.1.2.1 h.2.1 hP (fx_D h.2.2.1 (fun k hk => ⟨k, hk, rfl⟩)) hS a 0 (fx_w_at (fx_ln hln a n hn)) rfl hf3.1 hd (fun H1 locs1 hP1 _ hS1 => ?_)
    rw [fx_w_ast (fx_ln hln a n hn)] at hP1
    exact hk _ _ _ _ hf3.2 LS H1 locs1 hl hP1 hS1
theorem fs_zast (h : fx_C p s m args meth c cc nL Ts own D cl cA q ly.length) {ln : List (Nat × Nat)} (hln : ∀ x ∈ ln, ly[x.1]? = some (.inl (1, x.2))) (hd : decode cc pc = .ok (.bastore, 1)) : fx_Snd (fx_W p l e R s m args below meth c Q (fx_A q ly.length) 0 0 (fx_P D cl cA q ly) q nL) pc (fm_zast ln (pc + 1)) := by
  intro k ls st S hk hf LS H locs hl hP hS
  obtain ⟨x, r, rfl, hf1⟩ := fx_pi_e hf
  obtain ⟨i, r, rfl, hf2⟩ := fx_pi_e hf1
  obtain ⟨a, r, rfl, hf3⟩ := fx_pr_e hf2
  cases hn : fx_lk ln a with
  | none => rw [hn] at hf3; exact hf3.elim
  | some n =>
    rw [hn] at hf3
    obtain ⟨hx, hi, hf4⟩ := hf3
    refine va_zast h.1.1 h.1.2.1 h.2.1 hP (fx_D h.2.2.1 (fun k hk => ⟨k, hk, rfl⟩)) hS a 1 (fx_w_at (fx_ln hln a n hn)) rfl hi hd (fun H1 locs1 hP1 _ hS1 => ?_)
    rw [(fx_z hx).2.2, fx_w_ast (fx_ln hln a n hn)] at hP1
    exact hk _ _ _ _ hf4 LS H1 locs1 hl hP1 hS1
theorem fx_call {z : Bool} {post : Int32 → fx_S → Prop} {a : Array Value} {rest st0 : List Value} {LS : Array Slot} {H : Heap} {locs : List Loc} (hr : va_Run p l e R s m args below meth c H locs 0 0 0 0 (F0 m pc LS st0) rest (fx_Qc D cl cA q ly z post a) (fx_A q ly.length)) (hS : va_S (fx_A q ly.length) s.heap H locs) (kk : ∀ (r : Int32) (S' : fx_S) (H1 : Heap) (locs1 : List Loc), post r S' → va_P D cl (fx_w cA q ly S') H1 → va_S (fx_A q ly.length) s.heap H1 locs1 → W p l e R s m args below meth c H1 locs1 0 0 Q (F0 m (pc + 3) LS ((bif z then some (Value.int r) else none).toList ++ rest))) : W p l e R s m args below meth c H locs 0 0 Q (F0 m pc LS st0) := by
  intro T hT X
  obtain ⟨v, st₀, t, T', L, h0, X', hL, e1, e2, ⟨⟨r, S', hv, hp, hb⟩, hz, hk⟩, st⟩ := hr T hT X
  have hv' : v = (bif z then some (Value.int r) else none) := by injection hv
  subst hv'
  rw [h0] at hz hk
  obtain ⟨t2, a1, b1⟩ := kk r S' T'.heap (locs ++ L) hp (by rw [e1]; exact hb)
    ⟨Nat.le_trans hS.1 (by rw [e1]; exact hz), fun x h1 h2 => by rw [e1, hk x (Nat.lt_of_lt_of_le h1 hS.1) h2]; exact hS.2.1 x h1 h2, fun x hx => by
      rcases List.mem_append.mp hx with h | h
      · exact hS.2.2 x h
      · exact hL x h⟩ T' rfl X'
  exact ⟨t2, st t2 a1, b1⟩
theorem fx_stk {as r : List fx_V} {a : Nat} : (as.reverse ++ .inr a :: r).map (fx_v q) = (as.map (fx_v q)).reverse ++ .ref (q a) :: r.map (fx_v q) := by
  simp [fx_v, List.map_reverse]
theorem fx_stk0 {as r : List fx_V} : (as.reverse ++ r).map (fx_v q) = (as.map (fx_v q)).reverse ++ r.map (fx_v q) := by
  simp [List.map_reverse]
theorem fx_after {z : Bool} {r : Int32} {st : List fx_V} : (bif z then .inl r :: st else st : List fx_V).map (fx_v q) = (bif z then some (Value.int r) else none).toList ++ st.map (fx_v q) := by
  cases z <;> rfl
theorem fs_callV (h : fx_C p s m args meth c cc nL Ts own D cl cA q ly.length) {nwl : List Cond} (hN : fx_N nwl) (hnw : ∀ w ∈ nwl, va_Nw w s) {C : String} {y : MethodName} {bytes : ByteArray} {maxL n index cN ci N : Nat} {ret : Option FieldType} {ws : List Cond} {rm : Room} {z : Bool} {fs : List (Option Nat)} {T : u_T} (hly : ly[cN]? = some (.inr (ci, fs))) (hc : cl[ci]? = some (C, T, N)) (cw : CallW R s args own C index y bytes maxL ret ws rm 0 0 n) (hd : decode cc pc = .ok (.invokevirtual index, 3)) : fx_Snd (fx_W p l e R s m args below meth c Q (fx_A q ly.length) 0 0 (fx_P D cl cA q ly) q nL) pc (fm_call z cN n (fx_Met l D cl cA q ly nwl y ws rm z) (pc + 3)) := by
  intro k ls st S hk hf LS H locs hl hP hS
  obtain ⟨as, r, hn, rfl, hf1⟩ := fx_pn_e _ _ _ _ hf
  obtain ⟨a, r, rfl, hf2⟩ := fx_pr_e hf1
  cases hb : (Nat.beq a cN && Nat.ble r.length 8) with
  | false => rw [hb] at hf2; exact hf2.elim
  | true =>
    rw [hb] at hf2
    have h12 := hb
    rw [Bool.and_eq_true] at h12
    obtain rfl := Nat.eq_of_beq_eq_true h12.1
    obtain ⟨post, hM, hf3⟩ := hf2
    rw [List.append_nil] at hM
    refine fx_call (va_runV (As := as.map (fx_v q)) (rest := r.map (fx_v q)) (b := q a) h.1 hM cw ⟨fx_blind hN, va_recv h.2.1 hP hc (fx_w_at hly), fun U hU hW => ⟨rfl, by rw [hU]; exact hP, va_K.moved hW.alike h.2.1, fun w hw => (hN w hw).2 s U hW (hnw w hw)⟩⟩ rfl (by rw [List.length_map]; exact hn) hl.1 fx_stk (lv_room (by rw [fx_cats]; exact Nat.le_of_ble_eq_true h12.2)) hd ⟨Nat.zero_le _, Nat.zero_le _⟩) hS (fun r' S' H1 locs1 hp hP1 hS1 => ?_)
    have := hk _ _ _ _ (hf3 r' S' hp) LS H1 locs1 hl hP1 hS1
    rw [fx_after] at this
    exact this
theorem fs_callVN (h : fx_C p s m args meth c cc nL Ts own D cl cA q ly.length) {nwl : List Cond} (hN : fx_N nwl) (hnw : ∀ w ∈ nwl, va_Nw w s) {C host : String} {y : MethodName} {bytes : ByteArray} {maxL n index cN ci N : Nat} {ret : Option FieldType} {ws : List Cond} {rm : Room} {z : Bool} {fs : List (Option Nat)} {T : u_T} (hly : ly[cN]? = some (.inr (ci, fs))) (hc : cl[ci]? = some (C, T, N)) (cw : va_CN R s args own index y host bytes maxL ret ws rm 0 0 n ∧ (Cond.instanceMethod y).before args s = true ∧ (Cond.selects C y y).before args s = true) (hd : decode cc pc = .ok (.invokevirtual index, 3)) : fx_Snd (fx_W p l e R s m args below meth c Q (fx_A q ly.length) 0 0 (fx_P D cl cA q ly) q nL) pc (fm_call z cN n (fx_Met l D cl cA q ly nwl y ws rm z) (pc + 3)) := by
  intro k ls st S hk hf LS H locs hl hP hS
  obtain ⟨as, r, hn, rfl, hf1⟩ := fx_pn_e _ _ _ _ hf
  obtain ⟨a, r, rfl, hf2⟩ := fx_pr_e hf1
  cases hb : (Nat.beq a cN && Nat.ble r.length 8) with
  | false => rw [hb] at hf2; exact hf2.elim
  | true =>
    rw [hb] at hf2
    have h12 := hb
    rw [Bool.and_eq_true] at h12
    obtain rfl := Nat.eq_of_beq_eq_true h12.1
    obtain ⟨post, hM, hf3⟩ := hf2
    rw [List.append_nil] at hM
    refine fx_call (va_runVN (As := as.map (fx_v q)) (rest := r.map (fx_v q)) (b := q a) h.1 hM cw ⟨fx_blind hN, va_recv h.2.1 hP hc (fx_w_at hly), fun U hU hW => ⟨rfl, by rw [hU]; exact hP, va_K.moved hW.alike h.2.1, fun w hw => (hN w hw).2 s U hW (hnw w hw)⟩⟩ rfl (by rw [List.length_map]; exact hn) hl.1 fx_stk (lv_room (by rw [fx_cats]; exact Nat.le_of_ble_eq_true h12.2)) hd ⟨Nat.zero_le _, Nat.zero_le _⟩) hS (fun r' S' H1 locs1 hp hP1 hS1 => ?_)
    have := hk _ _ _ _ (hf3 r' S' hp) LS H1 locs1 hl hP1 hS1
    rw [fx_after] at this
    exact this
theorem fs_callS (h : fx_C p s m args meth c cc nL Ts own D cl cA q ly.length) {nwl : List Cond} (hN : fx_N nwl) (hnw : ∀ w ∈ nwl, va_Nw w s) {y : MethodName} {bytes : ByteArray} {maxL n index : Nat} {ret : Option FieldType} {ws : List Cond} {rm : Room} {z : Bool} (cw : CallB R s args own index y bytes maxL ret ws rm 0 0 n ∧ (Cond.static y).before args s = true) (hd : decode cc pc = .ok (.invokestatic index, 3)) : fx_Snd (fx_W p l e R s m args below meth c Q (fx_A q ly.length) 0 0 (fx_P D cl cA q ly) q nL) pc (fm_calls z n (fx_Met l D cl cA q ly nwl y ws rm z) (pc + 3)) := by
  intro k ls st S hk hf LS H locs hl hP hS
  obtain ⟨as, r, hn, rfl, hf1⟩ := fx_pn_e _ _ _ _ hf
  cases hb : Nat.ble r.length 8 with
  | false => rw [hb] at hf1; exact hf1.elim
  | true =>
    rw [hb] at hf1
    obtain ⟨post, hM, hf2⟩ := hf1
    rw [List.append_nil] at hM
    refine fx_call (va_runS (As := as.map (fx_v q)) (rest := r.map (fx_v q)) h.1 hM cw ⟨fx_blind hN, fun U hU hW => ⟨rfl, by rw [hU]; exact hP, va_K.moved hW.alike h.2.1, fun w hw => (hN w hw).2 s U hW (hnw w hw)⟩⟩ rfl (by rw [List.length_map]; exact hn) hl.1 fx_stk0 (lv_room (by rw [fx_cats]; exact Nat.le_of_ble_eq_true hb)) hd ⟨Nat.zero_le _, Nat.zero_le _⟩) hS (fun r' S' H1 locs1 hp hP1 hS1 => ?_)
    have := hk _ _ _ _ (hf2 r' S' hp) LS H1 locs1 hl hP1 hS1
    rw [fx_after] at this
    exact this
theorem fs_callSN (h : fx_C p s m args meth c cc nL Ts own D cl cA q ly.length) {nwl : List Cond} (hN : fx_N nwl) (hnw : ∀ w ∈ nwl, va_Nw w s) {host : String} {y : MethodName} {bytes : ByteArray} {maxL n index : Nat} {ret : Option FieldType} {ws : List Cond} {rm : Room} {z : Bool} (cw : va_CN R s args own index y host bytes maxL ret ws rm 0 0 n ∧ (Cond.static y).before args s = true) (hd : decode cc pc = .ok (.invokestatic index, 3)) : fx_Snd (fx_W p l e R s m args below meth c Q (fx_A q ly.length) 0 0 (fx_P D cl cA q ly) q nL) pc (fm_calls z n (fx_Met l D cl cA q ly nwl y ws rm z) (pc + 3)) := by
  intro k ls st S hk hf LS H locs hl hP hS
  obtain ⟨as, r, hn, rfl, hf1⟩ := fx_pn_e _ _ _ _ hf
  cases hb : Nat.ble r.length 8 with
  | false => rw [hb] at hf1; exact hf1.elim
  | true =>
    rw [hb] at hf1
    obtain ⟨post, hM, hf2⟩ := hf1
    rw [List.append_nil] at hM
    refine fx_call (va_runSN (As := as.map (fx_v q)) (rest := r.map (fx_v q)) h.1 hM ⟨cw.1, cw.2, trivial⟩ ⟨fx_blind hN, fun U hU hW => ⟨rfl, by rw [hU]; exact hP, va_K.moved hW.alike h.2.1, fun w hw => (hN w hw).2 s U hW (hnw w hw)⟩⟩ rfl (by rw [List.length_map]; exact hn) hl.1 fx_stk0 (lv_room (by rw [fx_cats]; exact Nat.le_of_ble_eq_true hb)) hd ⟨Nat.zero_le _, Nat.zero_le _⟩) hS (fun r' S' H1 locs1 hp hP1 hS1 => ?_)
    have := hk _ _ _ _ (hf2 r' S' hp) LS H1 locs1 hl hP1 hS1
    rw [fx_after] at this
    exact this
theorem fs_ret (h : fx_C p s m args meth c cc nL Ts own D cl cA q ly.length) {post : Int32 → fx_S → Prop} (hr : meth.sig.returnType = some .int) (hd : decode cc pc = .ok (.ireturn, 1)) : fx_Snd (fx_W p l e R s m args below meth c (MQ below (fx_Qc D cl cA q ly true post) args s 0 0 (fx_A q ly.length)) (fx_A q ly.length) 0 0 (fx_P D cl cA q ly) q nL) pc (fm_ret post) := by
  intro k ls st S hk hf LS H locs hl hP hS
  obtain ⟨x, r, rfl, hf1⟩ := fx_pi_e hf
  cases r with
  | cons a r => exact hf1.elim
  | nil => exact W.iret (v := x) h.1.1 h.1.2.1 hr (fun t ht hW => ⟨⟨x, S, rfl, hf1, by rw [ht]; exact hP⟩, hS.F ht⟩) hS.2.2 hd (hlocks := h.2.2.2)
theorem fs_zret (h : fx_C p s m args meth c cc nL Ts own D cl cA q ly.length) {post : Int32 → fx_S → Prop} (hr : meth.sig.returnType = some .boolean) (hd : decode cc pc = .ok (.ireturn, 1)) : fx_Snd (fx_W p l e R s m args below meth c (MQ below (fx_Qc D cl cA q ly true post) args s 0 0 (fx_A q ly.length)) (fx_A q ly.length) 0 0 (fx_P D cl cA q ly) q nL) pc (fm_zret post) := by
  intro k ls st S hk hf LS H locs hl hP hS
  obtain ⟨x, r, rfl, hf1⟩ := fx_pi_e hf
  cases r with
  | cons a r => exact hf1.elim
  | nil => exact W.zret (v := x) h.1.1 h.1.2.1 hr (fx_z hf1.1).1 (fun t ht hW => ⟨⟨x, S, rfl, hf1.2, by rw [ht]; exact hP⟩, hS.F ht⟩) hS.2.2 hd (hlocks := h.2.2.2)
theorem fs_vret (h : fx_C p s m args meth c cc nL Ts own D cl cA q ly.length) {post : Int32 → fx_S → Prop} (hr : meth.sig.returnType = none) (hd : decode cc pc = .ok (.return_, 1)) : fx_Snd (fx_W p l e R s m args below meth c (MQ below (fx_Qc D cl cA q ly false post) args s 0 0 (fx_A q ly.length)) (fx_A q ly.length) 0 0 (fx_P D cl cA q ly) q nL) pc (fm_vret post) := by
  intro k ls st S hk hf LS H locs hl hP hS
  cases st with
  | cons a r => exact hf.elim
  | nil => exact W.vret h.1.1 h.1.2.1 hr (fun t ht hW => ⟨⟨0, S, rfl, hf, by rw [ht]; exact hP⟩, hS.F ht⟩) hS.2.2 hd (hlocks := h.2.2.2)
theorem fs_table (h : fx_C p s m args meth c cc nL Ts own D cl cA q ly.length) {dflt lo hi : Int} {offs : Array Int} {len d : Nat} (n : Nat) {cs : List (Int32 × Nat)} (hd : decode cc pc = .ok (.tableswitch dflt lo hi offs, len)) (hn : hi < lo + n) (h1 : (List.range n).all (fun j => match offs[j]? with | some o => decide ((pc : Int) + o = (fx_tg (Int32.ofInt (lo + j)) cs d : Int)) | none => false) = true) (h2 : cs.all (fun x => decide (lo ≤ x.1.toInt ∧ x.1.toInt ≤ hi)) = true) (h3 : (pc : Int) + dflt = (d : Int)) : fx_Snd (fx_W p l e R s m args below meth c Q (fx_A q ly.length) 0 0 (fx_P D cl cA q ly) q nL) pc (fm_sw cs d) := by
  intro k ls st S hk hf LS H locs hl hP hS
  obtain ⟨x, r, rfl, hf1⟩ := fx_pi_e hf
  have hf2 := fx_sw_tg _ _ _ hf1
  by_cases ho : x.toInt < lo ∨ hi < x.toInt
  · have he : fx_tg x cs d = d := fx_tg_out cs d (fun c0 hc0 he => by
      have := of_decide_eq_true (List.all_eq_true.mp h2 c0 hc0)
      rw [← he] at this
      omega)
    rw [he] at hf2
    exact lv_tableOut h.1.1 h.1.2.1 hd ho h3 (hk _ _ _ _ hf2 LS H locs hl hP hS)
  · have hx : lo + ((x.toInt - lo).toNat : Int) = x.toInt := by omega
    have hlt : (x.toInt - lo).toNat < n := by omega
    have h9 := List.all_eq_true.mp h1 _ (List.mem_range.mpr hlt)
    rw [hx, Int32.ofInt_toInt] at h9
    cases ho2 : offs[(x.toInt - lo).toNat]? with
    | none => rw [ho2] at h9; cases h9
    | some o =>
      rw [ho2] at h9
      exact lv_tableIn h.1.1 h.1.2.1 hd (by omega) (by omega) ho2 (of_decide_eq_true h9) (hk _ _ _ _ hf2 LS H locs hl hP hS)
def fx_lok (pc : Nat) (dflt : Int) (d : Nat) : List (Int × Int) → List (Int32 × Nat) → Bool
  | [], [] => decide ((pc : Int) + dflt = (d : Int))
  | (a, o) :: ps, (b, t) :: cs => decide (b.toInt = a) && (decide ((pc : Int) + o = (t : Int)) && fx_lok pc dflt d ps cs)
  | _, _ => false
theorem fx_lok_ok {pc : Nat} {dflt : Int} {d : Nat} {x : Int32} : ∀ (ps : List (Int × Int)) (cs : List (Int32 × Nat)), fx_lok pc dflt d ps cs = true → (pc : Int) + Op.lookupswitch.offset ps dflt x.toInt = (fx_tg x cs d : Int)
  | [], [], h => of_decide_eq_true h
  | [], _ :: _, h => by cases h
  | _ :: _, [], h => by cases h
  | (a, o) :: ps, (b, t) :: cs, h => by
    simp only [fx_lok, Bool.and_eq_true, decide_eq_true_eq] at h
    rw [Op.lookupswitch.offset_cons]
    unfold fx_tg
    by_cases hx : x = b
    · rw [if_pos hx, if_pos (by rw [hx]; exact h.1.symm)]; exact h.2.1
    · rw [if_neg hx, if_neg (fun hq => hx (Int32.toInt_inj.mp (by rw [h.1]; exact hq.symm)))]
      exact fx_lok_ok ps cs h.2.2
theorem fs_lookup (h : fx_C p s m args meth c cc nL Ts own D cl cA q ly.length) {dflt : Int} {ps : Array (Int × Int)} {len d : Nat} {cs : List (Int32 × Nat)} (hd : decode cc pc = .ok (.lookupswitch dflt ps, len)) (hp : (ps.toList.zip (ps.toList.drop 1)).all (fun (a, next) => a.1 < next.1) = true) (h1 : fx_lok pc dflt d ps.toList cs = true) : fx_Snd (fx_W p l e R s m args below meth c Q (fx_A q ly.length) 0 0 (fx_P D cl cA q ly) q nL) pc (fm_sw cs d) := by
  intro k ls st S hk hf LS H locs hl hP hS
  obtain ⟨x, r, rfl, hf1⟩ := fx_pi_e hf
  have hf2 := fx_sw_tg _ _ _ hf1
  exact lv_lookup h.1.1 h.1.2.1 hd hp rfl (fx_lok_ok _ _ h1) (hk _ _ _ _ hf2 LS H locs hl hP hS)
def fm_max (nx : Nat) : fx_M fx_S := fun k ls st S => fx_pi st fun y st => fx_pi st fun x st => bif Nat.ble st.length 8 then k nx ls (.inl (fx_max x y) :: st) S else False
theorem fs_max (h : fx_C p s m args meth c cc nL Ts own D cl cA q ly.length) {index : Nat} (hlink : (Cond.methodLink own index Lib.Math.max.name).before args s = true) (hstat : (Cond.static Lib.Math.max.name).before args s = true) (hini : (Cond.initialized "java/lang/Math").before args s = true) (hcode : (Cond.code Lib.Math.max.name Lib.Math.max.code 2 (some .int)).before args s = true) (hfr : 1 ≤ R.frames) (hlo : 21 ≤ R.locals) (hd : decode cc pc = .ok (.invokestatic index, 3)) : fx_Snd (fx_W p l e R s m args below meth c Q (fx_A q ly.length) 0 0 (fx_P D cl cA q ly) q nL) pc (fm_max (pc + 3)) := by
  intro k ls st S hk hf LS H locs hl hP hS
  obtain ⟨y, r, rfl, hf1⟩ := fx_pi_e hf
  obtain ⟨x, r, rfl, hf2⟩ := fx_pi_e hf1
  cases hb : Nat.ble r.length 8 with
  | false => rw [hb] at hf2; exact hf2.elim
  | true =>
    rw [hb] at hf2
    have hb := Nat.le_of_ble_eq_true hb
    exact va_mmax h.1.1 h.1.2.1 (h.1.2.2.1.trans hl.1.symm) h.1.2.2.2.1 hlink hstat hini hcode hfr (by rw [fx_cats]; omega) (Nat.zero_le _) (Nat.zero_le _) hd (hk _ _ _ _ hf2 LS H locs hl hP hS)
end FXT
/-- a contract, out of the walk of its body -/
theorem fx_Met_of {l : Launch} {D : va_G} {cl : List vw_C} {cA : Nat → ClassId} {q : Nat → Nat} {ly : fx_L} {nwl : List Cond} {y : MethodName} {ws ws' : List Cond} {rm : Room} {cc : ByteArray} {nL : Nat} {ret : Option FieldType} {z : Bool} {av : List fx_V} {S : fx_S} {post : Int32 → fx_S → Prop} (hy : plainName y.cls = true) (hw : ws = Cond.code y cc nL ret :: ws') (hq : ∀ i j, i < ly.length → j < ly.length → q i = q j → i = j) (hlen : av.length ≤ nL)
    (body : ∀ (p : Program) (e : Env) (s : State) (m : MethodId) (args : Array Value) (below : List Frame) (meth : Method) (c : Code), fx_C p s m args meth c cc nL ws y.cls D cl cA q ly.length → meth.sig.returnType = ret → (∀ w ∈ nwl, va_Nw w s) → fx_W p l e rm s m args below meth c (MQ below (fx_Qc D cl cA q ly z post) args s 0 0 (fx_A q ly.length)) (fx_A q ly.length) 0 0 (fx_P D cl cA q ly) q nL 0 av [] S) : fx_Met l D cl cA q ly nwl y ws rm z av S post := by
  refine Met.ofW (cc := cc) (maxL := nL) (ret := ret) hy hw ?_
  intro p e s m args below meth c s₁ B hml hv
  obtain ⟨rfl, hP, hK, hnw⟩ := hv
  have hown : s.vm.findClass y.cls = some m.cls := findClass_of_methodNamed B.named
  have hl := lv_entry (av.map (fx_v q)) (n := nL) (by rw [fx_sl_len]; exact hlen)
  rw [lg_entry_eq]
  refine body p e s m _ below meth c ⟨⟨B.exec, B.bytes, hml, hown, atoms_spec (ws := ws) B.pre⟩, hK, hq, B.notSynchronized⟩ B.returns hnw _ s.heap [] (fx_has_mono hl (fun x hx => ?_)) hP va_S.rf
  obtain ⟨i, v, hi, rfl⟩ := fx_ls_mem.mp hx
  have := fx_args_mem (q := q) av 0 i v hi
  simpa using this
