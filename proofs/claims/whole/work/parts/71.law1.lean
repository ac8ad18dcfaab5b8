/-! the law over both worlds -/
abbrev LS2 : Type := fx_S × fx_S
def lw_W2 (D : va_G) (cA : Nat → ClassId) (qX qM : Nat → Nat) (S : LS2) (H : Heap) : Prop := va_P D vwCl (fx_w cA qX lyX S.1) H ∧ va_P D vwCl (fx_w cA qM lyM S.2) H
def lw_q (qX qM : Nat → Nat) (b : Nat) : Nat → Nat := fun k => match k with
  | 0 => qX 0
  | 1 => qM 0
  | _ => b
theorem tb_good0 {c2 : Cond} (h : c2 ∈ TB) : GoodIn TB (c2 :: TB) := by
  intro w hw
  rcases List.mem_cons.mp hw with rfl | hw
  · exact ⟨h, good_of_word (List.mem_filter.mp h).2⟩
  · exact ⟨hw, good_of_word (List.mem_filter.mp hw).2⟩
def lw_C (p : Program) (s : State) (m : MethodId) (meth : Method) (c : Code) (b L : Nat) (xs : Nat → Int32) (D : va_G) (cA : Nat → ClassId) (qX qM : Nat → Nat) : Prop :=
  CallFix p m c code 4 s #[Value.ref b] TB R_law ∧ va_K D vwCl (fx_ty cA) s ∧ (∀ w ∈ nwl, va_Nw w s) ∧ va_X b L xs s s.heap ∧ b < s.heap.size ∧ (∀ k, k < 28 → s.heap.size ≤ qX k) ∧ (∀ k, k < 23 → s.heap.size ≤ qM k) ∧ (∀ i j, i < 28 → j < 23 → qX i ≠ qM j) ∧ (∀ i j, i < 28 → j < 28 → qX i = qX j → i = j) ∧ (∀ i j, i < 23 → j < 23 → qM i = qM j → i = j) ∧ meth.locks = false ∧ meth.sig.returnType = ret
def fx_pin : Nat → List Int32 → List fx_V → (List Int32 → List fx_V → Prop) → Prop
  | 0, acc, st, k => k acc st
  | n + 1, acc, .inl x :: st, k => fx_pin n (x :: acc) st k
  | _ + 1, _, _, _ => False
theorem fx_pin_e : ∀ (n : Nat) (acc : List Int32) (st : List fx_V) (k : List Int32 → List fx_V → Prop), fx_pin n acc st k → ∃ as r, as.length = n ∧ st = (as.map Sum.inl).reverse ++ r ∧ k (as ++ acc) r
  | 0, acc, st, k, h => ⟨[], st, rfl, rfl, h⟩
  | n + 1, acc, [], k, h => h.elim
  | n + 1, acc, .inr a :: st, k, h => h.elim
  | n + 1, acc, .inl a :: st, k, h => by
    obtain ⟨as, r, h1, h2, h3⟩ := fx_pin_e n (a :: acc) st k h
    refine ⟨as ++ [a], r, by simp [h1], by simp [h2], by simpa using h3⟩
def fm_sld (L : Nat) (xs : Nat → Int32) (nx : Nat) : fx_M LS2 := fun k ls st S => fx_pi st fun i st => fx_pr st fun a st => bif Nat.beq a 2 then vp_in i L ∧ k nx ls (.inl (xs i.toNatClampNeg) :: st) S else False
def fm_slen (L nx : Nat) : fx_M LS2 := fun k ls st S => fx_pr st fun a st => bif Nat.beq a 2 then k nx ls (.inl (nI L) :: st) S else False
def fm_lret : fx_M LS2 := fun _ _ st _ => fx_pi st fun x st => match st with
  | [] => x = 1
  | _ :: _ => False
def fm_lx (z : Bool) (n : Nat) (CM : List fx_V → fx_S → (Int32 → fx_S → Prop) → Prop) (nx : Nat) : fx_M LS2 := fun k ls st S => fx_pin n [] st fun as st => fx_pr st fun a st => bif Nat.beq a 0 && Nat.ble st.length 8 then ∃ post, CM (.inr 0 :: as.map Sum.inl) S.1 post ∧ ∀ r S', post r S' → k nx ls (bif z then .inl r :: st else st) (S', S.2) else False
def fm_lm (z : Bool) (n : Nat) (CM : List fx_V → fx_S → (Int32 → fx_S → Prop) → Prop) (nx : Nat) : fx_M LS2 := fun k ls st S => fx_pin n [] st fun as st => fx_pr st fun a st => bif Nat.beq a 1 && Nat.ble st.length 8 then ∃ post, CM (.inr 0 :: as.map Sum.inl) S.2 post ∧ ∀ r S', post r S' → k nx ls (bif z then .inl r :: st else st) (S.1, S') else False
section LAWR
variable {l : Launch} {D : va_G} {cA : Nat → ClassId} {qX qM : Nat → Nat} {p : Program} {e : Env} {s : State} {m : MethodId} {below : List Frame} {meth : Method} {c : Code} {b L : Nat} {xs : Nat → Int32} {pc : Nat}
theorem fs_tableL {R : Room} {args : Array Value} {Q : State → Prop} {A : Nat → Prop} {cs sl : Nat} {σ : Type} {WP : σ → Heap → Prop} {q : Nat → Nat} {nL : Nat} {cc : ByteArray} {Ts : List Cond} {own : String} (h : CallFix p m c cc nL s args Ts own) {dflt lo hi : Int} {offs : Array Int} {len d : Nat} (n : Nat) {cl : List (Int32 × Nat)} (hd : decode cc pc = .ok (.tableswitch dflt lo hi offs, len)) (hn : hi < lo + n) (h1 : (List.range n).all (fun j => match offs[j]? with | some o => decide ((pc : Int) + o = (fx_tg (Int32.ofInt (lo + j)) cl d : Int)) | none => false) = true) (h2 : cl.all (fun x => decide (lo ≤ x.1.toInt ∧ x.1.toInt ≤ hi)) = true) (h3 : (pc : Int) + dflt = (d : Int)) : fx_Snd (fx_W p l e R s m args below meth c Q A cs sl WP q nL) pc (fm_sw cl d) := by
  intro k ls st S hk hf LS H locs hl hP hS
  obtain ⟨x, r, rfl, hf1⟩ := fx_pi_e hf
  have hf2 := fx_sw_tg _ _ _ hf1
  by_cases ho : x.toInt < lo ∨ hi < x.toInt
  · have he : fx_tg x cl d = d := fx_tg_out cl d (fun c0 hc0 he => by
      have := of_decide_eq_true (List.all_eq_true.mp h2 c0 hc0)
      rw [← he] at this
      omega)
    rw [he] at hf2
    exact lv_tableOut h.1 h.2.1 hd ho h3 (hk _ _ _ _ hf2 LS H locs hl hP hS)
  · have hx : lo + ((x.toInt - lo).toNat : Int) = x.toInt := by omega
    have hlt : (x.toInt - lo).toNat < n := by omega
    have h9 := List.all_eq_true.mp h1 _ (List.mem_range.mpr hlt)
    rw [hx, Int32.ofInt_toInt] at h9
    cases ho2 : offs[(x.toInt - lo).toNat]? with
    | none => rw [ho2] at h9; cases h9
    | some o =>
      rw [ho2] at h9
      exact lv_tableIn h.1 h.2.1 hd (by omega) (by omega) ho2 (of_decide_eq_true h9) (hk _ _ _ _ hf2 LS H locs hl hP hS)
abbrev lw_J0 (l : Launch) (D : va_G) (cA : Nat → ClassId) (qX qM : Nat → Nat) (p : Program) (e : Env) (s : State) (m : MethodId) (below : List Frame) (meth : Method) (c : Code) (b : Nat) : fx_J LS2 := fx_W p l e room_1 s m #[Value.ref b] below meth c (lw_Z below #[Value.ref b] s) (fun a => s.heap.size ≤ a) 51 7676 (lw_W2 D cA qX qM) (lw_q qX qM b) 4
theorem fs_sld (h : lw_C p s m meth c b L xs D cA qX qM) (hd : decode code pc = .ok (.iaload, 1)) : fx_Snd (lw_J0 l D cA qX qM p e s m below meth c b) pc (fm_sld L xs (pc + 1)) := by
  intro k ls st S hk hf LS H locs hl hP hS
  obtain ⟨i, r, rfl, hf1⟩ := fx_pi_e hf
  obtain ⟨a, r, rfl, hf2⟩ := fx_pr_e hf1
  cases hb : Nat.beq a 2 with
  | false => rw [hb] at hf2; exact hf2.elim
  | true =>
    rw [hb] at hf2
    obtain rfl := Nat.eq_of_beq_eq_true hb
    have hbs : b < s.heap.size := h.2.2.2.2.1
    exact va_sld (A := fun a => s.heap.size ≤ a) (H0 := s.heap) h.1.1 h.1.2.1 h.2.2.2.1 hbs (Nat.not_le.mpr hbs) hS hf2.1 hd (hk _ _ _ _ hf2.2 LS H locs hl hP hS)
theorem fs_slen (h : lw_C p s m meth c b L xs D cA qX qM) (hd : decode code pc = .ok (.arraylength, 1)) : fx_Snd (lw_J0 l D cA qX qM p e s m below meth c b) pc (fm_slen L (pc + 1)) := by
  intro k ls st S hk hf LS H locs hl hP hS
  obtain ⟨a, r, rfl, hf2⟩ := fx_pr_e hf
  cases hb : Nat.beq a 2 with
  | false => rw [hb] at hf2; exact hf2.elim
  | true =>
    rw [hb] at hf2
    obtain rfl := Nat.eq_of_beq_eq_true hb
    have hbs : b < s.heap.size := h.2.2.2.2.1
    exact va_slen (A := fun a => s.heap.size ≤ a) (H0 := s.heap) h.1.1 h.1.2.1 h.2.2.2.1 hbs (Nat.not_le.mpr hbs) hS hd (hk _ _ _ _ hf2 LS H locs hl hP hS)
theorem fs_lret (h : lw_C p s m meth c b L xs D cA qX qM) (hd : decode code pc = .ok (.ireturn, 1)) : fx_Snd (lw_J0 l D cA qX qM p e s m below meth c b) pc fm_lret := by
  intro k ls st S hk hf LS H locs hl hP hS
  obtain ⟨x, r, rfl, hf1⟩ := fx_pi_e hf
  cases r with
  | cons a r => exact hf1.elim
  | nil =>
    have hx : x = 1 := hf1
    subst hx
    obtain ⟨h1, -, -, -, -, -, -, -, -, -, h11, h12⟩ := h
    exact va_forget hS.2.2 (lw_ret h1.1 h1.2.1 h12 h11 hd)
theorem lw_inl (q q' : Nat → Nat) (as : List Int32) : (as.map (Sum.inl : Int32 → fx_V)).map (fx_v q) = (as.map (Sum.inl : Int32 → fx_V)).map (fx_v q') := by
  simp [fx_v]
theorem lw_call {z : Bool} {post : Int32 → fx_S → Prop} {q : Nat → Nat} {ly : fx_L} {a : Array Value} {rest st0 : List Value} {LS : Array Slot} {H : Heap} {locs : List Loc} {Q : State → Prop} (hqs : ∀ k, k < ly.length → s.heap.size ≤ q k) (hr : va_Run p l e room_1 s m #[Value.ref b] below meth c H locs 51 7676 0 0 (F0 m pc LS st0) rest (fx_Qc D vwCl cA q ly z post a) (fx_A q ly.length)) (hS : va_S (fun a => s.heap.size ≤ a) s.heap H locs) (kk : ∀ (r : Int32) (S' : fx_S) (H1 : Heap) (locs1 : List Loc), post r S' → va_P D vwCl (fx_w cA q ly S') H1 → (∀ x : Nat, x < H.size → ¬ fx_A q ly.length x → H1[x]? = H[x]?) → va_S (fun a => s.heap.size ≤ a) s.heap H1 locs1 → W p l e room_1 s m #[Value.ref b] below meth c H1 locs1 51 7676 Q (F0 m (pc + 3) LS ((bif z then some (Value.int r) else none).toList ++ rest))) : W p l e room_1 s m #[Value.ref b] below meth c H locs 51 7676 Q (F0 m pc LS st0) := by
  intro T hT X
  obtain ⟨v, st₀, t, T', L, h0, X', hL, e1, e2, ⟨⟨r, S', hv, hp, hb⟩, hz, hk⟩, st⟩ := hr T hT X
  have hv' : v = (bif z then some (Value.int r) else none) := by injection hv
  subst hv'
  rw [h0] at hz hk
  have hfa : ∀ x, fx_A q ly.length x → s.heap.size ≤ x := fun x ⟨k, hk1, hk2⟩ => by rw [hk2]; exact hqs k hk1
  obtain ⟨t2, a1, b1⟩ := kk r S' T'.heap (locs ++ L) hp (by rw [e1]; exact hb) (fun x h1 h2 => by rw [e1]; exact hk x h1 h2)
    ⟨Nat.le_trans hS.1 (by rw [e1]; exact hz), fun x h1 h2 => by rw [e1, hk x (Nat.lt_of_lt_of_le h1 hS.1) (fun q9 => h2 (hfa x q9))]; exact hS.2.1 x h1 h2, fun x hx => by
      rcases List.mem_append.mp hx with h | h
      · exact hS.2.2 x h
      · exact hfa _ (hL x h)⟩ T' rfl X'
  exact ⟨t2, st t2 a1, b1⟩
theorem lw_stay {q q' : Nat → Nat} {ly ly' : fx_L} {S : fx_S} {H H1 : Heap} (hd : ∀ i j, i < ly.length → j < ly'.length → q i ≠ q' j) (hP : va_P D vwCl (fx_w cA q' ly' S) H) (hk : ∀ x : Nat, x < H.size → ¬ fx_A q ly.length x → H1[x]? = H[x]?) : va_P D vwCl (fx_w cA q' ly' S) H1 := by
  refine hP.kept (fun k x hx => ?_)
  obtain ⟨h1, h2⟩ := fx_w_of hx
  refine hk _ ((hP k x hx).lt) ?_
  rintro ⟨i, hi, e⟩
  exact hd i k hi h1 (by rw [← e, h2])
theorem fs_lx (h : lw_C p s m meth c b L xs D cA qX qM) {y : MethodName} {bytes : ByteArray} {maxL n index : Nat} {ret : Option FieldType} {ws : List Cond} {rm : Room} {z : Bool} (cw : CallW room_1 s #[Value.ref b] R_law R_Fc index y bytes maxL ret ws rm 0 0 n) (hd : decode code pc = .ok (.invokevirtual index, 3)) : fx_Snd (lw_J0 l D cA qX qM p e s m below meth c b) pc (fm_lx z n (fx_Met l D vwCl cA qX lyX nwl y ws rm z) (pc + 3)) := by
  intro k ls st S hk hf LS H locs hl hP hS
  obtain ⟨as, r, hn, rfl, hf1⟩ := fx_pin_e _ _ _ _ hf
  obtain ⟨a, r, rfl, hf2⟩ := fx_pr_e hf1
  cases hb : (Nat.beq a 0 && Nat.ble r.length 8) with
  | false => rw [hb] at hf2; exact hf2.elim
  | true =>
    rw [hb] at hf2
    have h12 := hb
    rw [Bool.and_eq_true] at h12
    obtain rfl := Nat.eq_of_beq_eq_true h12.1
    obtain ⟨post, hM, hf3⟩ := hf2
    rw [List.append_nil] at hM
    obtain ⟨hF, hK, hnw, -, -, hqX, hqM, hXM, -⟩ := h
    obtain ⟨fs0, hx0⟩ : ∃ fs : List (Option Nat), lyX[0]? = some (.inr (0, fs)) := ⟨_, rfl⟩
    refine lw_call (q := qX) (ly := lyX) hqX (va_runV (As := (as.map (Sum.inl : Int32 → fx_V)).map (fx_v qX)) (rest := r.map (fx_v (lw_q qX qM b))) (b := qX 0) hF hM cw ⟨fx_blind nwl_ok, va_recv hK hP.1 (ci := 0) (q0 := 0) rfl (fx_w_at hx0), fun U hU hW => ⟨rfl, by rw [hU]; exact hP.1, va_K.moved hW.alike hK, fun w hw => (nwl_ok w hw).2 s U hW (hnw w hw)⟩⟩ rfl (by rw [List.length_map, List.length_map]; exact hn) hl.1 (by rw [lw_inl qX (lw_q qX qM b)]; exact fx_stk) (lv_room (by rw [fx_cats]; exact Nat.le_of_ble_eq_true h12.2)) hd ⟨Nat.le_refl _, Nat.le_refl _⟩) hS (fun r' S' H1 locs1 hp hP1 hk1 hS1 => ?_)
    have := hk _ _ _ _ (hf3 r' S' hp) LS H1 locs1 hl ⟨hP1, lw_stay (q := qX) (ly := lyX) hXM hP.2 hk1⟩ hS1
    rw [fx_after] at this
    exact this
theorem fs_lm (h : lw_C p s m meth c b L xs D cA qX qM) {y : MethodName} {bytes : ByteArray} {maxL n index : Nat} {ret : Option FieldType} {ws : List Cond} {rm : Room} {z : Bool} (cw : CallW room_1 s #[Value.ref b] R_law R_Md index y bytes maxL ret ws rm 0 0 n) (hd : decode code pc = .ok (.invokevirtual index, 3)) : fx_Snd (lw_J0 l D cA qX qM p e s m below meth c b) pc (fm_lm z n (fx_Met l D vwCl cA qM lyM nwl y ws rm z) (pc + 3)) := by
  intro k ls st S hk hf LS H locs hl hP hS
  obtain ⟨as, r, hn, rfl, hf1⟩ := fx_pin_e _ _ _ _ hf
  obtain ⟨a, r, rfl, hf2⟩ := fx_pr_e hf1
  cases hb : (Nat.beq a 1 && Nat.ble r.length 8) with
  | false => rw [hb] at hf2; exact hf2.elim
  | true =>
    rw [hb] at hf2
    have h12 := hb
    rw [Bool.and_eq_true] at h12
    obtain rfl := Nat.eq_of_beq_eq_true h12.1
    obtain ⟨post, hM, hf3⟩ := hf2
    rw [List.append_nil] at hM
    obtain ⟨hF, hK, hnw, -, -, hqX, hqM, hXM, -⟩ := h
    obtain ⟨fs0, hx0⟩ : ∃ fs : List (Option Nat), lyM[0]? = some (.inr (7, fs)) := ⟨_, rfl⟩
    refine lw_call (q := qM) (ly := lyM) hqM (va_runV (As := (as.map (Sum.inl : Int32 → fx_V)).map (fx_v qM)) (rest := r.map (fx_v (lw_q qX qM b))) (b := qM 0) hF hM cw ⟨fx_blind nwl_ok, va_recv hK hP.2 (ci := 7) (q0 := 0) rfl (fx_w_at hx0), fun U hU hW => ⟨rfl, by rw [hU]; exact hP.2, va_K.moved hW.alike hK, fun w hw => (nwl_ok w hw).2 s U hW (hnw w hw)⟩⟩ rfl (by rw [List.length_map, List.length_map]; exact hn) hl.1 (by rw [lw_inl qM (lw_q qX qM b)]; exact fx_stk) (lv_room (by rw [fx_cats]; exact Nat.le_of_ble_eq_true h12.2)) hd ⟨Nat.le_refl _, Nat.le_refl _⟩) hS (fun r' S' H1 locs1 hp hP1 hk1 hS1 => ?_)
    have := hk _ _ _ _ (hf3 r' S' hp) LS H1 locs1 hl ⟨lw_stay (q := qM) (ly := lyM) (fun i j hi hj e => hXM j i hj hi e.symm) hP.1 hk1, hP1⟩ hS1
    rw [fx_after] at this
    exact this
end LAWR
