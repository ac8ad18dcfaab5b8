section
/-! A small abstract machine over the kit's rows. A world is a layout (which cells there are, how they point at each other) and a
state S : Nat → Nat → Int32 (cell, place ↦ int). A value is an int or the number of a cell. The judgement fx_W says of an abstract
frame what W says of every frame that it pictures. A row of a table gives an instruction's meaning as a transformer of judgements
(fm_..), and its soundness (fs_..) is proved once; a method's walk is then an evaluation (fx_go). -/
abbrev fx_V : Type := Int32 ⊕ Nat
abbrev fx_S : Type := Nat → Nat → Int32
abbrev fx_L : Type := List ((Nat × Nat) ⊕ (Nat × List (Option Nat)))
def fx_v (q : Nat → Nat) : fx_V → Value
  | .inl x => .int x
  | .inr k => .ref (q k)
def fx_f (q : Nat → Nat) (r : Nat → Int32) (j : Nat) : Option Nat → Value
  | none => .int (r j)
  | some d => .ref (q d)
def fx_e (cA : Nat → ClassId) (q : Nat → Nat) (r : Nat → Int32) : (Nat × Nat) ⊕ (Nat × List (Option Nat)) → va_E
  | .inl (t, n) => .inl (cA t, n, .inl r)
  | .inr (ci, fs) => .inr (ci, fs.mapIdx (fx_f q r))
def fx_w (cA : Nat → ClassId) (q : Nat → Nat) (ly : fx_L) (S : fx_S) : va_W := ly.mapIdx (fun k c => (q k, fx_e cA q (S k) c))
def fx_A (q : Nat → Nat) (n : Nat) : Nat → Prop := fun a => ∃ k, k < n ∧ a = q k
def fx_ty (cA : Nat → ClassId) : List (ClassId × FieldType) := [(cA 0, .int), (cA 1, .boolean)]
/-- one place of the state -/
def fx_up (S : fx_S) (k i : Nat) (x : Int32) : fx_S := fun a j => if a = k then (if j = i then x else S a j) else S a j
theorem fx_up_row (S : fx_S) (k i : Nat) (x : Int32) : fx_up S k i x k = upd (S k) i x := by
  funext j; simp [fx_up, upd]
theorem fx_up_ne (S : fx_S) {k a : Nat} (i : Nat) (x : Int32) (h : a ≠ k) : fx_up S k i x a = S a := by
  funext j; simp [fx_up, h]
theorem fx_cat (q : Nat → Nat) (v : fx_V) : (fx_v q v).category = 1 := by cases v <;> rfl
section FXW
variable {cA : Nat → ClassId} {q : Nat → Nat} {ly : fx_L} {S S' : fx_S}
theorem fx_w_at {k : Nat} {c : (Nat × Nat) ⊕ (Nat × List (Option Nat))} (h : ly[k]? = some c) : (fx_w cA q ly S)[k]? = some (q k, fx_e cA q (S k) c) := by
  simp [fx_w, List.getElem?_mapIdx, h]
theorem fx_w_of {k : Nat} {x : Nat × va_E} (h : (fx_w cA q ly S)[k]? = some x) : k < ly.length ∧ x.1 = q k := by
  rw [fx_w, List.getElem?_mapIdx] at h
  cases hc : ly[k]? with
  | none => rw [hc] at h; cases h
  | some c =>
    rw [hc] at h
    cases h
    exact ⟨(List.getElem?_eq_some_iff.mp hc).1, rfl⟩
theorem fx_w_set {k : Nat} {c : (Nat × Nat) ⊕ (Nat × List (Option Nat))} (h : ly[k]? = some c) (ho : ∀ j, j ≠ k → S' j = S j) : (fx_w cA q ly S).set k (q k, fx_e cA q (S' k) c) = fx_w cA q ly S' := by
  have hl : k < (fx_w cA q ly S).length := (List.getElem?_eq_some_iff.mp (fx_w_at (cA := cA) (q := q) (S := S) h)).1
  apply List.ext_getElem?
  intro j
  by_cases hj : j = k
  · subst hj
    rw [List.getElem?_set_self hl, fx_w_at h]
  · rw [List.getElem?_set_ne (Ne.symm hj)]
    simp [fx_w, List.getElem?_mapIdx, ho j hj]
theorem fx_D {A : Nat → Prop} (hq : ∀ i j, i < ly.length → j < ly.length → q i = q j → i = j) (hA : ∀ k, k < ly.length → A (q k)) : va_D A (fx_w cA q ly S) := by
  refine ⟨fun i j x y hi hj hxy => ?_, fun k x hk => ?_⟩
  · obtain ⟨l1, e1⟩ := fx_w_of hi
    obtain ⟨l2, e2⟩ := fx_w_of hj
    exact hq i j l1 l2 (by rw [← e1, ← e2]; exact hxy)
  · obtain ⟨l1, e1⟩ := fx_w_of hk
    rw [e1]; exact hA k l1
end FXW
/-! locals -/
def fx_ls (q : Nat → Nat) (ls : List fx_V) : List (Nat × Value) := ls.mapIdx (fun i v => (i, fx_v q v))
def fx_nth : List fx_V → Nat → Option fx_V
  | [], _ => none
  | a :: _, 0 => some a
  | _ :: l, n + 1 => fx_nth l n
def fx_set : List fx_V → Nat → fx_V → List fx_V
  | [], 0, v => [v]
  | [], _ + 1, _ => []
  | _ :: l, 0, v => v :: l
  | a :: l, n + 1, v => a :: fx_set l n v
theorem fx_nth_eq : ∀ (l : List fx_V) (i : Nat), fx_nth l i = l[i]?
  | [], i => by simp [fx_nth]
  | a :: l, 0 => by simp [fx_nth]
  | a :: l, n + 1 => by simp [fx_nth, fx_nth_eq l n]
theorem fx_set_at : ∀ (l : List fx_V) (i : Nat) (v : fx_V) (j : Nat) (w : fx_V), (fx_set l i v)[j]? = some w → (j = i ∧ w = v) ∨ (j ≠ i ∧ l[j]? = some w)
  | [], 0, v, 0, w, h => by simp [fx_set] at h; exact Or.inl ⟨rfl, h.symm⟩
  | [], 0, v, j + 1, w, h => by simp [fx_set] at h
  | [], i + 1, v, j, w, h => by simp [fx_set] at h
  | a :: l, 0, v, 0, w, h => by simp [fx_set] at h; exact Or.inl ⟨rfl, h.symm⟩
  | a :: l, 0, v, j + 1, w, h => by simp [fx_set] at h; exact Or.inr ⟨by omega, by simpa using h⟩
  | a :: l, i + 1, v, 0, w, h => by simp [fx_set] at h; exact Or.inr ⟨by omega, by simpa using h⟩
  | a :: l, i + 1, v, j + 1, w, h => by
    simp only [fx_set, List.getElem?_cons_succ] at h
    rcases fx_set_at l i v j w h with ⟨h1, h2⟩ | ⟨h1, h2⟩
    · exact Or.inl ⟨by omega, h2⟩
    · exact Or.inr ⟨by omega, by simpa using h2⟩
theorem fx_ls_mem {q : Nat → Nat} {ls : List fx_V} {x : Nat × Value} : x ∈ fx_ls q ls ↔ ∃ (i : Nat) (v : fx_V), ls[i]? = some v ∧ x = (i, fx_v q v) := by
  constructor
  · intro h
    obtain ⟨i, hi⟩ := List.getElem?_of_mem h
    rw [fx_ls, List.getElem?_mapIdx] at hi
    cases hc : ls[i]? with
    | none => rw [hc] at hi; cases hi
    | some v => rw [hc] at hi; cases hi; exact ⟨i, v, hc, rfl⟩
  · rintro ⟨i, v, h, rfl⟩
    refine List.mem_of_getElem? (i := i) ?_
    rw [fx_ls, List.getElem?_mapIdx, h]; rfl
theorem fx_has_mono {LS : Array Slot} {n : Nat} {l l' : List (Nat × Value)} (h : lv_has LS n l) (hs : ∀ x ∈ l', x ∈ l) : lv_has LS n l' := ⟨h.1, h.2.1, fun x hx => h.2.2 x (hs x hx)⟩
theorem fx_has_set {q : Nat → Nat} {LS : Array Slot} {n i : Nat} {ls : List fx_V} {v : fx_V} (h : lv_has LS n ((i, fx_v q v) :: (fx_ls q ls).filter (fun x => !(x.1 == i) && !(x.1 + 1 == i && x.2.category == 2)))) : lv_has LS n (fx_ls q (fx_set ls i v)) := by
  refine fx_has_mono h (fun x hx => ?_)
  obtain ⟨j, w, hj, rfl⟩ := fx_ls_mem.mp hx
  rcases fx_set_at ls i v j w hj with ⟨rfl, rfl⟩ | ⟨h1, h2⟩
  · exact List.mem_cons_self
  · refine List.mem_cons_of_mem _ (List.mem_filter.mpr ⟨fx_ls_mem.mpr ⟨j, w, h2, rfl⟩, ?_⟩)
    simp [h1, fx_cat]
theorem fx_has_take {q : Nat → Nat} {LS : Array Slot} {n k : Nat} {ls : List fx_V} (h : lv_has LS n (fx_ls q ls)) : lv_has LS n (fx_ls q (ls.take k)) := by
  refine fx_has_mono h (fun x hx => ?_)
  obtain ⟨j, w, hj, rfl⟩ := fx_ls_mem.mp hx
  rw [List.getElem?_take] at hj
  by_cases hk : j < k
  · rw [if_pos hk] at hj; exact fx_ls_mem.mpr ⟨j, w, hj, rfl⟩
  · rw [if_neg hk] at hj; cases hj
theorem fx_has_at {q : Nat → Nat} {LS : Array Slot} {n i : Nat} {ls : List fx_V} {v : fx_V} (h : lv_has LS n (fx_ls q ls)) (hi : fx_nth ls i = some v) : LS[i]? = some (.val (fx_v q v)) :=
  h.2.2 (i, fx_v q v) (fx_ls_mem.mpr ⟨i, v, by rw [← fx_nth_eq]; exact hi, rfl⟩)
theorem fx_args_mem {q : Nat → Nat} : ∀ (av : List fx_V) (o i : Nat) (v : fx_V), av[i]? = some v → (o + i, fx_v q v) ∈ lv_args o (av.map (fx_v q))
  | [], o, i, v, h => by simp at h
  | a :: av, o, 0, v, h => by
    simp at h; subst h
    simp [lv_args]
  | a :: av, o, i + 1, v, h => by
    simp only [List.getElem?_cons_succ] at h
    simp only [List.map_cons, lv_args, fx_cat]
    refine List.mem_cons_of_mem _ ?_
    have := fx_args_mem (q := q) av (o + 1) i v h
    rw [show o + (i + 1) = o + 1 + i by omega]
    simpa using this
theorem fx_sl_len {q : Nat → Nat} : ∀ av : List fx_V, (lg_sl (av.map (fx_v q))).length = av.length
  | [] => rfl
  | a :: av => by
    have := fx_sl_len (q := q) av
    simp only [lg_sl, List.map_cons, List.flatMap_cons, fx_cat] at this ⊢
    simp [this]
theorem fx_cats {q : Nat → Nat} : ∀ st : List fx_V, ((st.map (fx_v q)).map fun v => v.category).sum = st.length
  | [] => rfl
  | a :: st => by
    have := fx_cats (q := q) st
    simp only [List.map_cons, List.sum_cons, fx_cat, List.length_cons] at this ⊢
    omega
/-! the judgement, meanings, evaluation -/
def fx_W (p : Program) (l : Launch) (e : Env) (R : Room) (s : State) (m : MethodId) (args : Array Value) (below : List Frame) (meth : Method) (c : Code) (Q : State → Prop) (A : Nat → Prop) (cs sl : Nat) {σ : Type} (WP : σ → Heap → Prop) (q : Nat → Nat) (nL : Nat) (pc : Nat) (ls st : List fx_V) (S : σ) : Prop :=
  ∀ (LS : Array Slot) (H : Heap) (locs : List Loc), lv_has LS nL (fx_ls q ls) → WP S H → va_S A s.heap H locs → W p l e R s m args below meth c H locs cs sl Q (F0 m pc LS (st.map (fx_v q)))
abbrev fx_J (σ : Type) : Type := Nat → List fx_V → List fx_V → σ → Prop
abbrev fx_M (σ : Type) : Type := fx_J σ → List fx_V → List fx_V → σ → Prop
def fx_Snd {σ : Type} (J : fx_J σ) (pc : Nat) (f : fx_M σ) : Prop := ∀ (k : fx_J σ) (ls st : List fx_V) (S : σ), (∀ pc' ls' st' S', k pc' ls' st' S' → J pc' ls' st' S') → f k ls st S → J pc ls st S
def fx_lk {α : Type} : List (Nat × α) → Nat → Option α
  | [], _ => none
  | (a, x) :: l, k => bif Nat.beq a k then some x else fx_lk l k
theorem fx_lk_mem {α : Type} : ∀ (l : List (Nat × α)) (k : Nat) (x : α), fx_lk l k = some x → (k, x) ∈ l
  | [], k, x, h => by simp [fx_lk] at h
  | (a, y) :: l, k, x, h => by
    simp only [fx_lk] at h
    cases hb : Nat.beq a k with
    | true =>
      rw [hb] at h
      simp only [cond_true] at h
      cases h
      rw [Nat.eq_of_beq_eq_true hb]
      exact List.mem_cons_self
    | false =>
      rw [hb] at h
      exact List.mem_cons_of_mem _ (fx_lk_mem l k x h)
def fx_run {σ : Type} (J : fx_J σ) (T : List (Nat × fx_M σ)) (stop : List (Nat × Nat)) : Nat → Nat → List fx_V → List fx_V → σ → Prop
  | 0, pc, ls, st, S => J pc ls st S
  | n + 1, pc, ls, st, S => match fx_lk stop pc with
    | some k => J pc (ls.take k) st S
    | none => match fx_lk T pc with
      | none => J pc ls st S
      | some f => f (fx_run J T stop n) ls st S
def fx_go {σ : Type} (J : fx_J σ) (T : List (Nat × fx_M σ)) (stop : List (Nat × Nat)) (n pc : Nat) (ls st : List fx_V) (S : σ) : Prop := match fx_lk T pc with
  | none => J pc ls st S
  | some f => f (fx_run J T stop n) ls st S
theorem fx_run_ok {σ : Type} {J : fx_J σ} {T : List (Nat × fx_M σ)} {stop : List (Nat × Nat)} (hT : ∀ r ∈ T, fx_Snd J r.1 r.2) (ht : ∀ pc k ls st S, J pc (ls.take k) st S → J pc ls st S) : ∀ (n pc : Nat) (ls st : List fx_V) (S : σ), fx_run J T stop n pc ls st S → J pc ls st S
  | 0, pc, ls, st, S, h => h
  | n + 1, pc, ls, st, S, h => by
    unfold fx_run at h
    cases hs : fx_lk stop pc with
    | some k => rw [hs] at h; exact ht _ _ _ _ _ h
    | none =>
      rw [hs] at h
      cases hf : fx_lk T pc with
      | none => rw [hf] at h; exact h
      | some f =>
        rw [hf] at h
        exact hT _ (fx_lk_mem T pc f hf) _ ls st S (fx_run_ok hT ht n) h
theorem fx_go_ok {σ : Type} {J : fx_J σ} {T : List (Nat × fx_M σ)} (stop : List (Nat × Nat)) (n : Nat) {pc : Nat} {ls st : List fx_V} {S : σ} (hT : ∀ r ∈ T, fx_Snd J r.1 r.2) (ht : ∀ pc k ls st S, J pc (ls.take k) st S → J pc ls st S) (h : fx_go J T stop n pc ls st S) : J pc ls st S := by
  unfold fx_go at h
  cases hf : fx_lk T pc with
  | none => rw [hf] at h; exact h
  | some f =>
    rw [hf] at h
    exact hT _ (fx_lk_mem T pc f hf) _ ls st S (fx_run_ok hT ht n) h
theorem fx_W_take {p : Program} {l : Launch} {e : Env} {R : Room} {s : State} {m : MethodId} {args : Array Value} {below : List Frame} {meth : Method} {c : Code} {Q : State → Prop} {A : Nat → Prop} {cs sl : Nat} {σ : Type} {WP : σ → Heap → Prop} {q : Nat → Nat} {nL : Nat} : ∀ (pc k : Nat) (ls st : List fx_V) (S : σ), fx_W p l e R s m args below meth c Q A cs sl WP q nL pc (ls.take k) st S → fx_W p l e R s m args below meth c Q A cs sl WP q nL pc ls st S :=
  fun _ _ _ _ _ h LS H locs hl hP hS => h LS H locs (fx_has_take hl) hP hS
/-! popping -/
def fx_pi (st : List fx_V) (k : Int32 → List fx_V → Prop) : Prop := match st with
  | .inl x :: r => k x r
  | _ => False
def fx_pr (st : List fx_V) (k : Nat → List fx_V → Prop) : Prop := match st with
  | .inr a :: r => k a r
  | _ => False
def fx_pv (st : List fx_V) (k : fx_V → List fx_V → Prop) : Prop := match st with
  | a :: r => k a r
  | [] => False
def fx_pn : Nat → List fx_V → List fx_V → (List fx_V → List fx_V → Prop) → Prop
  | 0, acc, st, k => k acc st
  | _ + 1, _, [], _ => False
  | n + 1, acc, a :: st, k => fx_pn n (a :: acc) st k
theorem fx_pi_e {st : List fx_V} {k : Int32 → List fx_V → Prop} (h : fx_pi st k) : ∃ x r, st = .inl x :: r ∧ k x r := by
  match st, h with
  | .inl x :: r, h => exact ⟨x, r, rfl, h⟩
theorem fx_pr_e {st : List fx_V} {k : Nat → List fx_V → Prop} (h : fx_pr st k) : ∃ x r, st = .inr x :: r ∧ k x r := by
  match st, h with
  | .inr x :: r, h => exact ⟨x, r, rfl, h⟩
theorem fx_pv_e {st : List fx_V} {k : fx_V → List fx_V → Prop} (h : fx_pv st k) : ∃ x r, st = x :: r ∧ k x r := by
  match st, h with
  | x :: r, h => exact ⟨x, r, rfl, h⟩
theorem fx_pn_e : ∀ (n : Nat) (acc st : List fx_V) (k : List fx_V → List fx_V → Prop), fx_pn n acc st k → ∃ as r, as.length = n ∧ st = as.reverse ++ r ∧ k (as ++ acc) r
  | 0, acc, st, k, h => ⟨[], st, rfl, rfl, h⟩
  | n + 1, acc, [], k, h => h.elim
  | n + 1, acc, a :: st, k, h => by
    obtain ⟨as, r, h1, h2, h3⟩ := fx_pn_e n (a :: acc) st k h
    refine ⟨as ++ [a], r, by simp [h1], by simp [h2], by simpa using h3⟩
/-! meanings of the instructions -/
def fm_const {σ : Type} (v : Int32) (nx : Nat) : fx_M σ := fun k ls st S => k nx ls (.inl v :: st) S
def fm_load {σ : Type} (i nx : Nat) : fx_M σ := fun k ls st S => match fx_nth ls i with
  | some (.inl x) => k nx ls (.inl x :: st) S
  | _ => False
def fm_loada {σ : Type} (i nx : Nat) : fx_M σ := fun k ls st S => match fx_nth ls i with
  | some (.inr x) => k nx ls (.inr x :: st) S
  | _ => False
def fm_store {σ : Type} (i nx : Nat) : fx_M σ := fun k ls st S => fx_pi st fun x st => k nx (fx_set ls i (.inl x)) st S
def fm_storea {σ : Type} (i nx : Nat) : fx_M σ := fun k ls st S => fx_pr st fun x st => k nx (fx_set ls i (.inr x)) st S
def fm_inc {σ : Type} (i : Nat) (d : Int32) (nx : Nat) : fx_M σ := fun k ls st S => match fx_nth ls i with
  | some (.inl x) => k nx (fx_set ls i (.inl (x + d))) st S
  | _ => False
def fm_dup {σ : Type} (nx : Nat) : fx_M σ := fun k ls st S => fx_pv st fun a st => k nx ls (a :: a :: st) S
def fm_pop {σ : Type} (nx : Nat) : fx_M σ := fun k ls st S => fx_pv st fun _ st => k nx ls st S
def fm_dupx1 {σ : Type} (nx : Nat) : fx_M σ := fun k ls st S => fx_pv st fun a st => fx_pv st fun b st => k nx ls (a :: b :: a :: st) S
def fm_dupx2 {σ : Type} (nx : Nat) : fx_M σ := fun k ls st S => fx_pv st fun a st => fx_pv st fun b st => fx_pv st fun d st => k nx ls (a :: b :: d :: a :: st) S
def fm_dup2 {σ : Type} (nx : Nat) : fx_M σ := fun k ls st S => fx_pv st fun a st => fx_pv st fun b st => k nx ls (a :: b :: a :: b :: st) S
def fm_goto {σ : Type} (tg : Nat) : fx_M σ := fun k ls st S => k tg ls st S
def fm_get (c j nx : Nat) : fx_M fx_S := fun k ls st S => fx_pr st fun a st => bif Nat.beq a c then k nx ls (.inl (S c j) :: st) S else False
def fm_getr (c d nx : Nat) : fx_M fx_S := fun k ls st S => fx_pr st fun a st => bif Nat.beq a c then k nx ls (.inr d :: st) S else False
def fm_put (c j nx : Nat) : fx_M fx_S := fun k ls st S => fx_pi st fun x st => fx_pr st fun a st => bif Nat.beq a c then k nx ls st (fx_up S c j x) else False
def fm_putz (c j nx : Nat) : fx_M fx_S := fun k ls st S => fx_pi st fun x st => fx_pr st fun a st => bif Nat.beq a c then (x = 0 ∨ x = 1) ∧ k nx ls st (fx_up S c j x) else False
/-- a load: t the kind of the array, ln its length by the layout -/
def fm_ald (ln : List (Nat × Nat)) (nx : Nat) : fx_M fx_S := fun k ls st S => fx_pi st fun i st => fx_pr st fun a st => match fx_lk ln a with
  | some n => vp_in i n ∧ k nx ls (.inl (S a i.toNatClampNeg) :: st) S
  | none => False
def fm_ast (ln : List (Nat × Nat)) (nx : Nat) : fx_M fx_S := fun k ls st S => fx_pi st fun x st => fx_pi st fun i st => fx_pr st fun a st => match fx_lk ln a with
  | some n => vp_in i n ∧ k nx ls st (fx_up S a i.toNatClampNeg x)
  | none => False
def fm_zast (ln : List (Nat × Nat)) (nx : Nat) : fx_M fx_S := fun k ls st S => fx_pi st fun x st => fx_pi st fun i st => fx_pr st fun a st => match fx_lk ln a with
  | some n => (x = 0 ∨ x = 1) ∧ vp_in i n ∧ k nx ls st (fx_up S a i.toNatClampNeg x)
  | none => False
def fm_call (z : Bool) (c n : Nat) (CM : List fx_V → fx_S → (Int32 → fx_S → Prop) → Prop) (nx : Nat) : fx_M fx_S := fun k ls st S => fx_pn n [] st fun as st => fx_pr st fun a st => bif Nat.beq a c && Nat.ble st.length 8 then ∃ post, CM (.inr c :: as) S post ∧ ∀ r S', post r S' → k nx ls (bif z then .inl r :: st else st) S' else False
def fm_calls (z : Bool) (n : Nat) (CM : List fx_V → fx_S → (Int32 → fx_S → Prop) → Prop) (nx : Nat) : fx_M fx_S := fun k ls st S => fx_pn n [] st fun as st => bif Nat.ble st.length 8 then ∃ post, CM as S post ∧ ∀ r S', post r S' → k nx ls (bif z then .inl r :: st else st) S' else False
def fm_ret (post : Int32 → fx_S → Prop) : fx_M fx_S := fun _ _ st S => fx_pi st fun x st => match st with
  | [] => post x S
  | _ :: _ => False
def fm_zret (post : Int32 → fx_S → Prop) : fx_M fx_S := fun _ _ st S => fx_pi st fun x st => match st with
  | [] => (x = 0 ∨ x = 1) ∧ post x S
  | _ :: _ => False
def fm_vret (post : Int32 → fx_S → Prop) : fx_M fx_S := fun _ _ st S => match st with
  | [] => post 0 S
  | _ :: _ => False
def fx_sw (x : Int32) : List (Int32 × Nat) → Nat → (Nat → Prop) → Prop
  | [], d, k => k d
  | (a, t) :: cs, d, k => (x = a → k t) ∧ (¬ x = a → fx_sw x cs d k)
def fx_tg (x : Int32) : List (Int32 × Nat) → Nat → Nat
  | [], d => d
  | (a, t) :: cs, d => if x = a then t else fx_tg x cs d
def fm_sw {σ : Type} (cs : List (Int32 × Nat)) (d : Nat) : fx_M σ := fun k ls st S => fx_pi st fun x st => fx_sw x cs d (fun pc => k pc ls st S)
theorem fx_sw_tg {x : Int32} : ∀ (cs : List (Int32 × Nat)) (d : Nat) (k : Nat → Prop), fx_sw x cs d k → k (fx_tg x cs d)
  | [], d, k, h => h
  | (a, t) :: cs, d, k, h => by
    unfold fx_tg
    by_cases hx : x = a
    · rw [if_pos hx]; exact h.1 hx
    · rw [if_neg hx]; exact fx_sw_tg cs d k (h.2 hx)
theorem fx_tg_out {x : Int32} : ∀ (cs : List (Int32 × Nat)) (d : Nat), (∀ c ∈ cs, ¬ x = c.1) → fx_tg x cs d = d
  | [], d, h => rfl
  | (a, t) :: cs, d, h => by
    unfold fx_tg
    rw [if_neg (h _ List.mem_cons_self)]
    exact fx_tg_out cs d (fun c hc => h c (List.mem_cons_of_mem _ hc))
def fx_max (x y : Int32) : Int32 := if x < y then y else x
end
section
def fm_iadd {σ : Type} (nx : Nat) : fx_M σ := fun k ls st S => fx_pi st fun y st => fx_pi st fun x st => k nx ls (.inl (x + y) :: st) S
def fm_isub {σ : Type} (nx : Nat) : fx_M σ := fun k ls st S => fx_pi st fun y st => fx_pi st fun x st => k nx ls (.inl (x - y) :: st) S
def fm_imul {σ : Type} (nx : Nat) : fx_M σ := fun k ls st S => fx_pi st fun y st => fx_pi st fun x st => k nx ls (.inl (x * y) :: st) S
def fm_iand {σ : Type} (nx : Nat) : fx_M σ := fun k ls st S => fx_pi st fun y st => fx_pi st fun x st => k nx ls (.inl (x &&& y) :: st) S
def fm_ior {σ : Type} (nx : Nat) : fx_M σ := fun k ls st S => fx_pi st fun y st => fx_pi st fun x st => k nx ls (.inl (x ||| y) :: st) S
def fm_ixor {σ : Type} (nx : Nat) : fx_M σ := fun k ls st S => fx_pi st fun y st => fx_pi st fun x st => k nx ls (.inl (x ^^^ y) :: st) S
def fm_ishl {σ : Type} (nx : Nat) : fx_M σ := fun k ls st S => fx_pi st fun y st => fx_pi st fun x st => k nx ls (.inl (x <<< (y &&& 31)) :: st) S
def fm_ishr {σ : Type} (nx : Nat) : fx_M σ := fun k ls st S => fx_pi st fun y st => fx_pi st fun x st => k nx ls (.inl (x >>> (y &&& 31)) :: st) S
def fm_ifeq {σ : Type} (tg nx : Nat) : fx_M σ := fun k ls st S => fx_pi st fun x st => (x = 0 → k tg ls st S) ∧ (¬ x = 0 → k nx ls st S)
def fm_ifne {σ : Type} (tg nx : Nat) : fx_M σ := fun k ls st S => fx_pi st fun x st => (¬ x = 0 → k tg ls st S) ∧ (x = 0 → k nx ls st S)
def fm_iflt {σ : Type} (tg nx : Nat) : fx_M σ := fun k ls st S => fx_pi st fun x st => (x < 0 → k tg ls st S) ∧ (¬ x < 0 → k nx ls st S)
def fm_ifge {σ : Type} (tg nx : Nat) : fx_M σ := fun k ls st S => fx_pi st fun x st => (0 ≤ x → k tg ls st S) ∧ (¬ 0 ≤ x → k nx ls st S)
def fm_ifgt {σ : Type} (tg nx : Nat) : fx_M σ := fun k ls st S => fx_pi st fun x st => (0 < x → k tg ls st S) ∧ (¬ 0 < x → k nx ls st S)
def fm_ifle {σ : Type} (tg nx : Nat) : fx_M σ := fun k ls st S => fx_pi st fun x st => (x ≤ 0 → k tg ls st S) ∧ (¬ x ≤ 0 → k nx ls st S)
def fm_cmpeq {σ : Type} (tg nx : Nat) : fx_M σ := fun k ls st S => fx_pi st fun y st => fx_pi st fun x st => (x = y → k tg ls st S) ∧ (¬ x = y → k nx ls st S)
def fm_cmpne {σ : Type} (tg nx : Nat) : fx_M σ := fun k ls st S => fx_pi st fun y st => fx_pi st fun x st => (¬ x = y → k tg ls st S) ∧ (x = y → k nx ls st S)
def fm_cmplt {σ : Type} (tg nx : Nat) : fx_M σ := fun k ls st S => fx_pi st fun y st => fx_pi st fun x st => (x < y → k tg ls st S) ∧ (¬ x < y → k nx ls st S)
def fm_cmpge {σ : Type} (tg nx : Nat) : fx_M σ := fun k ls st S => fx_pi st fun y st => fx_pi st fun x st => (y ≤ x → k tg ls st S) ∧ (¬ y ≤ x → k nx ls st S)
def fm_cmpgt {σ : Type} (tg nx : Nat) : fx_M σ := fun k ls st S => fx_pi st fun y st => fx_pi st fun x st => (y < x → k tg ls st S) ∧ (¬ y < x → k nx ls st S)
def fm_cmple {σ : Type} (tg nx : Nat) : fx_M σ := fun k ls st S => fx_pi st fun y st => fx_pi st fun x st => (x ≤ y → k tg ls st S) ∧ (¬ x ≤ y → k nx ls st S)
section FXS
variable {p : Program} {l : Launch} {e : Env} {R : Room} {s : State} {m : MethodId} {args : Array Value} {below : List Frame} {meth : Method} {c : Code} {Q : State → Prop} {A : Nat → Prop} {cs sl : Nat} {σ : Type} {WP : σ → Heap → Prop} {q : Nat → Nat} {nL : Nat} {cc : ByteArray} {Ts : List Cond} {own : String} {pc : Nat}
theorem fs_const (h : CallFix p m c cc nL s args Ts own) {n : Int} {v : Int32} (hd : decode cc pc = .ok (.iconst n, 1)) (hv : Int32.ofInt n = v) : fx_Snd (fx_W p l e R s m args below meth c Q A cs sl WP q nL) pc (fm_const v (pc + 1)) :=
  fun _ _ _ _ hk hf LS H locs hl hP hS => lv_iconst h.1 h.2.1 hd hv (hk _ _ _ _ hf LS H locs hl hP hS)
theorem fs_bipush (h : CallFix p m c cc nL s args Ts own) {n : Int} {v : Int32} (hd : decode cc pc = .ok (.bipush n, 2)) (hv : (Int8.ofInt n).toInt32 = v) : fx_Snd (fx_W p l e R s m args below meth c Q A cs sl WP q nL) pc (fm_const v (pc + 2)) :=
  fun _ _ _ _ hk hf LS H locs hl hP hS => lv_bipush h.1 h.2.1 hd hv (hk _ _ _ _ hf LS H locs hl hP hS)
theorem fs_sipush (h : CallFix p m c cc nL s args Ts own) {n : Int} {v : Int32} (hd : decode cc pc = .ok (.sipush n, 3)) (hv : (Int16.ofInt n).toInt32 = v) : fx_Snd (fx_W p l e R s m args below meth c Q A cs sl WP q nL) pc (fm_const v (pc + 3)) :=
  fun _ _ _ _ hk hf LS H locs hl hP hS => lv_sipush h.1 h.2.1 hd hv (hk _ _ _ _ hf LS H locs hl hP hS)
theorem fs_ldc (h : CallFix p m c cc nL s args Ts own) {index : Nat} {v : Int32} (hw : (Jvm.Cond.constant own index v).before args s = true) (hd : decode cc pc = .ok (.ldc index, 2)) : fx_Snd (fx_W p l e R s m args below meth c Q A cs sl WP q nL) pc (fm_const v (pc + 2)) :=
  fun _ _ _ _ hk hf LS H locs hl hP hS => lv_ldc h.1 h.2.1 h.2.2.2.1 hw hd (hk _ _ _ _ hf LS H locs hl hP hS)
theorem fs_load_n (h : CallFix p m c cc nL s args Ts own) {kk : Fin 4} {i : Nat} (hd : decode cc pc = .ok (.iload_n kk, 1)) (hi : (kk : Nat) = i) : fx_Snd (fx_W p l e R s m args below meth c Q A cs sl WP q nL) pc (fm_load i (pc + 1)) := by
  intro k ls st S hk hf LS H locs hl hP hS
  unfold fm_load at hf
  cases hn : fx_nth ls i with
  | none => rw [hn] at hf; exact hf.elim
  | some v =>
    cases v with
    | inr a => rw [hn] at hf; exact hf.elim
    | inl x =>
      rw [hn] at hf
      exact lv_iload_n h.1 h.2.1 hd hi (fx_has_at hl hn) (hk _ _ _ _ hf LS H locs hl hP hS)
theorem fs_load (h : CallFix p m c cc nL s args Ts own) {i : Nat} (hd : decode cc pc = .ok (.iload i, 2)) : fx_Snd (fx_W p l e R s m args below meth c Q A cs sl WP q nL) pc (fm_load i (pc + 2)) := by
  intro k ls st S hk hf LS H locs hl hP hS
  unfold fm_load at hf
  cases hn : fx_nth ls i with
  | none => rw [hn] at hf; exact hf.elim
  | some v =>
    cases v with
    | inr a => rw [hn] at hf; exact hf.elim
    | inl x =>
      rw [hn] at hf
      exact lv_iload h.1 h.2.1 hd (fx_has_at hl hn) (hk _ _ _ _ hf LS H locs hl hP hS)
theorem fs_loada_n (h : CallFix p m c cc nL s args Ts own) {kk : Fin 4} {i : Nat} (hd : decode cc pc = .ok (.aload_n kk, 1)) (hi : (kk : Nat) = i) : fx_Snd (fx_W p l e R s m args below meth c Q A cs sl WP q nL) pc (fm_loada i (pc + 1)) := by
  intro k ls st S hk hf LS H locs hl hP hS
  unfold fm_loada at hf
  cases hn : fx_nth ls i with
  | none => rw [hn] at hf; exact hf.elim
  | some v =>
    cases v with
    | inl a => rw [hn] at hf; exact hf.elim
    | inr x =>
      rw [hn] at hf
      exact lv_aload_n h.1 h.2.1 hd hi (fx_has_at hl hn) (hk _ _ _ _ hf LS H locs hl hP hS)
theorem fs_loada (h : CallFix p m c cc nL s args Ts own) {i : Nat} (hd : decode cc pc = .ok (.aload i, 2)) : fx_Snd (fx_W p l e R s m args below meth c Q A cs sl WP q nL) pc (fm_loada i (pc + 2)) := by
  intro k ls st S hk hf LS H locs hl hP hS
  unfold fm_loada at hf
  cases hn : fx_nth ls i with
  | none => rw [hn] at hf; exact hf.elim
  | some v =>
    cases v with
    | inl a => rw [hn] at hf; exact hf.elim
    | inr x =>
      rw [hn] at hf
      exact lv_aload h.1 h.2.1 hd (fx_has_at hl hn) (hk _ _ _ _ hf LS H locs hl hP hS)
theorem fs_store_n (h : CallFix p m c cc nL s args Ts own) {kk : Fin 4} {i : Nat} (hd : decode cc pc = .ok (.istore_n kk, 1)) (hi : (kk : Nat) = i) (hn : i < nL) : fx_Snd (fx_W p l e R s m args below meth c Q A cs sl WP q nL) pc (fm_store i (pc + 1)) := by
  intro k ls st S hk hf LS H locs hl hP hS
  obtain ⟨x, r, rfl, hf1⟩ := fx_pi_e hf
  exact lv_istore_n h.1 h.2.1 hd hi hl hn rfl (fun LS' hl' => hk _ _ _ _ hf1 LS' H locs (fx_has_set hl') hP hS)
theorem fs_store (h : CallFix p m c cc nL s args Ts own) {i : Nat} (hd : decode cc pc = .ok (.istore i, 2)) (hn : i < nL) : fx_Snd (fx_W p l e R s m args below meth c Q A cs sl WP q nL) pc (fm_store i (pc + 2)) := by
  intro k ls st S hk hf LS H locs hl hP hS
  obtain ⟨x, r, rfl, hf1⟩ := fx_pi_e hf
  exact lv_istore h.1 h.2.1 hd hl hn rfl (fun LS' hl' => hk _ _ _ _ hf1 LS' H locs (fx_has_set hl') hP hS)
theorem fs_storea_n (h : CallFix p m c cc nL s args Ts own) {kk : Fin 4} {i : Nat} (hd : decode cc pc = .ok (.astore_n kk, 1)) (hi : (kk : Nat) = i) (hn : i < nL) : fx_Snd (fx_W p l e R s m args below meth c Q A cs sl WP q nL) pc (fm_storea i (pc + 1)) := by
  intro k ls st S hk hf LS H locs hl hP hS
  obtain ⟨x, r, rfl, hf1⟩ := fx_pr_e hf
  exact lv_astore_n h.1 h.2.1 hd hi hl hn rfl (fun LS' hl' => hk _ _ _ _ hf1 LS' H locs (fx_has_set hl') hP hS)
theorem fs_storea (h : CallFix p m c cc nL s args Ts own) {i : Nat} (hd : decode cc pc = .ok (.astore i, 2)) (hn : i < nL) : fx_Snd (fx_W p l e R s m args below meth c Q A cs sl WP q nL) pc (fm_storea i (pc + 2)) := by
  intro k ls st S hk hf LS H locs hl hP hS
  obtain ⟨x, r, rfl, hf1⟩ := fx_pr_e hf
  exact lv_astore h.1 h.2.1 hd hl hn rfl (fun LS' hl' => hk _ _ _ _ hf1 LS' H locs (fx_has_set hl') hP hS)
theorem fs_inc (h : CallFix p m c cc nL s args Ts own) {i : Nat} {n : Int} {d : Int32} (hd : decode cc pc = .ok (.iinc i n, 3)) (hv : Int32.ofInt n = d) (hn : i < nL) : fx_Snd (fx_W p l e R s m args below meth c Q A cs sl WP q nL) pc (fm_inc i d (pc + 3)) := by
  intro k ls st S hk hf LS H locs hl hP hS
  unfold fm_inc at hf
  cases hx : fx_nth ls i with
  | none => rw [hx] at hf; exact hf.elim
  | some v =>
    cases v with
    | inr a => rw [hx] at hf; exact hf.elim
    | inl x =>
      rw [hx] at hf
      have hk0 : (fx_ls q ls)[i]? = some (i, .int x) := by
        rw [fx_ls, List.getElem?_mapIdx, ← fx_nth_eq, hx]; rfl
      exact lv_iinc h.1 h.2.1 hd hl hk0 (by rw [hv]) hn rfl (fun LS' hl' => hk _ _ _ _ hf LS' H locs (fx_has_set (v := .inl (x + d)) hl') hP hS)
theorem fs_goto (h : CallFix p m c cc nL s args Ts own) {off : Int} {tg : Nat} (hd : decode cc pc = .ok (.goto off, 3)) (ht : (pc : Int) + off = (tg : Int)) : fx_Snd (fx_W p l e R s m args below meth c Q A cs sl WP q nL) pc (fm_goto tg) :=
  fun _ _ _ _ hk hf LS H locs hl hP hS => lv_goto h.1 h.2.1 hd ht (hk _ _ _ _ hf LS H locs hl hP hS)
theorem fs_dup (h : CallFix p m c cc nL s args Ts own) (hd : decode cc pc = .ok (.dup, 1)) : fx_Snd (fx_W p l e R s m args below meth c Q A cs sl WP q nL) pc (fm_dup (pc + 1)) := by
  intro k ls st S hk hf LS H locs hl hP hS
  obtain ⟨x, r, rfl, hf1⟩ := fx_pv_e hf
  exact lv_dup h.1 h.2.1 hd (fx_cat q x) (hk _ _ _ _ hf1 LS H locs hl hP hS)
theorem fs_pop (h : CallFix p m c cc nL s args Ts own) (hd : decode cc pc = .ok (.pop, 1)) : fx_Snd (fx_W p l e R s m args below meth c Q A cs sl WP q nL) pc (fm_pop (pc + 1)) := by
  intro k ls st S hk hf LS H locs hl hP hS
  obtain ⟨x, r, rfl, hf1⟩ := fx_pv_e hf
  exact lv_pop h.1 h.2.1 hd (fx_cat q x) (hk _ _ _ _ hf1 LS H locs hl hP hS)
theorem fs_dupx1 (h : CallFix p m c cc nL s args Ts own) (hd : decode cc pc = .ok (.dup_x1, 1)) : fx_Snd (fx_W p l e R s m args below meth c Q A cs sl WP q nL) pc (fm_dupx1 (pc + 1)) := by
  intro k ls st S hk hf LS H locs hl hP hS
  obtain ⟨x, r, rfl, hf1⟩ := fx_pv_e hf
  obtain ⟨y, r, rfl, hf2⟩ := fx_pv_e hf1
  exact lv_dup_x1 h.1 h.2.1 hd (fx_cat q x) (fx_cat q y) (hk _ _ _ _ hf2 LS H locs hl hP hS)
theorem fs_dupx2 (h : CallFix p m c cc nL s args Ts own) (hd : decode cc pc = .ok (.dup_x2, 1)) : fx_Snd (fx_W p l e R s m args below meth c Q A cs sl WP q nL) pc (fm_dupx2 (pc + 1)) := by
  intro k ls st S hk hf LS H locs hl hP hS
  obtain ⟨x, r, rfl, hf1⟩ := fx_pv_e hf
  obtain ⟨y, r, rfl, hf2⟩ := fx_pv_e hf1
  obtain ⟨w, r, rfl, hf3⟩ := fx_pv_e hf2
  exact lv_dup_x2 h.1 h.2.1 hd (fx_cat q x) (fx_cat q y) (fx_cat q w) (hk _ _ _ _ hf3 LS H locs hl hP hS)
theorem fs_dup2 (h : CallFix p m c cc nL s args Ts own) (hd : decode cc pc = .ok (.dup2, 1)) : fx_Snd (fx_W p l e R s m args below meth c Q A cs sl WP q nL) pc (fm_dup2 (pc + 1)) := by
  intro k ls st S hk hf LS H locs hl hP hS
  obtain ⟨x, r, rfl, hf1⟩ := fx_pv_e hf
  obtain ⟨y, r, rfl, hf2⟩ := fx_pv_e hf1
  exact lv_dup2_11 h.1 h.2.1 hd (fx_cat q x) (fx_cat q y) (hk _ _ _ _ hf2 LS H locs hl hP hS)
theorem fs_iadd (h : CallFix p m c cc nL s args Ts own) (hd : decode cc pc = .ok (.iadd, 1)) : fx_Snd (fx_W p l e R s m args below meth c Q A cs sl WP q nL) pc (fm_iadd (pc + 1)) := by
  intro k ls st S hk hf LS H locs hl hP hS
  obtain ⟨y, r, rfl, hf1⟩ := fx_pi_e hf
  obtain ⟨x, r, rfl, hf2⟩ := fx_pi_e hf1
  exact lv_iadd h.1 h.2.1 hd (hk _ _ _ _ hf2 LS H locs hl hP hS)
theorem fs_isub (h : CallFix p m c cc nL s args Ts own) (hd : decode cc pc = .ok (.isub, 1)) : fx_Snd (fx_W p l e R s m args below meth c Q A cs sl WP q nL) pc (fm_isub (pc + 1)) := by
  intro k ls st S hk hf LS H locs hl hP hS
  obtain ⟨y, r, rfl, hf1⟩ := fx_pi_e hf
  obtain ⟨x, r, rfl, hf2⟩ := fx_pi_e hf1
  exact lv_isub h.1 h.2.1 hd (hk _ _ _ _ hf2 LS H locs hl hP hS)
theorem fs_imul (h : CallFix p m c cc nL s args Ts own) (hd : decode cc pc = .ok (.imul, 1)) : fx_Snd (fx_W p l e R s m args below meth c Q A cs sl WP q nL) pc (fm_imul (pc + 1)) := by
  intro k ls st S hk hf LS H locs hl hP hS
  obtain ⟨y, r, rfl, hf1⟩ := fx_pi_e hf
  obtain ⟨x, r, rfl, hf2⟩ := fx_pi_e hf1
  exact lv_imul h.1 h.2.1 hd (hk _ _ _ _ hf2 LS H locs hl hP hS)
theorem fs_iand (h : CallFix p m c cc nL s args Ts own) (hd : decode cc pc = .ok (.iand, 1)) : fx_Snd (fx_W p l e R s m args below meth c Q A cs sl WP q nL) pc (fm_iand (pc + 1)) := by
  intro k ls st S hk hf LS H locs hl hP hS
  obtain ⟨y, r, rfl, hf1⟩ := fx_pi_e hf
  obtain ⟨x, r, rfl, hf2⟩ := fx_pi_e hf1
  exact lv_iand h.1 h.2.1 hd (hk _ _ _ _ hf2 LS H locs hl hP hS)
theorem fs_ior (h : CallFix p m c cc nL s args Ts own) (hd : decode cc pc = .ok (.ior, 1)) : fx_Snd (fx_W p l e R s m args below meth c Q A cs sl WP q nL) pc (fm_ior (pc + 1)) := by
  intro k ls st S hk hf LS H locs hl hP hS
  obtain ⟨y, r, rfl, hf1⟩ := fx_pi_e hf
  obtain ⟨x, r, rfl, hf2⟩ := fx_pi_e hf1
  exact lv_ior h.1 h.2.1 hd (hk _ _ _ _ hf2 LS H locs hl hP hS)
theorem fs_ixor (h : CallFix p m c cc nL s args Ts own) (hd : decode cc pc = .ok (.ixor, 1)) : fx_Snd (fx_W p l e R s m args below meth c Q A cs sl WP q nL) pc (fm_ixor (pc + 1)) := by
  intro k ls st S hk hf LS H locs hl hP hS
  obtain ⟨y, r, rfl, hf1⟩ := fx_pi_e hf
  obtain ⟨x, r, rfl, hf2⟩ := fx_pi_e hf1
  exact lv_ixor h.1 h.2.1 hd (hk _ _ _ _ hf2 LS H locs hl hP hS)
theorem fs_ishl (h : CallFix p m c cc nL s args Ts own) (hd : decode cc pc = .ok (.ishl, 1)) : fx_Snd (fx_W p l e R s m args below meth c Q A cs sl WP q nL) pc (fm_ishl (pc + 1)) := by
  intro k ls st S hk hf LS H locs hl hP hS
  obtain ⟨y, r, rfl, hf1⟩ := fx_pi_e hf
  obtain ⟨x, r, rfl, hf2⟩ := fx_pi_e hf1
  exact lv_ishl h.1 h.2.1 hd (hk _ _ _ _ hf2 LS H locs hl hP hS)
theorem fs_ishr (h : CallFix p m c cc nL s args Ts own) (hd : decode cc pc = .ok (.ishr, 1)) : fx_Snd (fx_W p l e R s m args below meth c Q A cs sl WP q nL) pc (fm_ishr (pc + 1)) := by
  intro k ls st S hk hf LS H locs hl hP hS
  obtain ⟨y, r, rfl, hf1⟩ := fx_pi_e hf
  obtain ⟨x, r, rfl, hf2⟩ := fx_pi_e hf1
  exact lv_ishr h.1 h.2.1 hd (hk _ _ _ _ hf2 LS H locs hl hP hS)
theorem fs_ifeq (h : CallFix p m c cc nL s args Ts own) {off : Int} {tg : Nat} (hd : decode cc pc = .ok (.ifCond .eq off, 3)) (ht : (pc : Int) + off = (tg : Int)) : fx_Snd (fx_W p l e R s m args below meth c Q A cs sl WP q nL) pc (fm_ifeq tg (pc + 3)) := by
  intro k ls st S hk hf LS H locs hl hP hS
  obtain ⟨x, r, rfl, hf1⟩ := fx_pi_e hf
  exact lv_if_eq h.1 h.2.1 hd ht (fun hc => hk _ _ _ _ (hf1.1 hc) LS H locs hl hP hS) (fun hc => hk _ _ _ _ (hf1.2 hc) LS H locs hl hP hS)
theorem fs_ifne (h : CallFix p m c cc nL s args Ts own) {off : Int} {tg : Nat} (hd : decode cc pc = .ok (.ifCond .ne off, 3)) (ht : (pc : Int) + off = (tg : Int)) : fx_Snd (fx_W p l e R s m args below meth c Q A cs sl WP q nL) pc (fm_ifne tg (pc + 3)) := by
  intro k ls st S hk hf LS H locs hl hP hS
  obtain ⟨x, r, rfl, hf1⟩ := fx_pi_e hf
  exact lv_if_ne h.1 h.2.1 hd ht (fun hc => hk _ _ _ _ (hf1.1 hc) LS H locs hl hP hS) (fun hc => hk _ _ _ _ (hf1.2 hc) LS H locs hl hP hS)
theorem fs_iflt (h : CallFix p m c cc nL s args Ts own) {off : Int} {tg : Nat} (hd : decode cc pc = .ok (.ifCond .lt off, 3)) (ht : (pc : Int) + off = (tg : Int)) : fx_Snd (fx_W p l e R s m args below meth c Q A cs sl WP q nL) pc (fm_iflt tg (pc + 3)) := by
  intro k ls st S hk hf LS H locs hl hP hS
  obtain ⟨x, r, rfl, hf1⟩ := fx_pi_e hf
  exact lv_if_lt h.1 h.2.1 hd ht (fun hc => hk _ _ _ _ (hf1.1 hc) LS H locs hl hP hS) (fun hc => hk _ _ _ _ (hf1.2 hc) LS H locs hl hP hS)
theorem fs_ifge (h : CallFix p m c cc nL s args Ts own) {off : Int} {tg : Nat} (hd : decode cc pc = .ok (.ifCond .ge off, 3)) (ht : (pc : Int) + off = (tg : Int)) : fx_Snd (fx_W p l e R s m args below meth c Q A cs sl WP q nL) pc (fm_ifge tg (pc + 3)) := by
  intro k ls st S hk hf LS H locs hl hP hS
  obtain ⟨x, r, rfl, hf1⟩ := fx_pi_e hf
  exact lv_if_ge h.1 h.2.1 hd ht (fun hc => hk _ _ _ _ (hf1.1 hc) LS H locs hl hP hS) (fun hc => hk _ _ _ _ (hf1.2 hc) LS H locs hl hP hS)
theorem fs_ifgt (h : CallFix p m c cc nL s args Ts own) {off : Int} {tg : Nat} (hd : decode cc pc = .ok (.ifCond .gt off, 3)) (ht : (pc : Int) + off = (tg : Int)) : fx_Snd (fx_W p l e R s m args below meth c Q A cs sl WP q nL) pc (fm_ifgt tg (pc + 3)) := by
  intro k ls st S hk hf LS H locs hl hP hS
  obtain ⟨x, r, rfl, hf1⟩ := fx_pi_e hf
  exact lv_if_gt h.1 h.2.1 hd ht (fun hc => hk _ _ _ _ (hf1.1 hc) LS H locs hl hP hS) (fun hc => hk _ _ _ _ (hf1.2 hc) LS H locs hl hP hS)
theorem fs_ifle (h : CallFix p m c cc nL s args Ts own) {off : Int} {tg : Nat} (hd : decode cc pc = .ok (.ifCond .le off, 3)) (ht : (pc : Int) + off = (tg : Int)) : fx_Snd (fx_W p l e R s m args below meth c Q A cs sl WP q nL) pc (fm_ifle tg (pc + 3)) := by
  intro k ls st S hk hf LS H locs hl hP hS
  obtain ⟨x, r, rfl, hf1⟩ := fx_pi_e hf
  exact lv_if_le h.1 h.2.1 hd ht (fun hc => hk _ _ _ _ (hf1.1 hc) LS H locs hl hP hS) (fun hc => hk _ _ _ _ (hf1.2 hc) LS H locs hl hP hS)
theorem fs_cmpeq (h : CallFix p m c cc nL s args Ts own) {off : Int} {tg : Nat} (hd : decode cc pc = .ok (.if_icmp .eq off, 3)) (ht : (pc : Int) + off = (tg : Int)) : fx_Snd (fx_W p l e R s m args below meth c Q A cs sl WP q nL) pc (fm_cmpeq tg (pc + 3)) := by
  intro k ls st S hk hf LS H locs hl hP hS
  obtain ⟨y, r, rfl, hf1⟩ := fx_pi_e hf
  obtain ⟨x, r, rfl, hf2⟩ := fx_pi_e hf1
  exact lv_icmp_eq h.1 h.2.1 hd ht (fun hc => hk _ _ _ _ (hf2.1 hc) LS H locs hl hP hS) (fun hc => hk _ _ _ _ (hf2.2 hc) LS H locs hl hP hS)
theorem fs_cmpne (h : CallFix p m c cc nL s args Ts own) {off : Int} {tg : Nat} (hd : decode cc pc = .ok (.if_icmp .ne off, 3)) (ht : (pc : Int) + off = (tg : Int)) : fx_Snd (fx_W p l e R s m args below meth c Q A cs sl WP q nL) pc (fm_cmpne tg (pc + 3)) := by
  intro k ls st S hk hf LS H locs hl hP hS
  obtain ⟨y, r, rfl, hf1⟩ := fx_pi_e hf
  obtain ⟨x, r, rfl, hf2⟩ := fx_pi_e hf1
  exact lv_icmp_ne h.1 h.2.1 hd ht (fun hc => hk _ _ _ _ (hf2.1 hc) LS H locs hl hP hS) (fun hc => hk _ _ _ _ (hf2.2 hc) LS H locs hl hP hS)
theorem fs_cmplt (h : CallFix p m c cc nL s args Ts own) {off : Int} {tg : Nat} (hd : decode cc pc = .ok (.if_icmp .lt off, 3)) (ht : (pc : Int) + off = (tg : Int)) : fx_Snd (fx_W p l e R s m args below meth c Q A cs sl WP q nL) pc (fm_cmplt tg (pc + 3)) := by
  intro k ls st S hk hf LS H locs hl hP hS
  obtain ⟨y, r, rfl, hf1⟩ := fx_pi_e hf
  obtain ⟨x, r, rfl, hf2⟩ := fx_pi_e hf1
  exact lv_icmp_lt h.1 h.2.1 hd ht (fun hc => hk _ _ _ _ (hf2.1 hc) LS H locs hl hP hS) (fun hc => hk _ _ _ _ (hf2.2 hc) LS H locs hl hP hS)
theorem fs_cmpge (h : CallFix p m c cc nL s args Ts own) {off : Int} {tg : Nat} (hd : decode cc pc = .ok (.if_icmp .ge off, 3)) (ht : (pc : Int) + off = (tg : Int)) : fx_Snd (fx_W p l e R s m args below meth c Q A cs sl WP q nL) pc (fm_cmpge tg (pc + 3)) := by
  intro k ls st S hk hf LS H locs hl hP hS
  obtain ⟨y, r, rfl, hf1⟩ := fx_pi_e hf
  obtain ⟨x, r, rfl, hf2⟩ := fx_pi_e hf1
  exact lv_icmp_ge h.1 h.2.1 hd ht (fun hc => hk _ _ _ _ (hf2.1 hc) LS H locs hl hP hS) (fun hc => hk _ _ _ _ (hf2.2 hc) LS H locs hl hP hS)
theorem fs_cmpgt (h : CallFix p m c cc nL s args Ts own) {off : Int} {tg : Nat} (hd : decode cc pc = .ok (.if_icmp .gt off, 3)) (ht : (pc : Int) + off = (tg : Int)) : fx_Snd (fx_W p l e R s m args below meth c Q A cs sl WP q nL) pc (fm_cmpgt tg (pc + 3)) := by
  intro k ls st S hk hf LS H locs hl hP hS
  obtain ⟨y, r, rfl, hf1⟩ := fx_pi_e hf
  obtain ⟨x, r, rfl, hf2⟩ := fx_pi_e hf1
  exact lv_icmp_gt h.1 h.2.1 hd ht (fun hc => hk _ _ _ _ (hf2.1 hc) LS H locs hl hP hS) (fun hc => hk _ _ _ _ (hf2.2 hc) LS H locs hl hP hS)
theorem fs_cmple (h : CallFix p m c cc nL s args Ts own) {off : Int} {tg : Nat} (hd : decode cc pc = .ok (.if_icmp .le off, 3)) (ht : (pc : Int) + off = (tg : Int)) : fx_Snd (fx_W p l e R s m args below meth c Q A cs sl WP q nL) pc (fm_cmple tg (pc + 3)) := by
  intro k ls st S hk hf LS H locs hl hP hS
  obtain ⟨y, r, rfl, hf1⟩ := fx_pi_e hf
  obtain ⟨x, r, rfl, hf2⟩ := fx_pi_e hf1
  exact lv_icmp_le h.1 h.2.1 hd ht (fun hc => hk _ _ _ _ (hf2.1 hc) LS H locs hl hP hS) (fun hc => hk _ _ _ _ (hf2.2 hc) LS H locs hl hP hS)
end FXS
end
section
/-- what a walk of a method of a world stands on -/
def fx_C (p : Program) (s : State) (m : MethodId) (args : Array Value) (meth : Method) (c : Code) (cc : ByteArray) (nL : Nat) (Ts : List Cond) (own : String) (D : va_G) (cl : List vw_C) (cA : Nat → ClassId) (q : Nat → Nat) (N : Nat) : Prop :=
  CallFix p m c cc nL s args Ts own ∧ va_K D cl (fx_ty cA) s ∧ (∀ i j, i < N → j < N → q i = q j → i = j) ∧ meth.locks = false
def fx_P (D : va_G) (cl : List vw_C) (cA : Nat → ClassId) (q : Nat → Nat) (ly : fx_L) (S : fx_S) (H : Heap) : Prop := va_P D cl (fx_w cA q ly S) H
def fx_N (nwl : List Cond) : Prop := ∀ w ∈ nwl, w.onTables = true ∧ ∀ (s U : State), s.WarmedH U.vm → va_Nw w s → va_Nw w U
def fx_Pc (D : va_G) (cl : List vw_C) (cA : Nat → ClassId) (q : Nat → Nat) (ly : fx_L) (nwl : List Cond) (av : List fx_V) (S : fx_S) : Array Value → State → Prop := va_Pc (av.map (fx_v q)) (fun U => va_P D cl (fx_w cA q ly S) U.heap ∧ va_K D cl (fx_ty cA) U ∧ ∀ w ∈ nwl, va_Nw w U)
def fx_Qc (D : va_G) (cl : List vw_C) (cA : Nat → ClassId) (q : Nat → Nat) (ly : fx_L) (z : Bool) (post : Int32 → fx_S → Prop) : Array Value → State → Outcome → State → Prop := fun _ st oc t => (∃ (r : Int32) (S' : fx_S), oc = .returned (bif z then some (.int r) else none) ∧ post r S' ∧ va_P D cl (fx_w cA q ly S') t.heap) ∧ va_F (fx_A q ly.length) st t
/-- a method's contract at one start: from the arguments av and the state S it answers r and leaves S' with post r S' -/
def fx_Met (l : Launch) (D : va_G) (cl : List vw_C) (cA : Nat → ClassId) (q : Nat → Nat) (ly : fx_L) (nwl : List Cond) (y : MethodName) (ws : List Cond) (rm : Room) (z : Bool) (av : List fx_V) (S : fx_S) (post : Int32 → fx_S → Prop) : Prop := Met l y ws rm (fx_Pc D cl cA q ly nwl av S) (fx_Qc D cl cA q ly z post) 0 0 (fx_A q ly.length)
theorem fx_fs_set {q : Nat → Nat} {r : Nat → Int32} {fs : List (Option Nat)} {j : Nat} {x : Int32} (h : fs[j]? = some none) : (fs.mapIdx (fx_f q r)).set j (.int x) = fs.mapIdx (fx_f q (upd r j x)) := by
  apply List.ext_getElem?
  intro i
  by_cases hi : i = j
  · subst hi
    rw [List.getElem?_set_self (by simpa using (List.getElem?_eq_some_iff.mp h).1), List.getElem?_mapIdx, h]
    simp [fx_f, upd]
  · rw [List.getElem?_set_ne (Ne.symm hi), List.getElem?_mapIdx, List.getElem?_mapIdx]
    cases hc : fs[i]? with
    | none => rfl
    | some d => cases d <;> simp [fx_f, upd, hi]
theorem fx_w_put {cA : Nat → ClassId} {q : Nat → Nat} {ly : fx_L} {S : fx_S} {a ci j : Nat} {fs : List (Option Nat)} {x : Int32} (hly : ly[a]? = some (.inr (ci, fs))) (hfs : fs[j]? = some none) : (fx_w cA q ly S).set a (q a, .inr (ci, (fs.mapIdx (fx_f q (S a))).set j (.int x))) = fx_w cA q ly (fx_up S a j x) := by
  rw [fx_fs_set hfs, ← fx_up_row]
  exact fx_w_set hly (fun i hi => fx_up_ne S j x hi)
theorem fx_w_ast {cA : Nat → ClassId} {q : Nat → Nat} {ly : fx_L} {S : fx_S} {a t n i : Nat} {x : Int32} (hly : ly[a]? = some (.inl (t, n))) : (fx_w cA q ly S).set a (q a, .inl (cA t, n, .inl (upd (S a) i x))) = fx_w cA q ly (fx_up S a i x) := by
  rw [← fx_up_row]
  exact fx_w_set hly (fun j hj => fx_up_ne S i x hj)
theorem fx_ln {ly : fx_L} {t : Nat} {ln : List (Nat × Nat)} (h : ∀ x ∈ ln, ly[x.1]? = some (.inl (t, x.2))) (a n : Nat) (he : fx_lk ln a = some n) : ly[a]? = some (.inl (t, n)) := h _ (fx_lk_mem ln a n he)
theorem fx_blind {D : va_G} {cl : List vw_C} {cA : Nat → ClassId} {q : Nat → Nat} {ly : fx_L} {nwl : List Cond} {av : List fx_V} {S : fx_S} (hN : fx_N nwl) : FrameBlind (fx_Pc D cl cA q ly nwl av S) :=
  fun a U g mk hp => ⟨hp.1, hp.2.1, va_K.moved (u := U) (U := U.calling g mk a) (Vm.Alike.refl U.vm) hp.2.2.1, fun w hw => va_Nw.same (u := U) (U := U.calling g mk a) (hN w hw).1 rfl (hp.2.2.2 w hw)⟩
section FXT
variable {p : Program} {l : Launch} {e : Env} {R : Room} {s : State} {m : MethodId} {args : Array Value} {below : List Frame} {meth : Method} {c : Code} {Q : State → Prop} {D : va_G} {cl : List vw_C} {cA : Nat → ClassId} {q : Nat → Nat} {ly : fx_L} {nL : Nat} {cc : ByteArray} {Ts : List Cond} {own : String} {pc : Nat}
theorem fs_get (h : fx_C p s m args meth c cc nL Ts own D cl cA q ly.length) {C : String} {T : u_T} {N ci index cN j : Nat} {fs : List (Option Nat)} (hly : ly[cN]? = some (.inr (ci, fs))) (hfs : fs[j]? = some none) (hc : cl[ci]? = some (C, T, N)) (hj : j < N) (hin : ∀ w ∈ u_ws C T N, w ∈ Ts) (hlink : (Cond.fieldLink own index (T j).1 (T j).2.1 (T j).2.2.1).before args s = true) (hd : decode cc pc = .ok (.getfield index, 3)) : fx_Snd (fx_W p l e R s m args below meth c Q (fx_A q ly.length) 0 0 (fx_P D cl cA q ly) q nL) pc (fm_get cN j (pc + 3)) := by
  intro k ls st S hk hf LS H locs hl hP hS
  obtain ⟨a, r, rfl, hf1⟩ := fx_pr_e hf
  cases hb : Nat.beq a cN with
  | false => rw [hb] at hf1; exact hf1.elim
  | true =>
    rw [hb] at hf1
    obtain rfl := Nat.eq_of_beq_eq_true hb
    exact va_get (D := D) (ci := ci) (v := .int (S a j)) (C := C) (T := T) (N := N) (fs := fs.mapIdx (fx_f q (S a))) h.1.1 h.1.2.1 h.1.2.2.2.2 hin h.1.2.2.2.1 h.2.1 hP a (fx_w_at hly) hc j hj hlink (fun _ h9 => h9) (by rw [List.getElem?_mapIdx, hfs]; rfl) hd (hk _ _ _ _ hf1 LS H locs hl hP hS)
theorem fs_getr (h : fx_C p s m args meth c cc nL Ts own D cl cA q ly.length) {C : String} {T : u_T} {N ci index cN j d : Nat} {fs : List (Option Nat)} (hly : ly[cN]? = some (.inr (ci, fs))) (hfs : fs[j]? = some (some d)) (hc : cl[ci]? = some (C, T, N)) (hj : j < N) (hin : ∀ w ∈ u_ws C T N, w ∈ Ts) (hlink : (Cond.fieldLink own index (T j).1 (T j).2.1 (T j).2.2.1).before args s = true) (hd : decode cc pc = .ok (.getfield index, 3)) : fx_Snd (fx_W p l e R s m args below meth c Q (fx_A q ly.length) 0 0 (fx_P D cl cA q ly) q nL) pc (fm_getr cN d (pc + 3)) := by
  intro k ls st S hk hf LS H locs hl hP hS
  obtain ⟨a, r, rfl, hf1⟩ := fx_pr_e hf
  cases hb : Nat.beq a cN with
  | false => rw [hb] at hf1; exact hf1.elim
  | true =>
    rw [hb] at hf1
    obtain rfl := Nat.eq_of_beq_eq_true hb
    exact va_get (D := D) (ci := ci) (v := .ref (q d)) (C := C) (T := T) (N := N) (fs := fs.mapIdx (fx_f q (S a))) h.1.1 h.1.2.1 h.1.2.2.2.2 hin h.1.2.2.2.1 h.2.1 hP a (fx_w_at hly) hc j hj hlink (fun _ h9 => h9) (by rw [List.getElem?_mapIdx, hfs]; rfl) hd (hk _ _ _ _ hf1 LS H locs hl hP hS)
theorem fs_getN (h : fx_C p s m args meth c cc nL Ts own D cl cA q ly.length) {C host : String} {T : u_T} {N ci index cN j : Nat} {fs : List (Option Nat)} (hly : ly[cN]? = some (.inr (ci, fs))) (hfs : fs[j]? = some none) (hc : cl[ci]? = some (C, T, N)) (hj : j < N) (hin : ∀ w ∈ u_ws C T N, w ∈ Ts) (hlink : va_Nw (.fieldLinkNest own index (T j).1 (T j).2.1 (T j).2.2.1 host) s) (hd : decode cc pc = .ok (.getfield index, 3)) : fx_Snd (fx_W p l e R s m args below meth c Q (fx_A q ly.length) 0 0 (fx_P D cl cA q ly) q nL) pc (fm_get cN j (pc + 3)) := by
  intro k ls st S hk hf LS H locs hl hP hS
  obtain ⟨a, r, rfl, hf1⟩ := fx_pr_e hf
  cases hb : Nat.beq a cN with
  | false => rw [hb] at hf1; exact hf1.elim
  | true =>
    rw [hb] at hf1
    obtain rfl := Nat.eq_of_beq_eq_true hb
    exact va_getN (D := D) (ci := ci) (v := .int (S a j)) (C := C) (T := T) (N := N) (fs := fs.mapIdx (fx_f q (S a))) h.1.1 h.1.2.1 h.1.2.2.2.2 hin h.1.2.2.2.1 h.2.1 hP a (fx_w_at hly) hc j hj (va_Nw.use rfl hlink) (fun _ h9 => h9) (by rw [List.getElem?_mapIdx, hfs]; rfl) hd (hk _ _ _ _ hf1 LS H locs hl hP hS)
theorem fs_getrN (h : fx_C p s m args meth c cc nL Ts own D cl cA q ly.length) {C host : String} {T : u_T} {N ci index cN j d : Nat} {fs : List (Option Nat)} (hly : ly[cN]? = some (.inr (ci, fs))) (hfs : fs[j]? = some (some d)) (hc : cl[ci]? = some (C, T, N)) (hj : j < N) (hin : ∀ w ∈ u_ws C T N, w ∈ Ts) (hlink : va_Nw (.fieldLinkNest own index (T j).1 (T j).2.1 (T j).2.2.1 host) s) (hd : decode cc pc = .ok (.getfield index, 3)) : fx_Snd (fx_W p l e R s m args below meth c Q (fx_A q ly.length) 0 0 (fx_P D cl cA q ly) q nL) pc (fm_getr cN d (pc + 3)) := by
  intro k ls st S hk hf LS H locs hl hP hS
  obtain ⟨a, r, rfl, hf1⟩ := fx_pr_e hf
  cases hb : Nat.beq a cN with
  | false => rw [hb] at hf1; exact hf1.elim
  | true =>
    rw [hb] at hf1
    obtain rfl := Nat.eq_of_beq_eq_true hb
    exact va_getN (D := D) (ci := ci) (v := .ref (q d)) (C := C) (T := T) (N := N) (fs := fs.mapIdx (fx_f q (S a))) h.1.1 h.1.2.1 h.1.2.2.2.2 hin h.1.2.2.2.1 h.2.1 hP a (fx_w_at hly) hc j hj (va_Nw.use rfl hlink) (fun _ h9 => h9) (by rw [List.getElem?_mapIdx, hfs]; rfl) hd (hk _ _ _ _ hf1 LS H locs hl hP hS)
theorem fx_z {x : Int32} (h : x = 0 ∨ x = 1) : narrow .boolean (.int x) = .int x ∧ fits .boolean (.int x) = true ∧ vp_nar .boolean x = x := by
  rcases h with rfl | rfl <;> exact ⟨by rfl, by rfl, by rfl⟩
theorem fs_put (h : fx_C p s m args meth c cc nL Ts own D cl cA q ly.length) {C : String} {T : u_T} {N ci index cN j : Nat} {fs : List (Option Nat)} (hly : ly[cN]? = some (.inr (ci, fs))) (hfs : fs[j]? = some none) (hc : cl[ci]? = some (C, T, N)) (hj : j < N) (ty0 : Nat → FieldType) (hty : ∀ k, k < N → parseFieldDescriptor (T k).2.2.1 = some (ty0 k)) (hnm : ∀ a, a < N → ∀ b, b < N → a ≠ b → (T a).2.1 ≠ (T b).2.1) (hfin : (T j).2.2.2 = false) (ht : parseFieldDescriptor (T j).2.2.1 = some .int) (hin : ∀ w ∈ u_ws C T N, w ∈ Ts) (hlink : (Cond.fieldLink own index (T j).1 (T j).2.1 (T j).2.2.1).before args s = true) (hd : decode cc pc = .ok (.putfield index, 3)) : fx_Snd (fx_W p l e R s m args below meth c Q (fx_A q ly.length) 0 0 (fx_P D cl cA q ly) q nL) pc (fm_put cN j (pc + 3)) := by
  intro k ls st S hk hf LS H locs hl hP hS
  obtain ⟨x, r, rfl, hf1⟩ := fx_pi_e hf
  obtain ⟨a, r, rfl, hf2⟩ := fx_pr_e hf1
  cases hb : Nat.beq a cN with
  | false => rw [hb] at hf2; exact hf2.elim
  | true =>
    rw [hb] at hf2
    obtain rfl := Nat.eq_of_beq_eq_true hb
    refine va_put (D := D) (ci := ci) (v := .int x) (ty := .int) (C := C) (T := T) (N := N) (fs := fs.mapIdx (fx_f q (S a))) h.1.1 h.1.2.1 h.1.2.2.2.2 hin ty0 hty hnm h.1.2.2.2.1 h.2.1 hP (fx_D h.2.2.1 (fun k hk => ⟨k, hk, rfl⟩)) hS a (fx_w_at hly) hc j hj hlink (fun _ h9 => h9) hfin ht rfl rfl (by simpa using (List.getElem?_eq_some_iff.mp hfs).1) hd (fun H1 locs1 hP1 _ hS1 => ?_)
    rw [fx_w_put hly hfs] at hP1
    exact hk _ _ _ _ hf2 LS H1 locs1 hl hP1 hS1
theorem fs_putz (h : fx_C p s m args meth c cc nL Ts own D cl cA q ly.length) {C : String} {T : u_T} {N ci index cN j : Nat} {fs : List (Option Nat)} (hly : ly[cN]? = some (.inr (ci, fs))) (hfs : fs[j]? = some none) (hc : cl[ci]? = some (C, T, N)) (hj : j < N) (ty0 : Nat → FieldType) (hty : ∀ k, k < N → parseFieldDescriptor (T k).2.2.1 = some (ty0 k)) (hnm : ∀ a, a < N → ∀ b, b < N → a ≠ b → (T a).2.1 ≠ (T b).2.1) (hfin : (T j).2.2.2 = false) (ht : parseFieldDescriptor (T j).2.2.1 = some .boolean) (hin : ∀ w ∈ u_ws C T N, w ∈ Ts) (hlink : (Cond.fieldLink own index (T j).1 (T j).2.1 (T j).2.2.1).before args s = true) (hd : decode cc pc = .ok (.putfield index, 3)) : fx_Snd (fx_W p l e R s m args below meth c Q (fx_A q ly.length) 0 0 (fx_P D cl cA q ly) q nL) pc (fm_putz cN j (pc + 3)) := by
  intro k ls st S hk hf LS H locs hl hP hS
  obtain ⟨x, r, rfl, hf1⟩ := fx_pi_e hf
  obtain ⟨a, r, rfl, hf2⟩ := fx_pr_e hf1
  cases hb : Nat.beq a cN with
  | false => rw [hb] at hf2; exact hf2.elim
  | true =>
    rw [hb] at hf2
    obtain rfl := Nat.eq_of_beq_eq_true hb
    obtain ⟨hx, hf3⟩ := hf2
    refine va_put (D := D) (ci := ci) (v := .int x) (ty := .boolean) (C := C) (T := T) (N := N) (fs := fs.mapIdx (fx_f q (S a))) h.1.1 h.1.2.1 h.1.2.2.2.2 hin ty0 hty hnm h.1.2.2.2.1 h.2.1 hP (fx_D h.2.2.1 (fun k hk => ⟨k, hk, rfl⟩)) hS a (fx_w_at hly) hc j hj hlink (fun _ h9 => h9) hfin ht (fx_z hx).1 (fx_z hx).2.1 (by simpa using (List.getElem?_eq_some_iff.mp hfs).1) hd (fun H1 locs1 hP1 _ hS1 => ?_)
    rw [fx_w_put hly hfs] at hP1
    exact hk _ _ _ _ hf3 LS H1 locs1 hl hP1 hS1
theorem fs_ald (h : fx_C p s m args meth c cc nL Ts own D cl cA q ly.length) {ln : List (Nat × Nat)} (hln : ∀ x ∈ ln, ly[x.1]? = some (.inl (0, x.2))) (hd : decode cc pc = .ok (.iaload, 1)) : fx_Snd (fx_W p l e R s m args below meth c Q (fx_A q ly.length) 0 0 (fx_P D cl cA q ly) q nL) pc (fm_ald ln (pc + 1)) := by
  intro k ls st S hk hf LS H locs hl hP hS
  obtain ⟨i, r, rfl, hf1⟩ := fx_pi_e hf
  obtain ⟨a, r, rfl, hf2⟩ := fx_pr_e hf1
  cases hn : fx_lk ln a with
  | none => rw [hn] at hf2; exact hf2.elim
  | some n =>
    rw [hn] at hf2
    exact va_iald h.1.1 h.1.2.1 h.2.1 hP a 0 (fx_w_at (fx_ln hln a n hn)) rfl hf2.1 hd (hk _ _ _ _ hf2.2 LS H locs hl hP hS)
theorem fs_zald (h : fx_C p s m args meth c cc nL Ts own D cl cA q ly.length) {ln : List (Nat × Nat)} (hln : ∀ x ∈ ln, ly[x.1]? = some (.inl (1, x.2))) (hd : decode cc pc = .ok (.baload, 1)) : fx_Snd (fx_W p l e R s m args below meth c Q (fx_A q ly.length) 0 0 (fx_P D cl cA q ly) q nL) pc (fm_ald ln (pc + 1)) := by
  intro k ls st S hk hf LS H locs hl hP hS
  obtain ⟨i, r, rfl, hf1⟩ := fx_pi_e hf
  obtain ⟨a, r, rfl, hf2⟩ := fx_pr_e hf1
  cases hn : fx_lk ln a with
  | none => rw [hn] at hf2; exact hf2.elim
  | some n =>
    rw [hn] at hf2
    exact va_zald h.1.1 h.1.2.1 h.2.1 hP a 1 (fx_w_at (fx_ln hln a n hn)) rfl hf2.1 hd (hk _ _ _ _ hf2.2 LS H locs hl hP hS)
theorem fs_ast (h : fx_C p s m args meth c cc nL Ts own D cl cA q ly.length) {ln : List (Nat × Nat)} (hln : ∀ x ∈ ln, ly[x.1]? = some (.inl (0, x.2))) (hd : decode cc pc = .ok (.iastore, 1)) : fx_Snd (fx_W p l e R s m args below meth c Q (fx_A q ly.length) 0 0 (fx_P D cl cA q ly) q nL) pc (fm_ast ln (pc + 1)) := by
  intro k ls st S hk hf LS H locs hl hP hS
  obtain ⟨x, r, rfl, hf1⟩ := fx_pi_e hf
  obtain ⟨i, r, rfl, hf2⟩ := fx_pi_e hf1
  obtain ⟨a, r, rfl, hf3⟩ := fx_pr_e hf2
  cases hn : fx_lk ln a with
  | none => rw [hn] at hf3; exact hf3.elim
  | some n =>
    rw [hn] at hf3
    refine va_iast h.1.1 h.1.2.1 h.2.1 hP (fx_D h.2.2.1 (fun k hk => ⟨k, hk, rfl⟩)) hS a 0 (fx_w_at (fx_ln hln a n hn)) rfl hf3.1 hd (fun H1 locs1 hP1 _ hS1 => ?_)
    rw [fx_w_ast (fx_ln hln a n hn)] at hP1
    exact hk _ _ _ _ hf3.2 LS H1 locs1 hl hP1 hS1
theorem fs_zast (h : fx_C p s m args meth c cc nL Ts own D cl cA q ly.length) {ln : List (Nat × Nat)} (hln : ∀ x ∈ ln, ly[x.1]? = some (.inl (1, x.2))) (hd : decode cc pc = .ok (.bastore, 1)) : fx_Snd (fx_W p l e R s m args below meth c Q (fx_A q ly.length) 0 0 (fx_P D cl cA q ly) q nL) pc (fm_zast ln (pc + 1)) := by
  intro k ls st S hk hf LS H locs hl hP hS
  obtain ⟨x, r, rfl, hf1⟩ := fx_pi_e hf
  obtain ⟨i, r, rfl, hf2⟩ := fx_pi_e hf1
  obtain ⟨a, r, rfl, hf3⟩ := fx_pr_e hf2
  cases hn : fx_lk ln a with
  | none => rw [hn] at hf3; exact hf3.elim
  | some n =>
    rw [hn] at hf3
    obtain ⟨hx, hi, hf4⟩ := hf3
    refine va_zast h.1.1 h.1.2.1 h.2.1 hP (fx_D h.2.2.1 (fun k hk => ⟨k, hk, rfl⟩)) hS a 1 (fx_w_at (fx_ln hln a n hn)) rfl hi hd (fun H1 locs1 hP1 _ hS1 => ?_)
    rw [(fx_z hx).2.2, fx_w_ast (fx_ln hln a n hn)] at hP1
    exact hk _ _ _ _ hf4 LS H1 locs1 hl hP1 hS1
theorem fx_call {z : Bool} {post : Int32 → fx_S → Prop} {a : Array Value} {rest st0 : List Value} {LS : Array Slot} {H : Heap} {locs : List Loc} (hr : va_Run p l e R s m args below meth c H locs 0 0 0 0 (F0 m pc LS st0) rest (fx_Qc D cl cA q ly z post a) (fx_A q ly.length)) (hS : va_S (fx_A q ly.length) s.heap H locs) (kk : ∀ (r : Int32) (S' : fx_S) (H1 : Heap) (locs1 : List Loc), post r S' → va_P D cl (fx_w cA q ly S') H1 → va_S (fx_A q ly.length) s.heap H1 locs1 → W p l e R s m args below meth c H1 locs1 0 0 Q (F0 m (pc + 3) LS ((bif z then some (Value.int r) else none).toList ++ rest))) : W p l e R s m args below meth c H locs 0 0 Q (F0 m pc LS st0) := by
  intro T hT X
  obtain ⟨v, st₀, t, T', L, h0, X', hL, e1, e2, ⟨⟨r, S', hv, hp, hb⟩, hz, hk⟩, st⟩ := hr T hT X
  have hv' : v = (bif z then some (Value.int r) else none) := by injection hv
  subst hv'
  rw [h0] at hz hk
  obtain ⟨t2, a1, b1⟩ := kk r S' T'.heap (locs ++ L) hp (by rw [e1]; exact hb)
    ⟨Nat.le_trans hS.1 (by rw [e1]; exact hz), fun x h1 h2 => by rw [e1, hk x (Nat.lt_of_lt_of_le h1 hS.1) h2]; exact hS.2.1 x h1 h2, fun x hx => by
      rcases List.mem_append.mp hx with h | h
      · exact hS.2.2 x h
      · exact hL x h⟩ T' rfl X'
  exact ⟨t2, st t2 a1, b1⟩
theorem fx_stk {as r : List fx_V} {a : Nat} : (as.reverse ++ .inr a :: r).map (fx_v q) = (as.map (fx_v q)).reverse ++ .ref (q a) :: r.map (fx_v q) := by
  simp [fx_v, List.map_reverse]
theorem fx_stk0 {as r : List fx_V} : (as.reverse ++ r).map (fx_v q) = (as.map (fx_v q)).reverse ++ r.map (fx_v q) := by
  simp [List.map_reverse]
theorem fx_after {z : Bool} {r : Int32} {st : List fx_V} : (bif z then .inl r :: st else st : List fx_V).map (fx_v q) = (bif z then some (Value.int r) else none).toList ++ st.map (fx_v q) := by
  cases z <;> rfl
theorem fs_callV (h : fx_C p s m args meth c cc nL Ts own D cl cA q ly.length) {nwl : List Cond} (hN : fx_N nwl) (hnw : ∀ w ∈ nwl, va_Nw w s) {C : String} {y : MethodName} {bytes : ByteArray} {maxL n index cN ci N : Nat} {ret : Option FieldType} {ws : List Cond} {rm : Room} {z : Bool} {fs : List (Option Nat)} {T : u_T} (hly : ly[cN]? = some (.inr (ci, fs))) (hc : cl[ci]? = some (C, T, N)) (cw : CallW R s args own C index y bytes maxL ret ws rm 0 0 n) (hd : decode cc pc = .ok (.invokevirtual index, 3)) : fx_Snd (fx_W p l e R s m args below meth c Q (fx_A q ly.length) 0 0 (fx_P D cl cA q ly) q nL) pc (fm_call z cN n (fx_Met l D cl cA q ly nwl y ws rm z) (pc + 3)) := by
  intro k ls st S hk hf LS H locs hl hP hS
  obtain ⟨as, r, hn, rfl, hf1⟩ := fx_pn_e _ _ _ _ hf
  obtain ⟨a, r, rfl, hf2⟩ := fx_pr_e hf1
  cases hb : (Nat.beq a cN && Nat.ble r.length 8) with
  | false => rw [hb] at hf2; exact hf2.elim
  | true =>
    rw [hb] at hf2
    have h12 := hb
    rw [Bool.and_eq_true] at h12
    obtain rfl := Nat.eq_of_beq_eq_true h12.1
    obtain ⟨post, hM, hf3⟩ := hf2
    rw [List.append_nil] at hM
    refine fx_call (va_runV (As := as.map (fx_v q)) (rest := r.map (fx_v q)) (b := q a) h.1 hM cw ⟨fx_blind hN, va_recv h.2.1 hP hc (fx_w_at hly), fun U hU hW => ⟨rfl, by rw [hU]; exact hP, va_K.moved hW.alike h.2.1, fun w hw => (hN w hw).2 s U hW (hnw w hw)⟩⟩ rfl (by rw [List.length_map]; exact hn) hl.1 fx_stk (lv_room (by rw [fx_cats]; exact Nat.le_of_ble_eq_true h12.2)) hd ⟨Nat.zero_le _, Nat.zero_le _⟩) hS (fun r' S' H1 locs1 hp hP1 hS1 => ?_)
    have := hk _ _ _ _ (hf3 r' S' hp) LS H1 locs1 hl hP1 hS1
    rw [fx_after] at this
    exact this
theorem fs_callVN (h : fx_C p s m args meth c cc nL Ts own D cl cA q ly.length) {nwl : List Cond} (hN : fx_N nwl) (hnw : ∀ w ∈ nwl, va_Nw w s) {C host : String} {y : MethodName} {bytes : ByteArray} {maxL n index cN ci N : Nat} {ret : Option FieldType} {ws : List Cond} {rm : Room} {z : Bool} {fs : List (Option Nat)} {T : u_T} (hly : ly[cN]? = some (.inr (ci, fs))) (hc : cl[ci]? = some (C, T, N)) (cw : va_CN R s args own index y host bytes maxL ret ws rm 0 0 n ∧ (Cond.instanceMethod y).before args s = true ∧ (Cond.selects C y y).before args s = true) (hd : decode cc pc = .ok (.invokevirtual index, 3)) : fx_Snd (fx_W p l e R s m args below meth c Q (fx_A q ly.length) 0 0 (fx_P D cl cA q ly) q nL) pc (fm_call z cN n (fx_Met l D cl cA q ly nwl y ws rm z) (pc + 3)) := by
  intro k ls st S hk hf LS H locs hl hP hS
  obtain ⟨as, r, hn, rfl, hf1⟩ := fx_pn_e _ _ _ _ hf
  obtain ⟨a, r, rfl, hf2⟩ := fx_pr_e hf1
  cases hb : (Nat.beq a cN && Nat.ble r.length 8) with
  | false => rw [hb] at hf2; exact hf2.elim
  | true =>
    rw [hb] at hf2
    have h12 := hb
    rw [Bool.and_eq_true] at h12
    obtain rfl := Nat.eq_of_beq_eq_true h12.1
    obtain ⟨post, hM, hf3⟩ := hf2
    rw [List.append_nil] at hM
    refine fx_call (va_runVN (As := as.map (fx_v q)) (rest := r.map (fx_v q)) (b := q a) h.1 hM cw ⟨fx_blind hN, va_recv h.2.1 hP hc (fx_w_at hly), fun U hU hW => ⟨rfl, by rw [hU]; exact hP, va_K.moved hW.alike h.2.1, fun w hw => (hN w hw).2 s U hW (hnw w hw)⟩⟩ rfl (by rw [List.length_map]; exact hn) hl.1 fx_stk (lv_room (by rw [fx_cats]; exact Nat.le_of_ble_eq_true h12.2)) hd ⟨Nat.zero_le _, Nat.zero_le _⟩) hS (fun r' S' H1 locs1 hp hP1 hS1 => ?_)
    have := hk _ _ _ _ (hf3 r' S' hp) LS H1 locs1 hl hP1 hS1
    rw [fx_after] at this
    exact this
theorem fs_callS (h : fx_C p s m args meth c cc nL Ts own D cl cA q ly.length) {nwl : List Cond} (hN : fx_N nwl) (hnw : ∀ w ∈ nwl, va_Nw w s) {y : MethodName} {bytes : ByteArray} {maxL n index : Nat} {ret : Option FieldType} {ws : List Cond} {rm : Room} {z : Bool} (cw : CallB R s args own index y bytes maxL ret ws rm 0 0 n ∧ (Cond.static y).before args s = true) (hd : decode cc pc = .ok (.invokestatic index, 3)) : fx_Snd (fx_W p l e R s m args below meth c Q (fx_A q ly.length) 0 0 (fx_P D cl cA q ly) q nL) pc (fm_calls z n (fx_Met l D cl cA q ly nwl y ws rm z) (pc + 3)) := by
  intro k ls st S hk hf LS H locs hl hP hS
  obtain ⟨as, r, hn, rfl, hf1⟩ := fx_pn_e _ _ _ _ hf
  cases hb : Nat.ble r.length 8 with
  | false => rw [hb] at hf1; exact hf1.elim
  | true =>
    rw [hb] at hf1
    obtain ⟨post, hM, hf2⟩ := hf1
    rw [List.append_nil] at hM
    refine fx_call (va_runS (As := as.map (fx_v q)) (rest := r.map (fx_v q)) h.1 hM cw ⟨fx_blind hN, fun U hU hW => ⟨rfl, by rw [hU]; exact hP, va_K.moved hW.alike h.2.1, fun w hw => (hN w hw).2 s U hW (hnw w hw)⟩⟩ rfl (by rw [List.length_map]; exact hn) hl.1 fx_stk0 (lv_room (by rw [fx_cats]; exact Nat.le_of_ble_eq_true hb)) hd ⟨Nat.zero_le _, Nat.zero_le _⟩) hS (fun r' S' H1 locs1 hp hP1 hS1 => ?_)
    have := hk _ _ _ _ (hf2 r' S' hp) LS H1 locs1 hl hP1 hS1
    rw [fx_after] at this
    exact this
theorem fs_callSN (h : fx_C p s m args meth c cc nL Ts own D cl cA q ly.length) {nwl : List Cond} (hN : fx_N nwl) (hnw : ∀ w ∈ nwl, va_Nw w s) {host : String} {y : MethodName} {bytes : ByteArray} {maxL n index : Nat} {ret : Option FieldType} {ws : List Cond} {rm : Room} {z : Bool} (cw : va_CN R s args own index y host bytes maxL ret ws rm 0 0 n ∧ (Cond.static y).before args s = true) (hd : decode cc pc = .ok (.invokestatic index, 3)) : fx_Snd (fx_W p l e R s m args below meth c Q (fx_A q ly.length) 0 0 (fx_P D cl cA q ly) q nL) pc (fm_calls z n (fx_Met l D cl cA q ly nwl y ws rm z) (pc + 3)) := by
  intro k ls st S hk hf LS H locs hl hP hS
  obtain ⟨as, r, hn, rfl, hf1⟩ := fx_pn_e _ _ _ _ hf
  cases hb : Nat.ble r.length 8 with
  | false => rw [hb] at hf1; exact hf1.elim
  | true =>
    rw [hb] at hf1
    obtain ⟨post, hM, hf2⟩ := hf1
    rw [List.append_nil] at hM
    refine fx_call (va_runSN (As := as.map (fx_v q)) (rest := r.map (fx_v q)) h.1 hM ⟨cw.1, cw.2, trivial⟩ ⟨fx_blind hN, fun U hU hW => ⟨rfl, by rw [hU]; exact hP, va_K.moved hW.alike h.2.1, fun w hw => (hN w hw).2 s U hW (hnw w hw)⟩⟩ rfl (by rw [List.length_map]; exact hn) hl.1 fx_stk0 (lv_room (by rw [fx_cats]; exact Nat.le_of_ble_eq_true hb)) hd ⟨Nat.zero_le _, Nat.zero_le _⟩) hS (fun r' S' H1 locs1 hp hP1 hS1 => ?_)
    have := hk _ _ _ _ (hf2 r' S' hp) LS H1 locs1 hl hP1 hS1
    rw [fx_after] at this
    exact this
theorem fs_ret (h : fx_C p s m args meth c cc nL Ts own D cl cA q ly.length) {post : Int32 → fx_S → Prop} (hr : meth.sig.returnType = some .int) (hd : decode cc pc = .ok (.ireturn, 1)) : fx_Snd (fx_W p l e R s m args below meth c (MQ below (fx_Qc D cl cA q ly true post) args s 0 0 (fx_A q ly.length)) (fx_A q ly.length) 0 0 (fx_P D cl cA q ly) q nL) pc (fm_ret post) := by
  intro k ls st S hk hf LS H locs hl hP hS
  obtain ⟨x, r, rfl, hf1⟩ := fx_pi_e hf
  cases r with
  | cons a r => exact hf1.elim
  | nil => exact W.iret (v := x) h.1.1 h.1.2.1 hr (fun t ht hW => ⟨⟨x, S, rfl, hf1, by rw [ht]; exact hP⟩, hS.F ht⟩) hS.2.2 hd (hlocks := h.2.2.2)
theorem fs_zret (h : fx_C p s m args meth c cc nL Ts own D cl cA q ly.length) {post : Int32 → fx_S → Prop} (hr : meth.sig.returnType = some .boolean) (hd : decode cc pc = .ok (.ireturn, 1)) : fx_Snd (fx_W p l e R s m args below meth c (MQ below (fx_Qc D cl cA q ly true post) args s 0 0 (fx_A q ly.length)) (fx_A q ly.length) 0 0 (fx_P D cl cA q ly) q nL) pc (fm_zret post) := by
  intro k ls st S hk hf LS H locs hl hP hS
  obtain ⟨x, r, rfl, hf1⟩ := fx_pi_e hf
  cases r with
  | cons a r => exact hf1.elim
  | nil => exact W.zret (v := x) h.1.1 h.1.2.1 hr (fx_z hf1.1).1 (fun t ht hW => ⟨⟨x, S, rfl, hf1.2, by rw [ht]; exact hP⟩, hS.F ht⟩) hS.2.2 hd (hlocks := h.2.2.2)
theorem fs_vret (h : fx_C p s m args meth c cc nL Ts own D cl cA q ly.length) {post : Int32 → fx_S → Prop} (hr : meth.sig.returnType = none) (hd : decode cc pc = .ok (.return_, 1)) : fx_Snd (fx_W p l e R s m args below meth c (MQ below (fx_Qc D cl cA q ly false post) args s 0 0 (fx_A q ly.length)) (fx_A q ly.length) 0 0 (fx_P D cl cA q ly) q nL) pc (fm_vret post) := by
  intro k ls st S hk hf LS H locs hl hP hS
  cases st with
  | cons a r => exact hf.elim
  | nil => exact W.vret h.1.1 h.1.2.1 hr (fun t ht hW => ⟨⟨0, S, rfl, hf, by rw [ht]; exact hP⟩, hS.F ht⟩) hS.2.2 hd (hlocks := h.2.2.2)
theorem fs_table (h : fx_C p s m args meth c cc nL Ts own D cl cA q ly.length) {dflt lo hi : Int} {offs : Array Int} {len d : Nat} (n : Nat) {cs : List (Int32 × Nat)} (hd : decode cc pc = .ok (.tableswitch dflt lo hi offs, len)) (hn : hi < lo + n) (h1 : (List.range n).all (fun j => match offs[j]? with | some o => decide ((pc : Int) + o = (fx_tg (Int32.ofInt (lo + j)) cs d : Int)) | none => false) = true) (h2 : cs.all (fun x => decide (lo ≤ x.1.toInt ∧ x.1.toInt ≤ hi)) = true) (h3 : (pc : Int) + dflt = (d : Int)) : fx_Snd (fx_W p l e R s m args below meth c Q (fx_A q ly.length) 0 0 (fx_P D cl cA q ly) q nL) pc (fm_sw cs d) := by
  intro k ls st S hk hf LS H locs hl hP hS
  obtain ⟨x, r, rfl, hf1⟩ := fx_pi_e hf
  have hf2 := fx_sw_tg _ _ _ hf1
  by_cases ho : x.toInt < lo ∨ hi < x.toInt
  · have he : fx_tg x cs d = d := fx_tg_out cs d (fun c0 hc0 he => by
      have := of_decide_eq_true (List.all_eq_true.mp h2 c0 hc0)
      rw [← he] at this
      omega)
    rw [he] at hf2
    exact lv_tableOut h.1.1 h.1.2.1 hd ho h3 (hk _ _ _ _ hf2 LS H locs hl hP hS)
  · have hx : lo + ((x.toInt - lo).toNat : Int) = x.toInt := by omega
    have hlt : (x.toInt - lo).toNat < n := by omega
    have h9 := List.all_eq_true.mp h1 _ (List.mem_range.mpr hlt)
    rw [hx, Int32.ofInt_toInt] at h9
    cases ho2 : offs[(x.toInt - lo).toNat]? with
    | none => rw [ho2] at h9; cases h9
    | some o =>
      rw [ho2] at h9
      exact lv_tableIn h.1.1 h.1.2.1 hd (by omega) (by omega) ho2 (of_decide_eq_true h9) (hk _ _ _ _ hf2 LS H locs hl hP hS)
def fx_lok (pc : Nat) (dflt : Int) (d : Nat) : List (Int × Int) → List (Int32 × Nat) → Bool
  | [], [] => decide ((pc : Int) + dflt = (d : Int))
  | (a, o) :: ps, (b, t) :: cs => decide (b.toInt = a) && (decide ((pc : Int) + o = (t : Int)) && fx_lok pc dflt d ps cs)
  | _, _ => false
theorem fx_lok_ok {pc : Nat} {dflt : Int} {d : Nat} {x : Int32} : ∀ (ps : List (Int × Int)) (cs : List (Int32 × Nat)), fx_lok pc dflt d ps cs = true → (pc : Int) + Op.lookupswitch.offset ps dflt x.toInt = (fx_tg x cs d : Int)
  | [], [], h => of_decide_eq_true h
  | [], _ :: _, h => by cases h
  | _ :: _, [], h => by cases h
  | (a, o) :: ps, (b, t) :: cs, h => by
    simp only [fx_lok, Bool.and_eq_true, decide_eq_true_eq] at h
    rw [Op.lookupswitch.offset_cons]
    unfold fx_tg
    by_cases hx : x = b
    · rw [if_pos hx, if_pos (by rw [hx]; exact h.1.symm)]; exact h.2.1
    · rw [if_neg hx, if_neg (fun hq => hx (Int32.toInt_inj.mp (by rw [h.1]; exact hq.symm)))]
      exact fx_lok_ok ps cs h.2.2
theorem fs_lookup (h : fx_C p s m args meth c cc nL Ts own D cl cA q ly.length) {dflt : Int} {ps : Array (Int × Int)} {len d : Nat} {cs : List (Int32 × Nat)} (hd : decode cc pc = .ok (.lookupswitch dflt ps, len)) (hp : (ps.toList.zip (ps.toList.drop 1)).all (fun (a, next) => a.1 < next.1) = true) (h1 : fx_lok pc dflt d ps.toList cs = true) : fx_Snd (fx_W p l e R s m args below meth c Q (fx_A q ly.length) 0 0 (fx_P D cl cA q ly) q nL) pc (fm_sw cs d) := by
  intro k ls st S hk hf LS H locs hl hP hS
  obtain ⟨x, r, rfl, hf1⟩ := fx_pi_e hf
  have hf2 := fx_sw_tg _ _ _ hf1
  exact lv_lookup h.1.1 h.1.2.1 hd hp rfl (fx_lok_ok _ _ h1) (hk _ _ _ _ hf2 LS H locs hl hP hS)
def fm_max (nx : Nat) : fx_M fx_S := fun k ls st S => fx_pi st fun y st => fx_pi st fun x st => bif Nat.ble st.length 8 then k nx ls (.inl (fx_max x y) :: st) S else False
theorem fs_max (h : fx_C p s m args meth c cc nL Ts own D cl cA q ly.length) {index : Nat} (hlink : (Cond.methodLink own index Lib.Math.max.name).before args s = true) (hstat : (Cond.static Lib.Math.max.name).before args s = true) (hini : (Cond.initialized "java/lang/Math").before args s = true) (hcode : (Cond.code Lib.Math.max.name Lib.Math.max.code 2 (some .int)).before args s = true) (hfr : 1 ≤ R.frames) (hlo : 21 ≤ R.locals) (hd : decode cc pc = .ok (.invokestatic index, 3)) : fx_Snd (fx_W p l e R s m args below meth c Q (fx_A q ly.length) 0 0 (fx_P D cl cA q ly) q nL) pc (fm_max (pc + 3)) := by
  intro k ls st S hk hf LS H locs hl hP hS
  obtain ⟨y, r, rfl, hf1⟩ := fx_pi_e hf
  obtain ⟨x, r, rfl, hf2⟩ := fx_pi_e hf1
  cases hb : Nat.ble r.length 8 with
  | false => rw [hb] at hf2; exact hf2.elim
  | true =>
    rw [hb] at hf2
    have hb := Nat.le_of_ble_eq_true hb
    exact va_mmax h.1.1 h.1.2.1 (h.1.2.2.1.trans hl.1.symm) h.1.2.2.2.1 hlink hstat hini hcode hfr (by rw [fx_cats]; omega) (Nat.zero_le _) (Nat.zero_le _) hd (hk _ _ _ _ hf2 LS H locs hl hP hS)
end FXT
/-- a contract, out of the walk of its body -/
theorem fx_Met_of {l : Launch} {D : va_G} {cl : List vw_C} {cA : Nat → ClassId} {q : Nat → Nat} {ly : fx_L} {nwl : List Cond} {y : MethodName} {ws ws' : List Cond} {rm : Room} {cc : ByteArray} {nL : Nat} {ret : Option FieldType} {z : Bool} {av : List fx_V} {S : fx_S} {post : Int32 → fx_S → Prop} (hy : plainName y.cls = true) (hw : ws = Cond.code y cc nL ret :: ws') (hq : ∀ i j, i < ly.length → j < ly.length → q i = q j → i = j) (hlen : av.length ≤ nL)
    (body : ∀ (p : Program) (e : Env) (s : State) (m : MethodId) (args : Array Value) (below : List Frame) (meth : Method) (c : Code), fx_C p s m args meth c cc nL ws y.cls D cl cA q ly.length → meth.sig.returnType = ret → (∀ w ∈ nwl, va_Nw w s) → fx_W p l e rm s m args below meth c (MQ below (fx_Qc D cl cA q ly z post) args s 0 0 (fx_A q ly.length)) (fx_A q ly.length) 0 0 (fx_P D cl cA q ly) q nL 0 av [] S) : fx_Met l D cl cA q ly nwl y ws rm z av S post := by
  refine Met.ofW (cc := cc) (maxL := nL) (ret := ret) hy hw ?_
  intro p e s m args below meth c s₁ B hml hv
  obtain ⟨rfl, hP, hK, hnw⟩ := hv
  have hown : s.vm.findClass y.cls = some m.cls := findClass_of_methodNamed B.named
  have hl := lv_entry (av.map (fx_v q)) (n := nL) (by rw [fx_sl_len]; exact hlen)
  rw [lg_entry_eq]
  refine body p e s m _ below meth c ⟨⟨B.exec, B.bytes, hml, hown, atoms_spec (ws := ws) B.pre⟩, hK, hq, B.notSynchronized⟩ B.returns hnw _ s.heap [] (fx_has_mono hl (fun x hx => ?_)) hP va_S.rf
  obtain ⟨i, v, hi, rfl⟩ := fx_ls_mem.mp hx
  have := fx_args_mem (q := q) av 0 i v hi
  simpa using this
end
section
/-! ===== Int32 by its bits: bt x i ===== -/
def bt (x : Int32) (i : Nat) : Bool := x.toBitVec.getLsbD i
theorem b_ext {x y : Int32} (h : ∀ i, i < 32 → bt x i = bt y i) : x = y := Int32.toBitVec_inj.mp (BitVec.eq_of_getLsbD_eq (fun i hi => h i hi))
theorem b_or (x y : Int32) (i : Nat) : bt (x ||| y) i = (bt x i || bt y i) := by unfold bt; rw [Int32.toBitVec_or, BitVec.getLsbD_or]
theorem b_and (x y : Int32) (i : Nat) : bt (x &&& y) i = (bt x i && bt y i) := by unfold bt; rw [Int32.toBitVec_and, BitVec.getLsbD_and]
theorem b_xor (x y : Int32) (i : Nat) : bt (x ^^^ y) i = (bt x i ^^ bt y i) := by unfold bt; rw [Int32.toBitVec_xor, BitVec.getLsbD_xor]
theorem b_big {x : Int32} {i : Nat} (h : 32 ≤ i) : bt x i = false := BitVec.getLsbD_of_ge _ _ h
theorem b_255 (i : Nat) : bt 255 i = decide (i < 8) := by
  rcases Nat.lt_or_ge i 32 with h | h
  · exact (by decide +kernel : ∀ i, i < 32 → bt 255 i = decide (i < 8)) i h
  · rw [b_big h, decide_eq_false (by omega)]
theorem b_m1 : ∀ i, i < 32 → bt (-1) i = true := by decide +kernel
theorem b_0 (i : Nat) : bt 0 i = false := BitVec.getLsbD_zero
theorem s_l : ∀ n, n < 32 → ((nI n &&& 31).toBitVec.smod 32).toNat = n := by decide +kernel
theorem s_u : ∀ n, n < 32 → (((nI n).toUInt32 &&& Int32.toUInt32 31).toBitVec % 32).toNat = n := by decide +kernel
theorem b_shl (n : Nat) (hn : n < 32) (x : Int32) {i : Nat} (hi : i < 32) : bt (x <<< (nI n &&& 31)) i = (decide (n ≤ i) && bt x (i - n)) := by
  unfold bt
  rw [Int32.toBitVec_shiftLeft]
  show (x.toBitVec <<< ((nI n &&& 31).toBitVec.smod 32).toNat).getLsbD i = _
  rw [s_l n hn, BitVec.getLsbD_shiftLeft]
  rcases Nat.lt_or_ge i n with h | h
  · simp [h, Nat.not_le.mpr h]
  · simp [hi, h, Nat.not_lt.mpr h]
theorem b_ushr (n : Nat) (hn : n < 32) (x : Int32) (i : Nat) : bt ((x.toUInt32 >>> ((nI n).toUInt32 &&& Int32.toUInt32 31)).toInt32) i = bt x (n + i) := by
  show (x.toUInt32 >>> ((nI n).toUInt32 &&& Int32.toUInt32 31)).toBitVec.getLsbD i = x.toUInt32.toBitVec.getLsbD (n + i)
  rw [UInt32.toBitVec_shiftRight]
  show (x.toUInt32.toBitVec >>> (((nI n).toUInt32 &&& Int32.toUInt32 31).toBitVec % 32).toNat).getLsbD i = _
  rw [s_u n hn, BitVec.getLsbD_ushiftRight]
theorem b_sshr (n : Nat) (hn : n < 32) (x : Int32) {i : Nat} (hi : i < 32) : bt (x >>> (nI n &&& 31)) i = if n + i < 32 then bt x (n + i) else bt x 31 := by
  unfold bt
  rw [Int32.toBitVec_shiftRight]
  show (x.toBitVec.sshiftRight ((nI n &&& 31).toBitVec.smod 32).toNat).getLsbD i = _
  rw [s_l n hn, BitVec.getLsbD_sshiftRight, BitVec.msb_eq_getLsbD_last]
  simp [hi]
/-! sets of small numbers as masks -/
theorem b_1 : ∀ i, i < 32 → bt 1 i = decide (i = 0) := by decide +kernel
abbrev px_b (k : Nat) : Int32 := 1 <<< (nI k &&& 31)
abbrev px_in (x k : Int32) : Prop := ¬ (x >>> (k &&& 31)) &&& 1 = 0
abbrev px_sub (a b : Int32) : Prop := a &&& (b ^^^ (-1)) = 0
def px_z (P : Prop) [Decidable P] : Int32 := if P then 1 else 0
theorem px_z_t {P : Prop} [Decidable P] (h : P) : px_z P = 1 := if_pos h
theorem px_z_f {P : Prop} [Decidable P] (h : ¬ P) : px_z P = 0 := if_neg h
theorem px_z01 (P : Prop) [Decidable P] : px_z P = 0 ∨ px_z P = 1 := by
  unfold px_z; by_cases h : P
  · rw [if_pos h]; exact Or.inr rfl
  · rw [if_neg h]; exact Or.inl rfl
theorem px_z_eq0 {P : Prop} [Decidable P] : px_z P = 0 ↔ ¬ P := by
  unfold px_z; by_cases h : P
  · rw [if_pos h]; exact ⟨fun q => absurd q (by decide), fun q => absurd h q⟩
  · rw [if_neg h]; exact ⟨fun _ => h, fun _ => rfl⟩
theorem px_z_congr {P Q : Prop} [Decidable P] [Decidable Q] (h : P ↔ Q) : px_z P = px_z Q := by
  unfold px_z; by_cases hp : P
  · rw [if_pos hp, if_pos (h.mp hp)]
  · rw [if_neg hp, if_neg (fun q => hp (h.mpr q))]
theorem px_and1 (y : Int32) : y &&& 1 = 0 ↔ bt y 0 = false := by
  constructor
  · intro h
    have h1 := congrArg (fun z => bt z 0) h
    simp only [b_and, b_0] at h1
    rw [b_1 0 (by omega)] at h1
    simpa using h1
  · intro h
    apply b_ext
    intro i hi
    rw [b_and, b_1 i hi, b_0]
    by_cases h0 : i = 0
    · subst h0; simp [h]
    · simp [h0]
theorem px_in_bt {x : Int32} {k : Nat} (hk : k < 32) : px_in x (nI k) ↔ bt x k = true := by
  unfold px_in
  rw [px_and1, b_sshr k hk x (by omega), if_pos (by omega), Nat.add_zero]
  cases bt x k <;> simp
theorem px_b_bt {k i : Nat} (hk : k < 32) (hi : i < 32) : bt (px_b k) i = decide (i = k) := by
  unfold px_b
  rw [b_shl k hk 1 hi]
  by_cases h : k ≤ i
  · rw [b_1 (i - k) (by omega)]
    by_cases h2 : i = k
    · simp [h2]
    · simp [h2]; omega
  · simp [h]; omega
theorem px_not_bt {x : Int32} {i : Nat} (hi : i < 32) : bt (x ^^^ (-1)) i = !bt x i := by
  rw [b_xor, b_m1 i hi]; cases bt x i <;> rfl
theorem px_sub_bt {a b : Int32} : px_sub a b ↔ ∀ i, i < 32 → bt a i = true → bt b i = true := by
  unfold px_sub
  constructor
  · intro h i hi ha
    have h1 := congrArg (fun z => bt z i) h
    simp only [b_and, b_0, px_not_bt hi, ha, Bool.true_and] at h1
    cases hb : bt b i with
    | true => rfl
    | false => rw [hb] at h1; cases h1
  · intro h
    apply b_ext
    intro i hi
    rw [b_and, b_0, px_not_bt hi]
    cases ha : bt a i with
    | false => rfl
    | true => rw [h i hi ha]; rfl
theorem px_and0_bt {a b : Int32} : a &&& b = 0 ↔ ∀ i, i < 32 → bt a i = true → bt b i = false := by
  constructor
  · intro h i hi ha
    have h1 := congrArg (fun z => bt z i) h
    simp only [b_and, b_0, ha, Bool.true_and] at h1
    exact h1
  · intro h
    apply b_ext
    intro i hi
    rw [b_and, b_0]
    cases ha : bt a i with
    | false => rfl
    | true => rw [h i hi ha]; rfl
theorem px_ne0_bt {a : Int32} : a ≠ 0 ↔ ∃ i, i < 32 ∧ bt a i = true := by
  constructor
  · intro h
    refine Classical.byContradiction fun hn => h ?_
    apply b_ext
    intro i hi
    rw [b_0]
    cases ha : bt a i with
    | false => rfl
    | true => exact absurd ⟨i, hi, ha⟩ hn
  · rintro ⟨i, hi, h⟩ rfl
    rw [b_0] at h; cases h
theorem px_z_ne0 {P : Prop} [Decidable P] : ¬ px_z P = 0 ↔ P := by
  rw [px_z_eq0]; exact Decidable.not_not
end
section
/-! n + 1 numbers below n: two of them are the same -/
theorem pg_hole : ∀ (n : Nat) (f : Nat → Nat), (∀ i, i < n + 1 → f i < n) → ∃ i j, i < j ∧ j < n + 1 ∧ f i = f j
  | 0, f, h => absurd (h 0 (by omega)) (by omega)
  | n + 1, f, h => by
    by_cases hv : ∃ i, i < n + 1 ∧ f i = f (n + 1)
    · obtain ⟨i, h1, h2⟩ := hv
      exact ⟨i, n + 1, h1, by omega, h2⟩
    · have hne : ∀ i, i < n + 1 → f i ≠ f (n + 1) := fun i hi he => hv ⟨i, hi, he⟩
      obtain ⟨i, j, hij, hj, he⟩ := pg_hole n (fun i => if f i = n then f (n + 1) else f i) (fun i hi => by
        have h1 := h i (by omega)
        have h2 := h (n + 1) (by omega)
        have h3 := hne i hi
        show (if f i = n then f (n + 1) else f i) < n
        by_cases hq : f i = n
        · rw [if_pos hq]; omega
        · rw [if_neg hq]; omega)
      have h3 := hne i (by omega)
      have h4 := hne j hj
      refine ⟨i, j, hij, by omega, ?_⟩
      have he : (if f i = n then f (n + 1) else f i) = (if f j = n then f (n + 1) else f j) := he
      by_cases h5 : f i = n
      · by_cases h6 : f j = n
        · rw [h5, h6]
        · rw [if_pos h5, if_neg h6] at he; exact absurd he.symm h4
      · by_cases h6 : f j = n
        · rw [if_neg h5, if_pos h6] at he; exact absurd he h3
        · rw [if_neg h5, if_neg h6] at he; exact he
/-- a situation's steps outside the set t, below n, with a 1 ahead -/
def pg_e (s t : Nat → Bool) : Nat → Nat
  | 0 => 1
  | n + 1 => if t n = true then pg_e s t n else 2 * pg_e s t n + (if s n = true then 1 else 0)
def pg_c (t : Nat → Bool) : Nat → Nat
  | 0 => 0
  | n + 1 => if t n = true then pg_c t n else pg_c t n + 1
theorem pg_e_in (s t : Nat → Bool) : ∀ n, 2 ^ pg_c t n ≤ pg_e s t n ∧ pg_e s t n < 2 ^ (pg_c t n + 1)
  | 0 => by simp [pg_c, pg_e]
  | n + 1 => by
    have ih := pg_e_in s t n
    unfold pg_c pg_e
    by_cases h : t n = true
    · rw [if_pos h, if_pos h]; exact ih
    · rw [if_neg h, if_neg h]
      have e1 : 2 ^ (pg_c t n + 1) = 2 * 2 ^ pg_c t n := by rw [Nat.pow_succ]; omega
      have e2 : 2 ^ (pg_c t n + 1 + 1) = 2 * 2 ^ (pg_c t n + 1) := by rw [Nat.pow_succ]; omega
      have e3 : (if s n = true then 1 else 0 : Nat) ≤ 1 := by by_cases hs : s n = true <;> simp [hs]
      omega
theorem pg_c_le (t : Nat → Bool) : ∀ n, pg_c t n ≤ n
  | 0 => by simp [pg_c]
  | n + 1 => by
    have ih := pg_c_le t n
    unfold pg_c
    by_cases h : t n = true
    · rw [if_pos h]; omega
    · rw [if_neg h]; omega
theorem pg_c_mono {t t' : Nat → Bool} : ∀ n, (∀ i, i < n → t' i = true → t i = true) → pg_c t n ≤ pg_c t' n ∧ (pg_c t n = pg_c t' n → ∀ i, i < n → t i = t' i)
  | 0, _ => ⟨by simp [pg_c], fun _ i hi => by omega⟩
  | n + 1, h => by
    obtain ⟨h1, h2⟩ := pg_c_mono n (fun i hi => h i (by omega))
    have h3 := h n (by omega)
    unfold pg_c
    by_cases ht : t n = true
    · by_cases ht' : t' n = true
      · rw [if_pos ht, if_pos ht']
        refine ⟨h1, fun he i hi => ?_⟩
        by_cases hin : i = n
        · subst hin; rw [ht, ht']
        · exact h2 he i (by omega)
      · rw [if_pos ht, if_neg ht']
        exact ⟨by omega, fun he => by omega⟩
    · have ht' : ¬ t' n = true := fun q => ht (h3 q)
      rw [if_neg ht, if_neg ht']
      refine ⟨by omega, fun he i hi => ?_⟩
      by_cases hin : i = n
      · subst hin
        rw [Bool.not_eq_true] at ht ht'
        rw [ht, ht']
      · exact h2 (by omega) i (by omega)
theorem pg_e_inj {s s' t t' : Nat → Bool} : ∀ n, (∀ i, i < n → t i = t' i) → (∀ i, i < n → t i = true → s i = true) → (∀ i, i < n → t' i = true → s' i = true) → pg_e s t n = pg_e s' t' n → ∀ i, i < n → s i = s' i
  | 0, _, _, _, _ => fun i hi => by omega
  | n + 1, ht, hs, hs', he => by
    unfold pg_e at he
    have htn := ht n (by omega)
    intro i hi
    by_cases h : t n = true
    · have h' : t' n = true := by rw [← htn]; exact h
      rw [if_pos h, if_pos h'] at he
      by_cases hin : i = n
      · subst hin; rw [hs i (by omega) h, hs' i (by omega) h']
      · exact pg_e_inj n (fun i hi => ht i (by omega)) (fun i hi => hs i (by omega)) (fun i hi => hs' i (by omega)) he i (by omega)
    · have h' : ¬ t' n = true := by rw [← htn]; exact h
      rw [if_neg h, if_neg h'] at he
      have e3 : (if s n = true then 1 else 0 : Nat) ≤ 1 := by by_cases hs : s n = true <;> simp [hs]
      have e4 : (if s' n = true then 1 else 0 : Nat) ≤ 1 := by by_cases hs : s' n = true <;> simp [hs]
      have e5 : pg_e s t n = pg_e s' t' n := by omega
      have e6 : (if s n = true then 1 else 0 : Nat) = (if s' n = true then 1 else 0) := by omega
      by_cases hin : i = n
      · subst hin
        by_cases h1 : s i = true
        · rw [if_pos h1] at e6
          by_cases h2 : s' i = true
          · rw [h1, h2]
          · rw [if_neg h2] at e6; omega
        · rw [if_neg h1] at e6
          by_cases h2 : s' i = true
          · rw [if_pos h2] at e6; omega
          · rw [Bool.not_eq_true] at h1 h2; rw [h1, h2]
      · exact pg_e_inj n (fun i hi => ht i (by omega)) (fun i hi => hs i (by omega)) (fun i hi => hs' i (by omega)) e5 i (by omega)
/-- of 512 pairs (s, t) of sets of numbers below 8, t in s, the t's falling, two are the same -/
theorem pg_512 (s t : Nat → Nat → Bool) (hsub : ∀ k i, i < 8 → t k i = true → s k i = true) (hfall : ∀ k i, i < 8 → t (k + 1) i = true → t k i = true) : ∃ i j, i < j ∧ j < 512 ∧ ∀ b, b < 8 → s i b = s j b ∧ t i b = t j b := by
  have hf : ∀ (d k i : Nat), i < 8 → t (k + d) i = true → t k i = true := by
    intro d
    induction d with
    | zero => intro k i _ h; exact h
    | succ d ih => intro k i hi h; exact ih k i hi (hfall (k + d) i hi h)
  have hb : ∀ k, 1 ≤ pg_e (s k) (t k) 8 ∧ pg_e (s k) (t k) 8 < 512 := by
    intro k
    have h1 := pg_e_in (s k) (t k) 8
    have h2 := pg_c_le (t k) 8
    have h3 : 2 ^ (pg_c (t k) 8 + 1) ≤ 2 ^ 9 := Nat.pow_le_pow_right (by omega) (by omega)
    have h4 : 1 ≤ 2 ^ pg_c (t k) 8 := Nat.one_le_two_pow
    omega
  obtain ⟨i, j, hij, hj, he⟩ := pg_hole 511 (fun k => pg_e (s k) (t k) 8 - 1) (fun k _ => by
    have := hb k
    show pg_e (s k) (t k) 8 - 1 < 511
    omega)
  have h1 := hb i
  have h2 := hb j
  have he : pg_e (s i) (t i) 8 - 1 = pg_e (s j) (t j) 8 - 1 := he
  have he : pg_e (s i) (t i) 8 = pg_e (s j) (t j) 8 := by omega
  have hsub2 : ∀ b, b < 8 → t j b = true → t i b = true := fun b hb0 h => hf (j - i) i b hb0 (by rw [show i + (j - i) = j by omega]; exact h)
  obtain ⟨hc1, hc2⟩ := pg_c_mono (t := t i) (t' := t j) 8 hsub2
  have g1 := pg_e_in (s i) (t i) 8
  have g2 := pg_e_in (s j) (t j) 8
  have hceq : pg_c (t i) 8 = pg_c (t j) 8 := by
    refine Nat.le_antisymm hc1 ?_
    refine Nat.not_lt.mp fun hlt => ?_
    have h3 : 2 ^ (pg_c (t i) 8 + 1) ≤ 2 ^ pg_c (t j) 8 := Nat.pow_le_pow_right (by omega) (by omega)
    omega
  have ht := hc2 hceq
  have hs := pg_e_inj 8 ht (hsub i) (hsub j) he
  exact ⟨i, j, hij, by omega, fun b hb0 => ⟨hs b hb0, ht b hb0⟩⟩
/-! rounds that only add: eight of them come to rest in a set of eight -/
def cl_n (x : Int32) : Nat → Nat
  | 0 => 0
  | k + 1 => cl_n x k + (if bt x k = true then 1 else 0)
theorem cl_n_le (x : Int32) : ∀ k, cl_n x k ≤ k
  | 0 => by simp [cl_n]
  | k + 1 => by
    have := cl_n_le x k
    unfold cl_n
    by_cases h : bt x k = true
    · rw [if_pos h]; omega
    · rw [if_neg h]; omega
theorem cl_n_mono {x y : Int32} : ∀ k, (∀ i, i < k → bt x i = true → bt y i = true) → cl_n x k ≤ cl_n y k ∧ (cl_n x k = cl_n y k → ∀ i, i < k → bt x i = bt y i)
  | 0, _ => ⟨by simp [cl_n], fun _ i hi => by omega⟩
  | k + 1, h => by
    obtain ⟨h1, h2⟩ := cl_n_mono k (fun i hi => h i (by omega))
    have h3 := h k (by omega)
    unfold cl_n
    by_cases hx : bt x k = true
    · have hy := h3 hx
      rw [if_pos hx, if_pos hy]
      refine ⟨by omega, fun he i hi => ?_⟩
      by_cases hik : i = k
      · subst hik; rw [hx, hy]
      · exact h2 (by omega) i (by omega)
    · by_cases hy : bt y k = true
      · rw [if_neg hx, if_pos hy]; exact ⟨by omega, fun he => by omega⟩
      · rw [if_neg hx, if_neg hy]
        refine ⟨by omega, fun he i hi => ?_⟩
        by_cases hik : i = k
        · subst hik; rw [Bool.not_eq_true] at hx hy; rw [hx, hy]
        · exact h2 (by omega) i (by omega)
def cl_it (F : Int32 → Int32) : Nat → Int32 → Int32
  | 0, r => r
  | n + 1, r => F (cl_it F n r)
theorem px_sub_rf (a : Int32) : px_sub a a := px_sub_bt.mpr (fun _ _ h => h)
theorem px_sub_tr {a b c : Int32} (h1 : px_sub a b) (h2 : px_sub b c) : px_sub a c := px_sub_bt.mpr (fun i hi h => px_sub_bt.mp h2 i hi (px_sub_bt.mp h1 i hi h))
theorem px_sub_as {a b : Int32} (h1 : px_sub a b) (h2 : px_sub b a) : a = b := by
  apply b_ext
  intro i hi
  have e1 := px_sub_bt.mp h1 i hi
  have e2 := px_sub_bt.mp h2 i hi
  cases ha : bt a i with
  | true => rw [e1 ha]
  | false =>
    cases hb : bt b i with
    | true => rw [e2 hb] at ha; cases ha
    | false => rfl
theorem px_sub_or {a b c : Int32} : px_sub (a ||| b) c ↔ px_sub a c ∧ px_sub b c := by
  rw [px_sub_bt, px_sub_bt, px_sub_bt]
  constructor
  · intro h
    exact ⟨fun i hi ha => h i hi (by rw [b_or, ha]; rfl), fun i hi hb => h i hi (by rw [b_or, hb]; cases bt a i <;> rfl)⟩
  · intro h i hi hab
    rw [b_or] at hab
    cases ha : bt a i with
    | true => exact h.1 i hi ha
    | false => rw [ha] at hab; exact h.2 i hi hab
theorem px_sub_l (a b : Int32) : px_sub a (a ||| b) := (px_sub_or.mp (px_sub_rf (a ||| b))).1
theorem px_sub_r (a b : Int32) : px_sub b (a ||| b) := (px_sub_or.mp (px_sub_rf (a ||| b))).2
/-- a set of numbers below 8 -/
def cl_8 (x : Int32) : Prop := ∀ i, 8 ≤ i → i < 32 → bt x i = false
theorem cl_8_sub {a b : Int32} (h : px_sub a b) (hb : cl_8 b) : cl_8 a := by
  intro i h1 h2
  cases ha : bt a i with
  | false => rfl
  | true => rw [← px_sub_bt.mp h i h2 ha]; exact hb i h1 h2
theorem cl_grow {a b : Int32} (h : px_sub a b) (hb : cl_8 b) : a = b ∨ cl_n a 8 < cl_n b 8 := by
  obtain ⟨h1, h2⟩ := cl_n_mono (x := a) (y := b) 8 (fun i hi => px_sub_bt.mp h i (by omega))
  by_cases he : cl_n a 8 = cl_n b 8
  · left
    apply b_ext
    intro i hi
    by_cases h8 : i < 8
    · exact h2 he i h8
    · rw [hb i (by omega) hi, cl_8_sub h hb i (by omega) hi]
  · right; omega
theorem cl_rest {F : Int32 → Int32} {M r : Int32} (hM : cl_8 M) (hinf : ∀ x, px_sub x (F x)) (hin : ∀ x, px_sub x M → px_sub (F x) M) (hr : px_sub r M) : ∀ n, px_sub (cl_it F n r) M ∧ (F (cl_it F n r) = cl_it F n r ∨ n < cl_n (F (cl_it F n r)) 8 + 0)
  | 0 => by
    refine ⟨hr, ?_⟩
    rcases cl_grow (hinf r) (cl_8_sub (hin r hr) hM) with h | h
    · exact Or.inl h.symm
    · right; show 0 < cl_n (F r) 8 + 0; omega
  | n + 1 => by
    obtain ⟨h1, h2⟩ := cl_rest hM hinf hin hr n
    have h3 : px_sub (cl_it F (n + 1) r) M := hin _ h1
    refine ⟨h3, ?_⟩
    rcases cl_grow (hinf (cl_it F (n + 1) r)) (cl_8_sub (hin _ h3) hM) with h | h
    · exact Or.inl h.symm
    · rcases h2 with h2 | h2
      · left
        show F (F (cl_it F n r)) = F (cl_it F n r)
        rw [h2, h2]
      · right
        have : cl_n (cl_it F (n + 1) r) 8 = cl_n (F (cl_it F n r)) 8 := rfl
        omega
theorem cl_rest8 {F : Int32 → Int32} {M r : Int32} (hM : cl_8 M) (hinf : ∀ x, px_sub x (F x)) (hin : ∀ x, px_sub x M → px_sub (F x) M) (hr : px_sub r M) (n : Nat) (hn : 8 ≤ n) : F (cl_it F n r) = cl_it F n r := by
  rcases (cl_rest hM hinf hin hr n).2 with h | h
  · exact h
  · have := cl_n_le (F (cl_it F n r)) 8
    omega
theorem cl_it_sub {F : Int32 → Int32} {r : Int32} (hinf : ∀ x, px_sub x (F x)) : ∀ n, px_sub r (cl_it F n r)
  | 0 => px_sub_rf r
  | n + 1 => px_sub_tr (cl_it_sub hinf n) (hinf _)
theorem cl_it_in {F : Int32 → Int32} {r c : Int32} (hc : ∀ x, px_sub x c → px_sub (F x) c) (hr : px_sub r c) : ∀ n, px_sub (cl_it F n r) c
  | 0 => hr
  | n + 1 => hc _ (cl_it_in hc hr n)
/-- two kinds of rounds that rest in the same sets come to the same set -/
theorem cl_same {F G : Int32 → Int32} {M r : Int32} {closed : Int32 → Prop} (hM : cl_8 M) (hr : px_sub r M) (f1 : ∀ x, px_sub x (F x)) (f2 : ∀ c x, closed c → px_sub x c → px_sub (F x) c) (f3 : ∀ x, F x = x → closed x) (f4 : ∀ x, px_sub x M → px_sub (F x) M) (g1 : ∀ x, px_sub x (G x)) (g2 : ∀ c x, closed c → px_sub x c → px_sub (G x) c) (g3 : ∀ x, G x = x → closed x) (g4 : ∀ x, px_sub x M → px_sub (G x) M) (n m : Nat) (hn : 8 ≤ n) (hm : 8 ≤ m) : cl_it F n r = cl_it G m r := by
  have a1 := f3 _ (cl_rest8 hM f1 f4 hr n hn)
  have a2 := g3 _ (cl_rest8 hM g1 g4 hr m hm)
  exact px_sub_as (cl_it_in (fun x hx => f2 _ x a2 hx) (cl_it_sub g1 m) n) (cl_it_in (fun x hx => g2 _ x a1 hx) (cl_it_sub f1 n) m)
/-! the pure picture: what the loops of both programs compute, as functions of rows (Nat → Int32) and masks -/
def pf_part (po : Nat → Int32) (p : Int32) : Nat → Int32
  | 0 => 0
  | k + 1 => if po k = p then pf_part po p k ||| px_b k else pf_part po p k
def pf_ini (it : Nat → Int32) : Nat → Int32
  | 0 => 0
  | k + 1 => if it k = 0 then pf_ini it k else pf_ini it k ||| px_b k
/-- the transitions below n whose preceding steps are all in si -/
def pf_en (bf : Nat → Int32) (si : Int32) : Nat → Int32
  | 0 => 0
  | k + 1 => if px_sub (bf k) si then pf_en bf si k ||| px_b k else pf_en bf si k
def pf_due (cd : Nat → Int32) (tr s0 : Int32) : Nat → Int32
  | 0 => s0
  | k + 1 => if px_in tr (cd k) then pf_due cd tr s0 k else pf_due cd tr s0 k &&& (px_b k ^^^ (-1))
/-- without rivals: the set, and the steps taken -/
def pf_wr (bf : Nat → Int32) (du : Int32) : Nat → Int32 × Int32
  | 0 => (0, 0)
  | k + 1 => if px_in du (nI k) ∧ bf k &&& (pf_wr bf du k).2 = 0 then ((pf_wr bf du k).1 ||| px_b k, (pf_wr bf du k).2 ||| bf k) else pf_wr bf du k
def pf_un (en : Nat → Int32) (se : Int32) : Nat → Int32
  | 0 => 0
  | k + 1 => if px_in se (nI k) then pf_un en se k ||| en k else pf_un en se k
/-- the first order from k on, of j, that rules over the part p when the steps si are active; -1 if none -/
def pf_rul (pt gv : Nat → Int32) (p si : Int32) : Nat → Nat → Int32
  | 0, _ => -1
  | j + 1, k => if pt k = p ∧ px_in si (gv k) then nI k else pf_rul pt gv p si j (k + 1)
def pf_fo (fx fr : Int32) : Int32 := if fx = -1 then fr else fx
def pf_fix (gv fx : Nat → Int32) (se : Int32) : Nat → Int32
  | 0 => 0
  | k + 1 => if px_in se (gv k) then pf_fix gv fx se k ||| pf_fo (fx k) 0 else pf_fix gv fx se k
/-- the time of a step in a scan: what it was at the begin, while it is in ti -/
def pf_tm (ti : Int32) (tb : Nat → Int32) (a : Int32) : Int32 := if px_in ti a then tb a.toNatClampNeg else 0
def pf_ho (kd a b : Int32) (inp ri fa si ti : Int32) (tb : Nat → Int32) (tr : Int32) : Bool :=
  if kd = 0 then decide (px_in inp a) else if kd = 1 then decide (px_in ri a) else if kd = 2 then decide (px_in fa a) else if kd = 3 then decide (px_in si a) else if kd = 4 then decide (px_in si a ∧ b ≤ pf_tm ti tb a) else if kd = 5 then decide (¬ px_in tr a) else if kd = 6 then decide (px_in tr a ∧ px_in tr b) else decide (px_in tr a ∨ px_in tr b)
/-- the true expressions below k -/
def pf_tr (kd ea eb : Nat → Int32) (inp ri fa si ti : Int32) (tb : Nat → Int32) : Nat → Int32
  | 0 => 0
  | k + 1 => if pf_ho (kd k) (ea k) (eb k) inp ri fa si ti tb (pf_tr kd ea eb inp ri fa si ti tb k) = true then pf_tr kd ea eb inp ri fa si ti tb k ||| px_b k else pf_tr kd ea eb inp ri fa si ti tb k
/-! a chart in rows: 1 kinds, 2 firsts, 3 seconds, 4 befores, 5 afters, 6 conditions, 7 givers, 8 parts, 9 fixed sets, 10 steps of a part, 11 transitions of a part -/
abbrev pf_C : Type := Nat → Nat → Int32
/-- one part of an evolution: (next, cleared) -/
def pf_one (c : pf_C) (nT nO : Nat) (sg si du : Int32) (p : Nat) (a : Int32 × Int32) : Int32 × Int32 :=
  if pf_rul (c 8) (c 7) (nI p) a.1 nO 0 = -1 then
    (a.1 ||| ((si &&& c 10 p) &&& (pf_un (c 4) (if sg = 0 then (pf_wr (c 4) (du &&& c 11 p) nT).1 else du &&& c 11 p) nT ^^^ (-1)) ||| pf_un (c 5) (if sg = 0 then (pf_wr (c 4) (du &&& c 11 p) nT).1 else du &&& c 11 p) nT),
     a.2 ||| (if sg = 0 then (pf_wr (c 4) (du &&& c 11 p) nT).1 else du &&& c 11 p))
  else (a.1 ||| pf_fo (c 9 (pf_rul (c 8) (c 7) (nI p) a.1 nO 0).toNatClampNeg) (si &&& c 10 p), a.2)
def pf_dd (c : pf_C) (nE nT : Nat) (inp ri fa si ti : Int32) (tb : Nat → Int32) : Int32 :=
  pf_due (c 6) (pf_tr (c 1) (c 2) (c 3) inp ri fa si ti tb nE) (pf_en (c 4) si nT) nT
/-- an evolution: (next, cleared) -/
def pf_ev (c : pf_C) (nE nT nO : Nat) (sg inp ri fa si ti : Int32) (tb : Nat → Int32) : Int32 × Int32 :=
  pf_one c nT nO sg si (pf_dd c nE nT inp ri fa si ti tb) 2 (pf_one c nT nO sg si (pf_dd c nE nT inp ri fa si ti tb) 1 (pf_one c nT nO sg si (pf_dd c nE nT inp ri fa si ti tb) 0 (0, 0)))
end
