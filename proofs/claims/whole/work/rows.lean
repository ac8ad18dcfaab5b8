section
/-! A small abstract machine over the kit's rows. A world is a layout (which cells there are, how they point at each other) and a
state S : Nat → Nat → Int32 (cell, place ↦ int). A value is an int or the number of a cell. The judgement fx_W says of an abstract
frame what W says of every frame that it pictures. A row of a table gives an instruction's meaning as a transformer of judgements
(fm_..), and its soundness (fs_..) is proved once; a method's walk is then an evaluation (fx_go). -/
abbrev fx_V : Type := Int32 ⊕ Nat
abbrev fx_S : Type := Nat → Nat → Int32
abbrev fx_L : Type := List ((Nat × Nat) ⊕ (Nat × List (Option Nat)))
def fx_v (q : Nat → Nat) : fx_V → Value
  | .inl x => .int x
  | .inr k => .ref (q k)
def fx_f (q : Nat → Nat) (r : Nat → Int32) (j : Nat) : Option Nat → Value
  | none => .int (r j)
  | some d => .ref (q d)
def fx_e (cA : Nat → ClassId) (q : Nat → Nat) (r : Nat → Int32) : (Nat × Nat) ⊕ (Nat × List (Option Nat)) → va_E
  | .inl (t, n) => .inl (cA t, n, .inl r)
  | .inr (ci, fs) => .inr (ci, fs.mapIdx (fx_f q r))
def fx_w (cA : Nat → ClassId) (q : Nat → Nat) (ly : fx_L) (S : fx_S) : va_W := ly.mapIdx (fun k c => (q k, fx_e cA q (S k) c))
def fx_A (q : Nat → Nat) (n : Nat) : Nat → Prop := fun a => ∃ k, k < n ∧ a = q k
def fx_ty (cA : Nat → ClassId) : List (ClassId × FieldType) := [(cA 0, .int), (cA 1, .boolean)]
/-- one place of the state -/
def fx_up (S : fx_S) (k i : Nat) (x : Int32) : fx_S := fun a j => if a = k then (if j = i then x else S a j) else S a j
theorem fx_up_row (S : fx_S) (k i : Nat) (x : Int32) : fx_up S k i x k = upd (S k) i x := by
  funext j; simp [fx_up, upd]
theorem fx_up_ne (S : fx_S) {k a : Nat} (i : Nat) (x : Int32) (h : a ≠ k) : fx_up S k i x a = S a := by
  funext j; simp [fx_up, h]
theorem fx_cat (q : Nat → Nat) (v : fx_V) : (fx_v q v).category = 1 := by cases v <;> rfl
section FXW
variable {cA : Nat → ClassId} {q : Nat → Nat} {ly : fx_L} {S S' : fx_S}
theorem fx_w_at {k : Nat} {c : (Nat × Nat) ⊕ (Nat × List (Option Nat))} (h : ly[k]? = some c) : (fx_w cA q ly S)[k]? = some (q k, fx_e cA q (S k) c) := by
  simp [fx_w, List.getElem?_mapIdx, h]
theorem fx_w_of {k : Nat} {x : Nat × va_E} (h : (fx_w cA q ly S)[k]? = some x) : k < ly.length ∧ x.1 = q k := by
  rw [fx_w, List.getElem?_mapIdx] at h
  cases hc : ly[k]? with
  | none => rw [hc] at h; cases h
  | some c =>
    rw [hc] at h
    cases h
    exact ⟨(List.getElem?_eq_some_iff.mp hc).1, rfl⟩
theorem fx_w_set {k : Nat} {c : (Nat × Nat) ⊕ (Nat × List (Option Nat))} (h : ly[k]? = some c) (ho : ∀ j, j ≠ k → S' j = S j) : (fx_w cA q ly S).set k (q k, fx_e cA q (S' k) c) = fx_w cA q ly S' := by
  have hl : k < (fx_w cA q ly S).length := (List.getElem?_eq_some_iff.mp (fx_w_at (cA := cA) (q := q) (S := S) h)).1
  apply List.ext_getElem?
  intro j
  by_cases hj : j = k
  · subst hj
    rw [List.getElem?_set_self hl, fx_w_at h]
  · rw [List.getElem?_set_ne (Ne.symm hj)]
    simp [fx_w, List.getElem?_mapIdx, ho j hj]
theorem fx_D {A : Nat → Prop} (hq : ∀ i j, i < ly.length → j < ly.length → q i = q j → i = j) (hA : ∀ k, k < ly.length → A (q k)) : va_D A (fx_w cA q ly S) := by
  refine ⟨fun i j x y hi hj hxy => ?_, fun k x hk => ?_⟩
  · obtain ⟨l1, e1⟩ := fx_w_of hi
    obtain ⟨l2, e2⟩ := fx_w_of hj
    exact hq i j l1 l2 (by rw [← e1, ← e2]; exact hxy)
  · obtain ⟨l1, e1⟩ := fx_w_of hk
    rw [e1]; exact hA k l1
end FXW
/-! locals -/
def fx_ls (q : Nat → Nat) (ls : List fx_V) : List (Nat × Value) := ls.mapIdx (fun i v => (i, fx_v q v))
def fx_nth : List fx_V → Nat → Option fx_V
  | [], _ => none
  | a :: _, 0 => some a
  | _ :: l, n + 1 => fx_nth l n
def fx_set : List fx_V → Nat → fx_V → List fx_V
  | [], 0, v => [v]
  | [], _ + 1, _ => []
  | _ :: l, 0, v => v :: l
  | a :: l, n + 1, v => a :: fx_set l n v
theorem fx_nth_eq : ∀ (l : List fx_V) (i : Nat), fx_nth l i = l[i]?
  | [], i => by simp [fx_nth]
  | a :: l, 0 => by simp [fx_nth]
  | a :: l, n + 1 => by simp [fx_nth, fx_nth_eq l n]
theorem fx_set_at : ∀ (l : List fx_V) (i : Nat) (v : fx_V) (j : Nat) (w : fx_V), (fx_set l i v)[j]? = some w → (j = i ∧ w = v) ∨ (j ≠ i ∧ l[j]? = some w)
  | [], 0, v, 0, w, h => by simp [fx_set] at h; exact Or.inl ⟨rfl, h.symm⟩
  | [], 0, v, j + 1, w, h => by simp [fx_set] at h
  | [], i + 1, v, j, w, h => by simp [fx_set] at h
  | a :: l, 0, v, 0, w, h => by simp [fx_set] at h; exact Or.inl ⟨rfl, h.symm⟩
  | a :: l, 0, v, j + 1, w, h => by simp [fx_set] at h; exact Or.inr ⟨by omega, by simpa using h⟩
  | a :: l, i + 1, v, 0, w, h => by simp [fx_set] at h; exact Or.inr ⟨by omega, by simpa using h⟩
  | a :: l, i + 1, v, j + 1, w, h => by
    simp only [fx_set, List.getElem?_cons_succ] at h
    rcases fx_set_at l i v j w h with ⟨h1, h2⟩ | ⟨h1, h2⟩
    · exact Or.inl ⟨by omega, h2⟩
    · exact Or.inr ⟨by omega, by simpa using h2⟩
theorem fx_ls_mem {q : Nat → Nat} {ls : List fx_V} {x : Nat × Value} : x ∈ fx_ls q ls ↔ ∃ (i : Nat) (v : fx_V), ls[i]? = some v ∧ x = (i, fx_v q v) := by
  constructor
  · intro h
    obtain ⟨i, hi⟩ := List.getElem?_of_mem h
    rw [fx_ls, List.getElem?_mapIdx] at hi
    cases hc : ls[i]? with
    | none => rw [hc] at hi; cases hi
    | some v => rw [hc] at hi; cases hi; exact ⟨i, v, hc, rfl⟩
  · rintro ⟨i, v, h, rfl⟩
    refine List.mem_of_getElem? (i := i) ?_
    rw [fx_ls, List.getElem?_mapIdx, h]; rfl
theorem fx_has_mono {LS : Array Slot} {n : Nat} {l l' : List (Nat × Value)} (h : lv_has LS n l) (hs : ∀ x ∈ l', x ∈ l) : lv_has LS n l' := ⟨h.1, h.2.1, fun x hx => h.2.2 x (hs x hx)⟩
theorem fx_has_set {q : Nat → Nat} {LS : Array Slot} {n i : Nat} {ls : List fx_V} {v : fx_V} (h : lv_has LS n ((i, fx_v q v) :: (fx_ls q ls).filter (fun x => !(x.1 == i) && !(x.1 + 1 == i && x.2.category == 2)))) : lv_has LS n (fx_ls q (fx_set ls i v)) := by
  refine fx_has_mono h (fun x hx => ?_)
  obtain ⟨j, w, hj, rfl⟩ := fx_ls_mem.mp hx
  rcases fx_set_at ls i v j w hj with ⟨rfl, rfl⟩ | ⟨h1, h2⟩
  · exact List.mem_cons_self
  · refine List.mem_cons_of_mem _ (List.mem_filter.mpr ⟨fx_ls_mem.mpr ⟨j, w, h2, rfl⟩, ?_⟩)
    simp [h1, fx_cat]
theorem fx_has_take {q : Nat → Nat} {LS : Array Slot} {n k : Nat} {ls : List fx_V} (h : lv_has LS n (fx_ls q ls)) : lv_has LS n (fx_ls q (ls.take k)) := by
  refine fx_has_mono h (fun x hx => ?_)
  obtain ⟨j, w, hj, rfl⟩ := fx_ls_mem.mp hx
  rw [List.getElem?_take] at hj
  by_cases hk : j < k
  · rw [if_pos hk] at hj; exact fx_ls_mem.mpr ⟨j, w, hj, rfl⟩
  · rw [if_neg hk] at hj; cases hj
theorem fx_has_at {q : Nat → Nat} {LS : Array Slot} {n i : Nat} {ls : List fx_V} {v : fx_V} (h : lv_has LS n (fx_ls q ls)) (hi : fx_nth ls i = some v) : LS[i]? = some (.val (fx_v q v)) :=
  h.2.2 (i, fx_v q v) (fx_ls_mem.mpr ⟨i, v, by rw [← fx_nth_eq]; exact hi, rfl⟩)
theorem fx_args_mem {q : Nat → Nat} : ∀ (av : List fx_V) (o i : Nat) (v : fx_V), av[i]? = some v → (o + i, fx_v q v) ∈ lv_args o (av.map (fx_v q))
  | [], o, i, v, h => by simp at h
  | a :: av, o, 0, v, h => by
    simp at h; subst h
    simp [lv_args]
  | a :: av, o, i + 1, v, h => by
    simp only [List.getElem?_cons_succ] at h
    simp only [List.map_cons, lv_args, fx_cat]
    refine List.mem_cons_of_mem _ ?_
    have := fx_args_mem (q := q) av (o + 1) i v h
    rw [show o + (i + 1) = o + 1 + i by omega]
    simpa using this
theorem fx_sl_len {q : Nat → Nat} : ∀ av : List fx_V, (lg_sl (av.map (fx_v q))).length = av.length
  | [] => rfl
  | a :: av => by
    have := fx_sl_len (q := q) av
    simp only [lg_sl, List.map_cons, List.flatMap_cons, fx_cat] at this ⊢
    simp [this]
theorem fx_cats {q : Nat → Nat} : ∀ st : List fx_V, ((st.map (fx_v q)).map fun v => v.category).sum = st.length
  | [] => rfl
  | a :: st => by
    have := fx_cats (q := q) st
    simp only [List.map_cons, List.sum_cons, fx_cat, List.length_cons] at this ⊢
    omega
/-! the judgement, meanings, evaluation -/
def fx_W (p : Program) (l : Launch) (e : Env) (R : Room) (s : State) (m : MethodId) (args : Array Value) (below : List Frame) (meth : Method) (c : Code) (Q : State → Prop) (A : Nat → Prop) (cs sl : Nat) {σ : Type} (WP : σ → Heap → Prop) (q : Nat → Nat) (nL : Nat) (pc : Nat) (ls st : List fx_V) (S : σ) : Prop :=
  ∀ (LS : Array Slot) (H : Heap) (locs : List Loc), lv_has LS nL (fx_ls q ls) → WP S H → va_S A s.heap H locs → W p l e R s m args below meth c H locs cs sl Q (F0 m pc LS (st.map (fx_v q)))
abbrev fx_J (σ : Type) : Type := Nat → List fx_V → List fx_V → σ → Prop
abbrev fx_M (σ : Type) : Type := fx_J σ → List fx_V → List fx_V → σ → Prop
def fx_Snd {σ : Type} (J : fx_J σ) (pc : Nat) (f : fx_M σ) : Prop := ∀ (k : fx_J σ) (ls st : List fx_V) (S : σ), (∀ pc' ls' st' S', k pc' ls' st' S' → J pc' ls' st' S') → f k ls st S → J pc ls st S
def fx_lk {α : Type} : List (Nat × α) → Nat → Option α
  | [], _ => none
  | (a, x) :: l, k => bif Nat.beq a k then some x else fx_lk l k
theorem fx_lk_mem {α : Type} : ∀ (l : List (Nat × α)) (k : Nat) (x : α), fx_lk l k = some x → (k, x) ∈ l
  | [], k, x, h => by simp [fx_lk] at h
  | (a, y) :: l, k, x, h => by
    simp only [fx_lk] at h
    cases hb : Nat.beq a k with
    | true =>
      rw [hb] at h
      simp only [cond_true] at h
      cases h
      rw [Nat.eq_of_beq_eq_true hb]
      exact List.mem_cons_self
    | false =>
      rw [hb] at h
      exact List.mem_cons_of_mem _ (fx_lk_mem l k x h)
def fx_run {σ : Type} (J : fx_J σ) (T : List (Nat × fx_M σ)) (stop : List (Nat × Nat)) : Nat → Nat → List fx_V → List fx_V → σ → Prop
  | 0, pc, ls, st, S => J pc ls st S
  | n + 1, pc, ls, st, S => match fx_lk stop pc with
    | some k => J pc (ls.take k) st S
    | none => match fx_lk T pc with
      | none => J pc ls st S
      | some f => f (fx_run J T stop n) ls st S
def fx_go {σ : Type} (J : fx_J σ) (T : List (Nat × fx_M σ)) (stop : List (Nat × Nat)) (n pc : Nat) (ls st : List fx_V) (S : σ) : Prop := match fx_lk T pc with
  | none => J pc ls st S
  | some f => f (fx_run J T stop n) ls st S
theorem fx_run_ok {σ : Type} {J : fx_J σ} {T : List (Nat × fx_M σ)} {stop : List (Nat × Nat)} (hT : ∀ r ∈ T, fx_Snd J r.1 r.2) (ht : ∀ pc k ls st S, J pc (ls.take k) st S → J pc ls st S) : ∀ (n pc : Nat) (ls st : List fx_V) (S : σ), fx_run J T stop n pc ls st S → J pc ls st S
  | 0, pc, ls, st, S, h => h
  | n + 1, pc, ls, st, S, h => by
    unfold fx_run at h
    cases hs : fx_lk stop pc with
    | some k => rw [hs] at h; exact ht _ _ _ _ _ h
    | none =>
      rw [hs] at h
      cases hf : fx_lk T pc with
      | none => rw [hf] at h; exact h
      | some f =>
        rw [hf] at h
        exact hT _ (fx_lk_mem T pc f hf) _ ls st S (fx_run_ok hT ht n) h
theorem fx_go_ok {σ : Type} {J : fx_J σ} {T : List (Nat × fx_M σ)} (stop : List (Nat × Nat)) (n : Nat) {pc : Nat} {ls st : List fx_V} {S : σ} (hT : ∀ r ∈ T, fx_Snd J r.1 r.2) (ht : ∀ pc k ls st S, J pc (ls.take k) st S → J pc ls st S) (h : fx_go J T stop n pc ls st S) : J pc ls st S := by
  unfold fx_go at h
  cases hf : fx_lk T pc with
  | none => rw [hf] at h; exact h
  | some f =>
    rw [hf] at h
    exact hT _ (fx_lk_mem T pc f hf) _ ls st S (fx_run_ok hT ht n) h
theorem fx_W_take {p : Program} {l : Launch} {e : Env} {R : Room} {s : State} {m : MethodId} {args : Array Value} {below : List Frame} {meth : Method} {c : Code} {Q : State → Prop} {A : Nat → Prop} {cs sl : Nat} {σ : Type} {WP : σ → Heap → Prop} {q : Nat → Nat} {nL : Nat} : ∀ (pc k : Nat) (ls st : List fx_V) (S : σ), fx_W p l e R s m args below meth c Q A cs sl WP q nL pc (ls.take k) st S → fx_W p l e R s m args below meth c Q A cs sl WP q nL pc ls st S :=
  fun _ _ _ _ _ h LS H locs hl hP hS => h LS H locs (fx_has_take hl) hP hS
/-! popping -/
def fx_pi (st : List fx_V) (k : Int32 → List fx_V → Prop) : Prop := match st with
  | .inl x :: r => k x r
  | _ => False
def fx_pr (st : List fx_V) (k : Nat → List fx_V → Prop) : Prop := match st with
  | .inr a :: r => k a r
  | _ => False
def fx_pv (st : List fx_V) (k : fx_V → List fx_V → Prop) : Prop := match st with
  | a :: r => k a r
  | [] => False
def fx_pn : Nat → List fx_V → List fx_V → (List fx_V → List fx_V → Prop) → Prop
  | 0, acc, st, k => k acc st
  | _ + 1, _, [], _ => False
  | n + 1, acc, a :: st, k => fx_pn n (a :: acc) st k
theorem fx_pi_e {st : List fx_V} {k : Int32 → List fx_V → Prop} (h : fx_pi st k) : ∃ x r, st = .inl x :: r ∧ k x r := by
  match st, h with
  | .inl x :: r, h => exact ⟨x, r, rfl, h⟩
theorem fx_pr_e {st : List fx_V} {k : Nat → List fx_V → Prop} (h : fx_pr st k) : ∃ x r, st = .inr x :: r ∧ k x r := by
  match st, h with
  | .inr x :: r, h => exact ⟨x, r, rfl, h⟩
theorem fx_pv_e {st : List fx_V} {k : fx_V → List fx_V → Prop} (h : fx_pv st k) : ∃ x r, st = x :: r ∧ k x r := by
  match st, h with
  | x :: r, h => exact ⟨x, r, rfl, h⟩
theorem fx_pn_e : ∀ (n : Nat) (acc st : List fx_V) (k : List fx_V → List fx_V → Prop), fx_pn n acc st k → ∃ as r, as.length = n ∧ st = as.reverse ++ r ∧ k (as ++ acc) r
  | 0, acc, st, k, h => ⟨[], st, rfl, rfl, h⟩
  | n + 1, acc, [], k, h => h.elim
  | n + 1, acc, a :: st, k, h => by
    obtain ⟨as, r, h1, h2, h3⟩ := fx_pn_e n (a :: acc) st k h
    refine ⟨as ++ [a], r, by simp [h1], by simp [h2], by simpa using h3⟩
/-! meanings of the instructions -/
def fm_const {σ : Type} (v : Int32) (nx : Nat) : fx_M σ := fun k ls st S => k nx ls (.inl v :: st) S
def fm_load {σ : Type} (i nx : Nat) : fx_M σ := fun k ls st S => match fx_nth ls i with
  | some (.inl x) => k nx ls (.inl x :: st) S
  | _ => False
def fm_loada {σ : Type} (i nx : Nat) : fx_M σ := fun k ls st S => match fx_nth ls i with
  | some (.inr x) => k nx ls (.inr x :: st) S
  | _ => False
def fm_store {σ : Type} (i nx : Nat) : fx_M σ := fun k ls st S => fx_pi st fun x st => k nx (fx_set ls i (.inl x)) st S
def fm_storea {σ : Type} (i nx : Nat) : fx_M σ := fun k ls st S => fx_pr st fun x st => k nx (fx_set ls i (.inr x)) st S
def fm_inc {σ : Type} (i : Nat) (d : Int32) (nx : Nat) : fx_M σ := fun k ls st S => match fx_nth ls i with
  | some (.inl x) => k nx (fx_set ls i (.inl (x + d))) st S
  | _ => False
def fm_dup {σ : Type} (nx : Nat) : fx_M σ := fun k ls st S => fx_pv st fun a st => k nx ls (a :: a :: st) S
def fm_pop {σ : Type} (nx : Nat) : fx_M σ := fun k ls st S => fx_pv st fun _ st => k nx ls st S
def fm_dupx1 {σ : Type} (nx : Nat) : fx_M σ := fun k ls st S => fx_pv st fun a st => fx_pv st fun b st => k nx ls (a :: b :: a :: st) S
def fm_dupx2 {σ : Type} (nx : Nat) : fx_M σ := fun k ls st S => fx_pv st fun a st => fx_pv st fun b st => fx_pv st fun d st => k nx ls (a :: b :: d :: a :: st) S
def fm_dup2 {σ : Type} (nx : Nat) : fx_M σ := fun k ls st S => fx_pv st fun a st => fx_pv st fun b st => k nx ls (a :: b :: a :: b :: st) S
def fm_goto {σ : Type} (tg : Nat) : fx_M σ := fun k ls st S => k tg ls st S
def fm_get (c j nx : Nat) : fx_M fx_S := fun k ls st S => fx_pr st fun a st => bif Nat.beq a c then k nx ls (.inl (S c j) :: st) S else False
def fm_getr (c d nx : Nat) : fx_M fx_S := fun k ls st S => fx_pr st fun a st => bif Nat.beq a c then k nx ls (.inr d :: st) S else False
def fm_put (c j nx : Nat) : fx_M fx_S := fun k ls st S => fx_pi st fun x st => fx_pr st fun a st => bif Nat.beq a c then k nx ls st (fx_up S c j x) else False
def fm_putz (c j nx : Nat) : fx_M fx_S := fun k ls st S => fx_pi st fun x st => fx_pr st fun a st => bif Nat.beq a c then (x = 0 ∨ x = 1) ∧ k nx ls st (fx_up S c j x) else False
/-- a load: t the kind of the array, ln its length by the layout -/
def fm_ald (ln : List (Nat × Nat)) (nx : Nat) : fx_M fx_S := fun k ls st S => fx_pi st fun i st => fx_pr st fun a st => match fx_lk ln a with
  | some n => vp_in i n ∧ k nx ls (.inl (S a i.toNatClampNeg) :: st) S
  | none => False
def fm_ast (ln : List (Nat × Nat)) (nx : Nat) : fx_M fx_S := fun k ls st S => fx_pi st fun x st => fx_pi st fun i st => fx_pr st fun a st => match fx_lk ln a with
  | some n => vp_in i n ∧ k nx ls st (fx_up S a i.toNatClampNeg x)
  | none => False
def fm_zast (ln : List (Nat × Nat)) (nx : Nat) : fx_M fx_S := fun k ls st S => fx_pi st fun x st => fx_pi st fun i st => fx_pr st fun a st => match fx_lk ln a with
  | some n => (x = 0 ∨ x = 1) ∧ vp_in i n ∧ k nx ls st (fx_up S a i.toNatClampNeg x)
  | none => False
def fm_call (z : Bool) (c n : Nat) (CM : List fx_V → fx_S → (Int32 → fx_S → Prop) → Prop) (nx : Nat) : fx_M fx_S := fun k ls st S => fx_pn n [] st fun as st => fx_pr st fun a st => bif Nat.beq a c && Nat.ble st.length 8 then ∃ post, CM (.inr c :: as) S post ∧ ∀ r S', post r S' → k nx ls (bif z then .inl r :: st else st) S' else False
def fm_calls (z : Bool) (n : Nat) (CM : List fx_V → fx_S → (Int32 → fx_S → Prop) → Prop) (nx : Nat) : fx_M fx_S := fun k ls st S => fx_pn n [] st fun as st => bif Nat.ble st.length 8 then ∃ post, CM as S post ∧ ∀ r S', post r S' → k nx ls (bif z then .inl r :: st else st) S' else False
def fm_ret (post : Int32 → fx_S → Prop) : fx_M fx_S := fun _ _ st S => fx_pi st fun x st => match st with
  | [] => post x S
  | _ :: _ => False
def fm_zret (post : Int32 → fx_S → Prop) : fx_M fx_S := fun _ _ st S => fx_pi st fun x st => match st with
  | [] => (x = 0 ∨ x = 1) ∧ post x S
  | _ :: _ => False
def fm_vret (post : Int32 → fx_S → Prop) : fx_M fx_S := fun _ _ st S => match st with
  | [] => post 0 S
  | _ :: _ => False
def fx_sw (x : Int32) : List (Int32 × Nat) → Nat → (Nat → Prop) → Prop
  | [], d, k => k d
  | (a, t) :: cs, d, k => (x = a → k t) ∧ (¬ x = a → fx_sw x cs d k)
def fx_tg (x : Int32) : List (Int32 × Nat) → Nat → Nat
  | [], d => d
  | (a, t) :: cs, d => if x = a then t else fx_tg x cs d
def fm_sw {σ : Type} (cs : List (Int32 × Nat)) (d : Nat) : fx_M σ := fun k ls st S => fx_pi st fun x st => fx_sw x cs d (fun pc => k pc ls st S)
theorem fx_sw_tg {x : Int32} : ∀ (cs : List (Int32 × Nat)) (d : Nat) (k : Nat → Prop), fx_sw x cs d k → k (fx_tg x cs d)
  | [], d, k, h => h
  | (a, t) :: cs, d, k, h => by
    unfold fx_tg
    by_cases hx : x = a
    · rw [if_pos hx]; exact h.1 hx
    · rw [if_neg hx]; exact fx_sw_tg cs d k (h.2 hx)
theorem fx_tg_out {x : Int32} : ∀ (cs : List (Int32 × Nat)) (d : Nat), (∀ c ∈ cs, ¬ x = c.1) → fx_tg x cs d = d
  | [], d, h => rfl
  | (a, t) :: cs, d, h => by
    unfold fx_tg
    rw [if_neg (h _ List.mem_cons_self)]
    exact fx_tg_out cs d (fun c hc => h c (List.mem_cons_of_mem _ hc))
def fx_max (x y : Int32) : Int32 := if x < y then y else x
end
section
def fm_iadd {σ : Type} (nx : Nat) : fx_M σ := fun k ls st S => fx_pi st fun y st => fx_pi st fun x st => k nx ls (.inl (x + y) :: st) S
def fm_isub {σ : Type} (nx : Nat) : fx_M σ := fun k ls st S => fx_pi st fun y st => fx_pi st fun x st => k nx ls (.inl (x - y) :: st) S
def fm_imul {σ : Type} (nx : Nat) : fx_M σ := fun k ls st S => fx_pi st fun y st => fx_pi st fun x st => k nx ls (.inl (x * y) :: st) S
def fm_iand {σ : Type} (nx : Nat) : fx_M σ := fun k ls st S => fx_pi st fun y st => fx_pi st fun x st => k nx ls (.inl (x &&& y) :: st) S
def fm_ior {σ : Type} (nx : Nat) : fx_M σ := fun k ls st S => fx_pi st fun y st => fx_pi st fun x st => k nx ls (.inl (x ||| y) :: st) S
def fm_ixor {σ : Type} (nx : Nat) : fx_M σ := fun k ls st S => fx_pi st fun y st => fx_pi st fun x st => k nx ls (.inl (x ^^^ y) :: st) S
def fm_ishl {σ : Type} (nx : Nat) : fx_M σ := fun k ls st S => fx_pi st fun y st => fx_pi st fun x st => k nx ls (.inl (x <<< (y &&& 31)) :: st) S
def fm_ishr {σ : Type} (nx : Nat) : fx_M σ := fun k ls st S => fx_pi st fun y st => fx_pi st fun x st => k nx ls (.inl (x >>> (y &&& 31)) :: st) S
def fm_ifeq {σ : Type} (tg nx : Nat) : fx_M σ := fun k ls st S => fx_pi st fun x st => (x = 0 → k tg ls st S) ∧ (¬ x = 0 → k nx ls st S)
def fm_ifne {σ : Type} (tg nx : Nat) : fx_M σ := fun k ls st S => fx_pi st fun x st => (¬ x = 0 → k tg ls st S) ∧ (x = 0 → k nx ls st S)
def fm_iflt {σ : Type} (tg nx : Nat) : fx_M σ := fun k ls st S => fx_pi st fun x st => (x < 0 → k tg ls st S) ∧ (¬ x < 0 → k nx ls st S)
def fm_ifge {σ : Type} (tg nx : Nat) : fx_M σ := fun k ls st S => fx_pi st fun x st => (0 ≤ x → k tg ls st S) ∧ (¬ 0 ≤ x → k nx ls st S)
def fm_ifgt {σ : Type} (tg nx : Nat) : fx_M σ := fun k ls st S => fx_pi st fun x st => (0 < x → k tg ls st S) ∧ (¬ 0 < x → k nx ls st S)
def fm_ifle {σ : Type} (tg nx : Nat) : fx_M σ := fun k ls st S => fx_pi st fun x st => (x ≤ 0 → k tg ls st S) ∧ (¬ x ≤ 0 → k nx ls st S)
def fm_cmpeq {σ : Type} (tg nx : Nat) : fx_M σ := fun k ls st S => fx_pi st fun y st => fx_pi st fun x st => (x = y → k tg ls st S) ∧ (¬ x = y → k nx ls st S)
def fm_cmpne {σ : Type} (tg nx : Nat) : fx_M σ := fun k ls st S => fx_pi st fun y st => fx_pi st fun x st => (¬ x = y → k tg ls st S) ∧ (x = y → k nx ls st S)
def fm_cmplt {σ : Type} (tg nx : Nat) : fx_M σ := fun k ls st S => fx_pi st fun y st => fx_pi st fun x st => (x < y → k tg ls st S) ∧ (¬ x < y → k nx ls st S)
def fm_cmpge {σ : Type} (tg nx : Nat) : fx_M σ := fun k ls st S => fx_pi st fun y st => fx_pi st fun x st => (y ≤ x → k tg ls st S) ∧ (¬ y ≤ x → k nx ls st S)
def fm_cmpgt {σ : Type} (tg nx : Nat) : fx_M σ := fun k ls st S => fx_pi st fun y st => fx_pi st fun x st => (y < x → k tg ls st S) ∧ (¬ y < x → k nx ls st S)
def fm_cmple {σ : Type} (tg nx : Nat) : fx_M σ := fun k ls st S => fx_pi st fun y st => fx_pi st fun x st => (x ≤ y → k tg ls st S) ∧ (¬ x ≤ y → k nx ls st S)
section FXS
variable {p : Program} {l : Launch} {e : Env} {R : Room} {s : State} {m : MethodId} {args : Array Value} {below : List Frame} {meth : Method} {c : Code} {Q : State → Prop} {A : Nat → Prop} {cs sl : Nat} {σ : Type} {WP : σ → Heap → Prop} {q : Nat → Nat} {nL : Nat} {cc : ByteArray} {Ts : List Cond} {own : String} {pc : Nat}
theorem fs_const (h : CallFix p m c cc nL s args Ts own) {n : Int} {v : Int32} (hd : decode cc pc = .ok (.iconst n, 1)) (hv : Int32.ofInt n = v) : fx_Snd (fx_W p l e R s m args below meth c Q A cs sl WP q nL) pc (fm_const v (pc + 1)) :=
  fun _ _ _ _ hk hf LS H locs hl hP hS => lv_iconst h.1 h.2.1 hd hv (hk _ _ _ _ hf LS H locs hl hP hS)
theorem fs_bipush (h : CallFix p m c cc nL s args Ts own) {n : Int} {v : Int32} (hd : decode cc pc = .ok (.bipush n, 2)) (hv : (Int8.ofInt n).toInt32 = v) : fx_Snd (fx_W p l e R s m args below meth c Q A cs sl WP q nL) pc (fm_const v (pc + 2)) :=
  fun _ _ _ _ hk hf LS H locs hl hP hS => lv_bipush h.1 h.2.1 hd hv (hk _ _ _ _ hf LS H locs hl hP hS)
theorem fs_sipush (h : CallFix p m c cc nL s args Ts own) {n : Int} {v : Int32} (hd : decode cc pc = .ok (.sipush n, 3)) (hv : (Int16.ofInt n).toInt32 = v) : fx_Snd (fx_W p l e R s m args below meth c Q A cs sl WP q nL) pc (fm_const v (pc + 3)) :=
  fun _ _ _ _ hk hf LS H locs hl hP hS => lv_sipush h.1 h.2.1 hd hv (hk _ _ _ _ hf LS H locs hl hP hS)
theorem fs_ldc (h : CallFix p m c cc nL s args Ts own) {index : Nat} {v : Int32} (hw : (Jvm.Cond.constant own index v).before args s = true) (hd : decode cc pc = .ok (.ldc index, 2)) : fx_Snd (fx_W p l e R s m args below meth c Q A cs sl WP q nL) pc (fm_const v (pc + 2)) :=
  fun _ _ _ _ hk hf LS H locs hl hP hS => lv_ldc h.1 h.2.1 h.2.2.2.1 hw hd (hk _ _ _ _ hf LS H locs hl hP hS)
theorem fs_load_n (h : CallFix p m c cc nL s args Ts own) {kk : Fin 4} {i : Nat} (hd : decode cc pc = .ok (.iload_n kk, 1)) (hi : (kk : Nat) = i) : fx_Snd (fx_W p l e R s m args below meth c Q A cs sl WP q nL) pc (fm_load i (pc + 1)) := by
  intro k ls st S hk hf LS H locs hl hP hS
  unfold fm_load at hf
  cases hn : fx_nth ls i with
  | none => rw [hn] at hf; exact hf.elim
  | some v =>
    cases v with
    | inr a => rw [hn] at hf; exact hf.elim
    | inl x =>
      rw [hn] at hf
      exact lv_iload_n h.1 h.2.1 hd hi (fx_has_at hl hn) (hk _ _ _ _ hf LS H locs hl hP hS)
theorem fs_load (h : CallFix p m c cc nL s args Ts own) {i : Nat} (hd : decode cc pc = .ok (.iload i, 2)) : fx_Snd (fx_W p l e R s m args below meth c Q A cs sl WP q nL) pc (fm_load i (pc + 2)) := by
  intro k ls st S hk hf LS H locs hl hP hS
  unfold fm_load at hf
  cases hn : fx_nth ls i with
  | none => rw [hn] at hf; exact hf.elim
  | some v =>
    cases v with
    | inr a => rw [hn] at hf; exact hf.elim
    | inl x =>
      rw [hn] at hf
      exact lv_iload h.1 h.2.1 hd (fx_has_at hl hn) (hk _ _ _ _ hf LS H locs hl hP hS)
theorem fs_loada_n (h : CallFix p m c cc nL s args Ts own) {kk : Fin 4} {i : Nat} (hd : decode cc pc = .ok (.aload_n kk, 1)) (hi : (kk : Nat) = i) : fx_Snd (fx_W p l e R s m args below meth c Q A cs sl WP q nL) pc (fm_loada i (pc + 1)) := by
  intro k ls st S hk hf LS H locs hl hP hS
  unfold fm_loada at hf
  cases hn : fx_nth ls i with
  | none => rw [hn] at hf; exact hf.elim
  | some v =>
    cases v with
    | inl a => rw [hn] at hf; exact hf.elim
    | inr x =>
      rw [hn] at hf
      exact lv_aload_n h.1 h.2.1 hd hi (fx_has_at hl hn) (hk _ _ _ _ hf LS H locs hl hP hS)
theorem fs_loada (h : CallFix p m c cc nL s args Ts own) {i : Nat} (hd : decode cc pc = .ok (.aload i, 2)) : fx_Snd (fx_W p l e R s m args below meth c Q A cs sl WP q nL) pc (fm_loada i (pc + 2)) := by
  intro k ls st S hk hf LS H locs hl hP hS
  unfold fm_loada at hf
  cases hn : fx_nth ls i with
  | none => rw [hn] at hf; exact hf.elim
  | some v =>
    cases v with
    | inl a => rw [hn] at hf; exact hf.elim
    | inr x =>
      rw [hn] at hf
      exact lv_aload h.1 h.2.1 hd (fx_has_at hl hn) (hk _ _ _ _ hf LS H locs hl hP hS)
theorem fs_store_n (h : CallFix p m c cc nL s args Ts own) {kk : Fin 4} {i : Nat} (hd : decode cc pc = .ok (.istore_n kk, 1)) (hi : (kk : Nat) = i) (hn : i < nL) : fx_Snd (fx_W p l e R s m args below meth c Q A cs sl WP q nL) pc (fm_store i (pc + 1)) := by
  intro k ls st S hk hf LS H locs hl hP hS
  obtain ⟨x, r, rfl, hf1⟩ := fx_pi_e hf
  exact lv_istore_n h.1 h.2.1 hd hi hl hn rfl (fun LS' hl' => hk _ _ _ _ hf1 LS' H locs (fx_has_set hl') hP hS)
theorem fs_store (h : CallFix p m c cc nL s args Ts own) {i : Nat} (hd : decode cc pc = .ok (.istore i, 2)) (hn : i < nL) : fx_Snd (fx_W p l e R s m args below meth c Q A cs sl WP q nL) pc (fm_store i (pc + 2)) := by
  intro k ls st S hk hf LS H locs hl hP hS
  obtain ⟨x, r, rfl, hf1⟩ := fx_pi_e hf
  exact lv_istore h.1 h.2.1 hd hl hn rfl (fun LS' hl' => hk _ _ _ _ hf1 LS' H locs (fx_has_set hl') hP hS)
theorem fs_storea_n (h : CallFix p m c cc nL s args Ts own) {kk : Fin 4} {i : Nat} (hd : decode cc pc = .ok (.astore_n kk, 1)) (hi : (kk : Nat) = i) (hn : i < nL) : fx_Snd (fx_W p l e R s m args below meth c Q A cs sl WP q nL) pc (fm_storea i (pc + 1)) := by
  intro k ls st S hk hf LS H locs hl hP hS
  obtain ⟨x, r, rfl, hf1⟩ := fx_pr_e hf
  exact lv_astore_n h.1 h.2.1 hd hi hl hn rfl (fun LS' hl' => hk _ _ _ _ hf1 LS' H locs (fx_has_set hl') hP hS)
theorem fs_storea (h : CallFix p m c cc nL s args Ts own) {i : Nat} (hd : decode cc pc = .ok (.astore i, 2)) (hn : i < nL) : fx_Snd (fx_W p l e R s m args below meth c Q A cs sl WP q nL) pc (fm_storea i (pc + 2)) := by
  intro k ls st S hk hf LS H locs hl hP hS
  obtain ⟨x, r, rfl, hf1⟩ := fx_pr_e hf
  exact lv_astore h.1 h.2.1 hd hl hn rfl (fun LS' hl' => hk _ _ _ _ hf1 LS' H locs (fx_has_set hl') hP hS)
theorem fs_inc (h : CallFix p m c cc nL s args Ts own) {i : Nat} {n : Int} {d : Int32} (hd : decode cc pc = .ok (.iinc i n, 3)) (hv : Int32.ofInt n = d) (hn : i < nL) : fx_Snd (fx_W p l e R s m args below meth c Q A cs sl WP q nL) pc (fm_inc i d (pc + 3)) := by
  intro k ls st S hk hf LS H locs hl hP hS
  unfold fm_inc at hf
  cases hx : fx_nth ls i with
  | none => rw [hx] at hf; exact hf.elim
  | some v =>
    cases v with
    | inr a => rw [hx] at hf; exact hf.elim
    | inl x =>
      rw [hx] at hf
      have hk0 : (fx_ls q ls)[i]? = some (i, .int x) := by
        rw [fx_ls, List.getElem?_mapIdx, ← fx_nth_eq, hx]; rfl
      exact lv_iinc h.1 h.2.1 hd hl hk0 (by rw [hv]) hn rfl (fun LS' hl' => hk _ _ _ _ hf LS' H locs (fx_has_set (v := .inl (x + d)) hl') hP hS)
theorem fs_goto (h : CallFix p m c cc nL s args Ts own) {off : Int} {tg : Nat} (hd : decode cc pc = .ok (.goto off, 3)) (ht : (pc : Int) + off = (tg : Int)) : fx_Snd (fx_W p l e R s m args below meth c Q A cs sl WP q nL) pc (fm_goto tg) :=
  fun _ _ _ _ hk hf LS H locs hl hP hS => lv_goto h.1 h.2.1 hd ht (hk _ _ _ _ hf LS H locs hl hP hS)
theorem fs_dup (h : CallFix p m c cc nL s args Ts own) (hd : decode cc pc = .ok (.dup, 1)) : fx_Snd (fx_W p l e R s m args below meth c Q A cs sl WP q nL) pc (fm_dup (pc + 1)) := by
  intro k ls st S hk hf LS H locs hl hP hS
  obtain ⟨x, r, rfl, hf1⟩ := fx_pv_e hf
  exact lv_dup h.1 h.2.1 hd (fx_cat q x) (hk _ _ _ _ hf1 LS H locs hl hP hS)
theorem fs_pop (h : CallFix p m c cc nL s args Ts own) (hd : decode cc pc = .ok (.pop, 1)) : fx_Snd (fx_W p l e R s m args below meth c Q A cs sl WP q nL) pc (fm_pop (pc + 1)) := by
  intro k ls st S hk hf LS H locs hl hP hS
  obtain ⟨x, r, rfl, hf1⟩ := fx_pv_e hf
  exact lv_pop h.1 h.2.1 hd (fx_cat q x) (hk _ _ _ _ hf1 LS H locs hl hP hS)
theorem fs_dupx1 (h : CallFix p m c cc nL s args Ts own) (hd : decode cc pc = .ok (.dup_x1, 1)) : fx_Snd (fx_W p l e R s m args below meth c Q A cs sl WP q nL) pc (fm_dupx1 (pc + 1)) := by
  intro k ls st S hk hf LS H locs hl hP hS
  obtain ⟨x, r, rfl, hf1⟩ := fx_pv_e hf
  obtain ⟨y, r, rfl, hf2⟩ := fx_pv_e hf1
  exact lv_dup_x1 h.1 h.2.1 hd (fx_cat q x) (fx_cat q y) (hk _ _ _ _ hf2 LS H locs hl hP hS)
theorem fs_dupx2 (h : CallFix p m c cc nL s args Ts own) (hd : decode cc pc = .ok (.dup_x2, 1)) : fx_Snd (fx_W p l e R s m args below meth c Q A cs sl WP q nL) pc (fm_dupx2 (pc + 1)) := by
  intro k ls st S hk hf LS H locs hl hP hS
  obtain ⟨x, r, rfl, hf1⟩ := fx_pv_e hf
  obtain ⟨y, r, rfl, hf2⟩ := fx_pv_e hf1
  obtain ⟨w, r, rfl, hf3⟩ := fx_pv_e hf2
  exact lv_dup_x2 h.1 h.2.1 hd (fx_cat q x) (fx_cat q y) (fx_cat q w) (hk _ _ _ _ hf3 LS H locs hl hP hS)
theorem fs_dup2 (h : CallFix p m c cc nL s args Ts own) (hd : decode cc pc = .ok (.dup2, 1)) : fx_Snd (fx_W p l e R s m args below meth c Q A cs sl WP q nL) pc (fm_dup2 (pc + 1)) := by
  intro k ls st S hk hf LS H locs hl hP hS
  obtain ⟨x, r, rfl, hf1⟩ := fx_pv_e hf
  obtain ⟨y, r, rfl, hf2⟩ := fx_pv_e hf1
  exact lv_dup2_11 h.1 h.2.1 hd (fx_cat q x) (fx_cat q y) (hk _ _ _ _ hf2 LS H locs hl hP hS)
theorem fs_iadd (h : CallFix p m c cc nL s args Ts own) (hd : decode cc pc = .ok (.iadd, 1)) : fx_Snd (fx_W p l e R s m args below meth c Q A cs sl WP q nL) pc (fm_iadd (pc + 1)) := by
  intro k ls st S hk hf LS H locs hl hP hS
  obtain ⟨y, r, rfl, hf1⟩ := fx_pi_e hf
  obtain ⟨x, r, rfl, hf2⟩ := fx_pi_e hf1
  exact lv_iadd h.1 h.2.1 hd (hk _ _ _ _ hf2 LS H locs hl hP hS)
theorem fs_isub (h : CallFix p m c cc nL s args Ts own) (hd : decode cc pc = .ok (.isub, 1)) : fx_Snd (fx_W p l e R s m args below meth c Q A cs sl WP q nL) pc (fm_isub (pc + 1)) := by
  intro k ls st S hk hf LS H locs hl hP hS
  obtain ⟨y, r, rfl, hf1⟩ := fx_pi_e hf
  obtain ⟨x, r, rfl, hf2⟩ := fx_pi_e hf1
  exact lv_isub h.1 h.2.1 hd (hk _ _ _ _ hf2 LS H locs hl hP hS)
theorem fs_imul (h : CallFix p m c cc nL s args Ts own) (hd : decode cc pc = .ok (.imul, 1)) : fx_Snd (fx_W p l e R s m args below meth c Q A cs sl WP q nL) pc (fm_imul (pc + 1)) := by
  intro k ls st S hk hf LS H locs hl hP hS
  obtain ⟨y, r, rfl, hf1⟩ := fx_pi_e hf
  obtain ⟨x, r, rfl, hf2⟩ := fx_pi_e hf1
  exact lv_imul h.1 h.2.1 hd (hk _ _ _ _ hf2 LS H locs hl hP hS)
theorem fs_iand (h : CallFix p m c cc nL s args Ts own) (hd : decode cc pc = .ok (.iand, 1)) : fx_Snd (fx_W p l e R s m args below meth c Q A cs sl WP q nL) pc (fm_iand (pc + 1)) := by
  intro k ls st S hk hf LS H locs hl hP hS
  obtain ⟨y, r, rfl, hf1⟩ := fx_pi_e hf
  obtain ⟨x, r, rfl, hf2⟩ := fx_pi_e hf1
  exact lv_iand h.1 h.2.1 hd (hk _ _ _ _ hf2 LS H locs hl hP hS)
theorem fs_ior (h : CallFix p m c cc nL s args Ts own) (hd : decode cc pc = .ok (.ior, 1)) : fx_Snd (fx_W p l e R s m args below meth c Q A cs sl WP q nL) pc (fm_ior (pc + 1)) := by
  intro k ls st S hk hf LS H locs hl hP hS
  obtain ⟨y, r, rfl, hf1⟩ := fx_pi_e hf
  obtain ⟨x, r, rfl, hf2⟩ := fx_pi_e hf1
  exact lv_ior h.1 h.2.1 hd (hk _ _ _ _ hf2 LS H locs hl hP hS)
theorem fs_ixor (h : CallFix p m c cc nL s args Ts own) (hd : decode cc pc = .ok (.ixor, 1)) : fx_Snd (fx_W p l e R s m args below meth c Q A cs sl WP q nL) pc (fm_ixor (pc + 1)) := by
  intro k ls st S hk hf LS H locs hl hP hS
  obtain ⟨y, r, rfl, hf1⟩ := fx_pi_e hf
  obtain ⟨x, r, rfl, hf2⟩ := fx_pi_e hf1
  exact lv_ixor h.1 h.2.1 hd (hk _ _ _ _ hf2 LS H locs hl hP hS)
theorem fs_ishl (h : CallFix p m c cc nL s args Ts own) (hd : decode cc pc = .ok (.ishl, 1)) : fx_Snd (fx_W p l e R s m args below meth c Q A cs sl WP q nL) pc (fm_ishl (pc + 1)) := by
  intro k ls st S hk hf LS H locs hl hP hS
  obtain ⟨y, r, rfl, hf1⟩ := fx_pi_e hf
  obtain ⟨x, r, rfl, hf2⟩ := fx_pi_e hf1
  exact lv_ishl h.1 h.2.1 hd (hk _ _ _ _ hf2 LS H locs hl hP hS)
theorem fs_ishr (h : CallFix p m c cc nL s args Ts own) (hd : decode cc pc = .ok (.ishr, 1)) : fx_Snd (fx_W p l e R s m args below meth c Q A cs sl WP q nL) pc (fm_ishr (pc + 1)) := by
  intro k ls st S hk hf LS H locs hl hP hS
  obtain ⟨y, r, rfl, hf1⟩ := fx_pi_e hf
  obtain ⟨x, r, rfl, hf2⟩ := fx_pi_e hf1
  exact lv_ishr h.1 h.2.1 hd (hk _ _ _ _ hf2 LS H locs hl hP hS)
theorem fs_ifeq (h : CallFix p m c cc nL s args Ts own) {off : Int} {tg : Nat} (hd : decode cc pc = .ok (.ifCond .eq off, 3)) (ht : (pc : Int) + off = (tg : Int)) : fx_Snd (fx_W p l e R s m args below meth c Q A cs sl WP q nL) pc (fm_ifeq tg (pc + 3)) := by
  intro k ls st S hk hf LS H locs hl hP hS
  obtain ⟨x, r, rfl, hf1⟩ := fx_pi_e hf
  exact lv_if_eq h.1 h.2.1 hd ht (fun hc => hk _ _ _ _ (hf1.1 hc) LS H locs hl hP hS) (fun hc => hk _ _ _ _ (hf1.2 hc) LS H locs hl hP hS)
theorem fs_ifne (h : CallFix p m c cc nL s args Ts own) {off : Int} {tg : Nat} (hd : decode cc pc = .ok (.ifCond .ne off, 3)) (ht : (pc : Int) + off = (tg : Int)) : fx_Snd (fx_W p l e R s m args below meth c Q A cs sl WP q nL) pc (fm_ifne tg (pc + 3)) := by
  intro k ls st S hk hf LS H locs hl hP hS
  obtain ⟨x, r, rfl, hf1⟩ := fx_pi_e hf
  exact lv_if_ne h.1 h.2.1 hd ht (fun hc => hk _ _ _ _ (hf1.1 hc) LS H locs hl hP hS) (fun hc => hk _ _ _ _ (hf1.2 hc) LS H locs hl hP hS)
theorem fs_iflt (h : CallFix p m c cc nL s args Ts own) {off : Int} {tg : Nat} (hd : decode cc pc = .ok (.ifCond .lt off, 3)) (ht : (pc : Int) + off = (tg : Int)) : fx_Snd (fx_W p l e R s m args below meth c Q A cs sl WP q nL) pc (fm_iflt tg (pc + 3)) := by
  intro k ls st S hk hf LS H locs hl hP hS
  obtain ⟨x, r, rfl, hf1⟩ := fx_pi_e hf
  exact lv_if_lt h.1 h.2.1 hd ht (fun hc => hk _ _ _ _ (hf1.1 hc) LS H locs hl hP hS) (fun hc => hk _ _ _ _ (hf1.2 hc) LS H locs hl hP hS)
theorem fs_ifge (h : CallFix p m c cc nL s args Ts own) {off : Int} {tg : Nat} (hd : decode cc pc = .ok (.ifCond .ge off, 3)) (ht : (pc : Int) + off = (tg : Int)) : fx_Snd (fx_W p l e R s m args below meth c Q A cs sl WP q nL) pc (fm_ifge tg (pc + 3)) := by
  intro k ls st S hk hf LS H locs hl hP hS
  obtain ⟨x, r, rfl, hf1⟩ := fx_pi_e hf
  exact lv_if_ge h.1 h.2.1 hd ht (fun hc => hk _ _ _ _ (hf1.1 hc) LS H locs hl hP hS) (fun hc => hk _ _ _ _ (hf1.2 hc) LS H locs hl hP hS)
theorem fs_ifgt (h : CallFix p m c cc nL s args Ts own) {off : Int} {tg : Nat} (hd : decode cc pc = .ok (.ifCond .gt off, 3)) (ht : (pc : Int) + off = (tg : Int)) : fx_Snd (fx_W p l e R s m args below meth c Q A cs sl WP q nL) pc (fm_ifgt tg (pc + 3)) := by
  intro k ls st S hk hf LS H locs hl hP hS
  obtain ⟨x, r, rfl, hf1⟩ := fx_pi_e hf
  exact lv_if_gt h.1 h.2.1 hd ht (fun hc => hk _ _ _ _ (hf1.1 hc) LS H locs hl hP hS) (fun hc => hk _ _ _ _ (hf1.2 hc) LS H locs hl hP hS)
theorem fs_ifle (h : CallFix p m c cc nL s args Ts own) {off : Int} {tg : Nat} (hd : decode cc pc = .ok (.ifCond .le off, 3)) (ht : (pc : Int) + off = (tg : Int)) : fx_Snd (fx_W p l e R s m args below meth c Q A cs sl WP q nL) pc (fm_ifle tg (pc + 3)) := by
  intro k ls st S hk hf LS H locs hl hP hS
  obtain ⟨x, r, rfl, hf1⟩ := fx_pi_e hf
  exact lv_if_le h.1 h.2.1 hd ht (fun hc => hk _ _ _ _ (hf1.1 hc) LS H locs hl hP hS) (fun hc => hk _ _ _ _ (hf1.2 hc) LS H locs hl hP hS)
theorem fs_cmpeq (h : CallFix p m c cc nL s args Ts own) {off : Int} {tg : Nat} (hd : decode cc pc = .ok (.if_icmp .eq off, 3)) (ht : (pc : Int) + off = (tg : Int)) : fx_Snd (fx_W p l e R s m args below meth c Q A cs sl WP q nL) pc (fm_cmpeq tg (pc + 3)) := by
  intro k ls st S hk hf LS H locs hl hP hS
  obtain ⟨y, r, rfl, hf1⟩ := fx_pi_e hf
  obtain ⟨x, r, rfl, hf2⟩ := fx_pi_e hf1
  exact lv_icmp_eq h.1 h.2.1 hd ht (fun hc => hk _ _ _ _ (hf2.1 hc) LS H locs hl hP hS) (fun hc => hk _ _ _ _ (hf2.2 hc) LS H locs hl hP hS)
theorem fs_cmpne (h : CallFix p m c cc nL s args Ts own) {off : Int} {tg : Nat} (hd : decode cc pc = .ok (.if_icmp .ne off, 3)) (ht : (pc : Int) + off = (tg : Int)) : fx_Snd (fx_W p l e R s m args below meth c Q A cs sl WP q nL) pc (fm_cmpne tg (pc + 3)) := by
  intro k ls st S hk hf LS H locs hl hP hS
  obtain ⟨y, r, rfl, hf1⟩ := fx_pi_e hf
  obtain ⟨x, r, rfl, hf2⟩ := fx_pi_e hf1
  exact lv_icmp_ne h.1 h.2.1 hd ht (fun hc => hk _ _ _ _ (hf2.1 hc) LS H locs hl hP hS) (fun hc => hk _ _ _ _ (hf2.2 hc) LS H locs hl hP hS)
theorem fs_cmplt (h : CallFix p m c cc nL s args Ts own) {off : Int} {tg : Nat} (hd : decode cc pc = .ok (.if_icmp .lt off, 3)) (ht : (pc : Int) + off = (tg : Int)) : fx_Snd (fx_W p l e R s m args below meth c Q A cs sl WP q nL) pc (fm_cmplt tg (pc + 3)) := by
  intro k ls st S hk hf LS H locs hl hP hS
  obtain ⟨y, r, rfl, hf1⟩ := fx_pi_e hf
  obtain ⟨x, r, rfl, hf2⟩ := fx_pi_e hf1
  exact lv_icmp_lt h.1 h.2.1 hd ht (fun hc => hk _ _ _ _ (hf2.1 hc) LS H locs hl hP hS) (fun hc => hk _ _ _ _ (hf2.2 hc) LS H locs hl hP hS)
theorem fs_cmpge (h : CallFix p m c cc nL s args Ts own) {off : Int} {tg : Nat} (hd : decode cc pc = .ok (.if_icmp .ge off, 3)) (ht : (pc : Int) + off = (tg : Int)) : fx_Snd (fx_W p l e R s m args below meth c Q A cs sl WP q nL) pc (fm_cmpge tg (pc + 3)) := by
  intro k ls st S hk hf LS H locs hl hP hS
  obtain ⟨y, r, rfl, hf1⟩ := fx_pi_e hf
  obtain ⟨x, r, rfl, hf2⟩ := fx_pi_e hf1
  exact lv_icmp_ge h.1 h.2.1 hd ht (fun hc => hk _ _ _ _ (hf2.1 hc) LS H locs hl hP hS) (fun hc => hk _ _ _ _ (hf2.2 hc) LS H locs hl hP hS)
theorem fs_cmpgt (h : CallFix p m c cc nL s args Ts own) {off : Int} {tg : Nat} (hd : decode cc pc = .ok (.if_icmp .gt off, 3)) (ht : (pc : Int) + off = (tg : Int)) : fx_Snd (fx_W p l e R s m args below meth c Q A cs sl WP q nL) pc (fm_cmpgt tg (pc + 3)) := by
  intro k ls st S hk hf LS H locs hl hP hS
  obtain ⟨y, r, rfl, hf1⟩ := fx_pi_e hf
  obtain ⟨x, r, rfl, hf2⟩ := fx_pi_e hf1
  exact lv_icmp_gt h.1 h.2.1 hd ht (fun hc => hk _ _ _ _ (hf2.1 hc) LS H locs hl hP hS) (fun hc => hk _ _ _ _ (hf2.2 hc) LS H locs hl hP hS)
theorem fs_cmple (h : CallFix p m c cc nL s args Ts own) {off : Int} {tg : Nat} (hd : decode cc pc = .ok (.if_icmp .le off, 3)) (ht : (pc : Int) + off = (tg : Int)) : fx_Snd (fx_W p l e R s m args below meth c Q A cs sl WP q nL) pc (fm_cmple tg (pc + 3)) := by
  intro k ls st S hk hf LS H locs hl hP hS
  obtain ⟨y, r, rfl, hf1⟩ := fx_pi_e hf
  obtain ⟨x, r, rfl, hf2⟩ := fx_pi_e hf1
  exact lv_icmp_le h.1 h.2.1 hd ht (fun hc => hk _ _ _ _ (hf2.1 hc) LS H locs hl hP hS) (fun hc => hk _ _ _ _ (hf2.2 hc) LS H locs hl hP hS)
end FXS
end
section
/-- what a walk of a method of a world stands on -/
def fx_C (p : Program) (s : State) (m : MethodId) (args : Array Value) (meth : Method) (c : Code) (cc : ByteArray) (nL : Nat) (Ts : List Cond) (own : String) (D : va_G) (cl : List vw_C) (cA : Nat → ClassId) (q : Nat → Nat) (N : Nat) : Prop :=
  CallFix p m c cc nL s args Ts own ∧ va_K D cl (fx_ty cA) s ∧ (∀ i j, i < N → j < N → q i = q j → i = j) ∧ meth.locks = false
def fx_P (D : va_G) (cl : List vw_C) (cA : Nat → ClassId) (q : Nat → Nat) (ly : fx_L) (S : fx_S) (H : Heap) : Prop := va_P D cl (fx_w cA q ly S) H
def fx_N (nwl : List Cond) : Prop := ∀ w ∈ nwl, w.onTables = true ∧ ∀ (s U : State), s.WarmedH U.vm → va_Nw w s → va_Nw w U
def fx_Pc (D : va_G) (cl : List vw_C) (cA : Nat → ClassId) (q : Nat → Nat) (ly : fx_L) (nwl : List Cond) (av : List fx_V) (S : fx_S) : Array Value → State → Prop := va_Pc (av.map (fx_v q)) (fun U => va_P D cl (fx_w cA q ly S) U.heap ∧ va_K D cl (fx_ty cA) U ∧ ∀ w ∈ nwl, va_Nw w U)
def fx_Qc (D : va_G) (cl : List vw_C) (cA : Nat → ClassId) (q : Nat → Nat) (ly : fx_L) (z : Bool) (post : Int32 → fx_S → Prop) : Array Value → State → Outcome → State → Prop := fun _ st oc t => (∃ (r : Int32) (S' : fx_S), oc = .returned (bif z then some (.int r) else none) ∧ post r S' ∧ va_P D cl (fx_w cA q ly S') t.heap) ∧ va_F (fx_A q ly.length) st t
/-- a method's contract at one start: from the arguments av and the state S it answers r and leaves S' with post r S' -/
def fx_Met (l : Launch) (D : va_G) (cl : List vw_C) (cA : Nat → ClassId) (q : Nat → Nat) (ly : fx_L) (nwl : List Cond) (y : MethodName) (ws : List Cond) (rm : Room) (z : Bool) (av : List fx_V) (S : fx_S) (post : Int32 → fx_S → Prop) : Prop := Met l y ws rm (fx_Pc D cl cA q ly nwl av S) (fx_Qc D cl cA q ly z post) 0 0 (fx_A q ly.length)
theorem fx_fs_set {q : Nat → Nat} {r : Nat → Int32} {fs : List (Option Nat)} {j : Nat} {x : Int32} (h : fs[j]? = some none) : (fs.mapIdx (fx_f q r)).set j (.int x) = fs.mapIdx (fx_f q (upd r j x)) := by
  apply List.ext_getElem?
  intro i
  by_cases hi : i = j
  · subst hi
    rw [List.getElem?_set_self (by simpa using (List.getElem?_eq_some_iff.mp h).1), List.getElem?_mapIdx, h]
    simp [fx_f, upd]
  · rw [List.getElem?_set_ne (Ne.symm hi), List.getElem?_mapIdx, List.getElem?_mapIdx]
    cases hc : fs[i]? with
    | none => rfl
    | some d => cases d <;> simp [fx_f, upd, hi]
theorem fx_w_put {cA : Nat → ClassId} {q : Nat → Nat} {ly : fx_L} {S : fx_S} {a ci j : Nat} {fs : List (Option Nat)} {x : Int32} (hly : ly[a]? = some (.inr (ci, fs))) (hfs : fs[j]? = some none) : (fx_w cA q ly S).set a (q a, .inr (ci, (fs.mapIdx (fx_f q (S a))).set j (.int x))) = fx_w cA q ly (fx_up S a j x) := by
  rw [fx_fs_set hfs, ← fx_up_row]
  exact fx_w_set hly (fun i hi => fx_up_ne S j x hi)
theorem fx_w_ast {cA : Nat → ClassId} {q : Nat → Nat} {ly : fx_L} {S : fx_S} {a t n i : Nat} {x : Int32} (hly : ly[a]? = some (.inl (t, n))) : (fx_w cA q ly S).set a (q a, .inl (cA t, n, .inl (upd (S a) i x))) = fx_w cA q ly (fx_up S a i x) := by
  rw [← fx_up_row]
  exact fx_w_set hly (fun j hj => fx_up_ne S i x hj)
theorem fx_ln {ly : fx_L} {t : Nat} {ln : List (Nat × Nat)} (h : ∀ x ∈ ln, ly[x.1]? = some (.inl (t, x.2))) (a n : Nat) (he : fx_lk ln a = some n) : ly[a]? = some (.inl (t, n)) := h _ (fx_lk_mem ln a n he)
theorem fx_blind {D : va_G} {cl : List vw_C} {cA : Nat → ClassId} {q : Nat → Nat} {ly : fx_L} {nwl : List Cond} {av : List fx_V} {S : fx_S} (hN : fx_N nwl) : FrameBlind (fx_Pc D cl cA q ly nwl av S) :=
  fun a U g mk hp => ⟨hp.1, hp.2.1, va_K.moved (u := U) (U := U.calling g mk a) (Vm.Alike.refl U.vm) hp.2.2.1, fun w hw => va_Nw.same (u := U) (U := U.calling g mk a) (hN w hw).1 rfl (hp.2.2.2 w hw)⟩
section FXT
variable {p : Program} {l : Launch} {e : Env} {R : Room} {s : State} {m : MethodId} {args : Array Value} {below : List Frame} {meth : Method} {c : Code} {Q : State → Prop} {D : va_G} {cl : List vw_C} {cA : Nat → ClassId} {q : Nat → Nat} {ly : fx_L} {nL : Nat} {cc : ByteArray} {Ts : List Cond} {own : String} {pc : Nat}
theorem fs_get (h : fx_C p s m args meth c cc nL Ts own D cl cA q ly.length) {C : String} {T : u_T} {N ci index cN j : Nat} {fs : List (Option Nat)} (hly : ly[cN]? = some (.inr (ci, fs))) (hfs : fs[j]? = some none) (hc : cl[ci]? = some (C, T, N)) (hj : j < N) (hin : ∀ w ∈ u_ws C T N, w ∈ Ts) (hlink : (Cond.fieldLink own index (T j).1 (T j).2.1 (T j).2.2.1).before args s = true) (hd : decode cc pc = .ok (.getfield index, 3)) : fx_Snd (fx_W p l e R s m args below meth c Q (fx_A q ly.length) 0 0 (fx_P D cl cA q ly) q nL) pc (fm_get cN j (pc + 3)) := by
  intro k ls st S hk hf LS H locs hl hP hS
  obtain ⟨a, r, rfl, hf1⟩ := fx_pr_e hf
  cases hb : Nat.beq a cN with
  | false => rw [hb] at hf1; exact hf1.elim
  | true =>
    rw [hb] at hf1
    obtain rfl := Nat.eq_of_beq_eq_true hb
    exact va_get (D := D) (ci := ci) (v := .int (S a j)) (C := C) (T := T) (N := N) (fs := fs.mapIdx (fx_f q (S a))) h.1.1 h.1.2.1 h.1.2.2.2.2 hin h.1.2.2.2.1 h.2.1 hP a (fx_w_at hly) hc j hj hlink (fun _ h9 => h9) (by rw [List.getElem?_mapIdx, hfs]; rfl) hd (hk _ _ _ _ hf1 LS H locs hl hP hS)
theorem fs_getr (h : fx_C p s m args meth c cc nL Ts own D cl cA q ly.length) {C : String} {T : u_T} {N ci index cN j d : Nat} {fs : List (Option Nat)} (hly : ly[cN]? = some (.inr (ci, fs))) (hfs : fs[j]? = some (some d)) (hc : cl[ci]? = some (C, T, N)) (hj : j < N) (hin : ∀ w ∈ u_ws C T N, w ∈ Ts) (hlink : (Cond.fieldLink own index (T j).1 (T j).2.1 (T j).2.2.1).before args s = true) (hd : decode cc pc = .ok (.getfield index, 3)) : fx_Snd (fx_W p l e R s m args below meth c Q (fx_A q ly.length) 0 0 (fx_P D cl cA q ly) q nL) pc (fm_getr cN d (pc + 3)) := by
  intro k ls st S hk hf LS H locs hl hP hS
  obtain ⟨a, r, rfl, hf1⟩ := fx_pr_e hf
  cases hb : Nat.beq a cN with
  | false => rw [hb] at hf1; exact hf1.elim
  | true =>
    rw [hb] at hf1
    obtain rfl := Nat.eq_of_beq_eq_true hb
    exact va_get (D := D) (ci := ci) (v := .ref (q d)) (C := C) (T := T) (N := N) (fs := fs.mapIdx (fx_f q (S a))) h.1.1 h.1.2.1 h.1.2.2.2.2 hin h.1.2.2.2.1 h.2.1 hP a (fx_w_at hly) hc j hj hlink (fun _ h9 => h9) (by rw [List.getElem?_mapIdx, hfs]; rfl) hd (hk _ _ _ _ hf1 LS H locs hl hP hS)
theorem fs_getN (h : fx_C p s m args meth c cc nL Ts own D cl cA q ly.length) {C host : String} {T : u_T} {N ci index cN j : Nat} {fs : List (Option Nat)} (hly : ly[cN]? = some (.inr (ci, fs))) (hfs : fs[j]? = some none) (hc : cl[ci]? = some (C, T, N)) (hj : j < N) (hin : ∀ w ∈ u_ws C T N, w ∈ Ts) (hlink : va_Nw (.fieldLinkNest own index (T j).1 (T j).2.1 (T j).2.2.1 host) s) (hd : decode cc pc = .ok (.getfield index, 3)) : fx_Snd (fx_W p l e R s m args below meth c Q (fx_A q ly.length) 0 0 (fx_P D cl cA q ly) q nL) pc (fm_get cN j (pc + 3)) := by
  intro k ls st S hk hf LS H locs hl hP hS
  obtain ⟨a, r, rfl, hf1⟩ := fx_pr_e hf
  cases hb : Nat.beq a cN with
  | false => rw [hb] at hf1; exact hf1.elim
  | true =>
    rw [hb] at hf1
    obtain rfl := Nat.eq_of_beq_eq_true hb
    exact va_getN (D := D) (ci := ci) (v := .int (S a j)) (C := C) (T := T) (N := N) (fs := fs.mapIdx (fx_f q (S a))) h.1.1 h.1.2.1 h.1.2.2.2.2 hin h.1.2.2.2.1 h.2.1 hP a (fx_w_at hly) hc j hj (va_Nw.use rfl hlink) (fun _ h9 => h9) (by rw [List.getElem?_mapIdx, hfs]; rfl) hd (hk _ _ _ _ hf1 LS H locs hl hP hS)
theorem fs_getrN (h : fx_C p s m args meth c cc nL Ts own D cl cA q ly.length) {C host : String} {T : u_T} {N ci index cN j d : Nat} {fs : List (Option Nat)} (hly : ly[cN]? = some (.inr (ci, fs))) (hfs : fs[j]? = some (some d)) (hc : cl[ci]? = some (C, T, N)) (hj : j < N) (hin : ∀ w ∈ u_ws C T N, w ∈ Ts) (hlink : va_Nw (.fieldLinkNest own index (T j).1 (T j).2.1 (T j).2.2.1 host) s) (hd : decode cc pc = .ok (.getfield index, 3)) : fx_Snd (fx_W p l e R s m args below meth c Q (fx_A q ly.length) 0 0 (fx_P D cl cA q ly) q nL) pc (fm_getr cN d (pc + 3)) := by
  intro k ls st S hk hf LS H locs hl hP hS
  obtain ⟨a, r, rfl, hf1⟩ := fx_pr_e hf
  cases hb : Nat.beq a cN with
  | false => rw [hb] at hf1; exact hf1.elim
  | true =>
    rw [hb] at hf1
    obtain rfl := Nat.eq_of_beq_eq_true hb
    exact va_getN (D := D) (ci := ci) (v := .ref (q d)) (C := C) (T := T) (N := N) (fs := fs.mapIdx (fx_f q (S a))) h.1.1 h.1.2.1 h.1.2.2.2.2 hin h.1.2.2.2.1 h.2.1 hP a (fx_w_at hly) hc j hj (va_Nw.use rfl hlink) (fun _ h9 => h9) (by rw [List.getElem?_mapIdx, hfs]; rfl) hd (hk _ _ _ _ hf1 LS H locs hl hP hS)
theorem fx_z {x : Int32} (h : x = 0 ∨ x = 1) : narrow .boolean (.int x) = .int x ∧ fits .boolean (.int x) = true ∧ vp_nar .boolean x = x := by
  rcases h with rfl | rfl <;> exact ⟨by rfl, by rfl, by rfl⟩
theorem fs_put (h : fx_C p s m args meth c cc nL Ts own D cl cA q ly.length) {C : String} {T : u_T} {N ci index cN j : Nat} {fs : List (Option Nat)} (hly : ly[cN]? = some (.inr (ci, fs))) (hfs : fs[j]? = some none) (hc : cl[ci]? = some (C, T, N)) (hj : j < N) (ty0 : Nat → FieldType) (hty : ∀ k, k < N → parseFieldDescriptor (T k).2.2.1 = some (ty0 k)) (hnm : ∀ a, a < N → ∀ b, b < N → a ≠ b → (T a).2.1 ≠ (T b).2.1) (hfin : (T j).2.2.2 = false) (ht : parseFieldDescriptor (T j).2.2.1 = some .int) (hin : ∀ w ∈ u_ws C T N, w ∈ Ts) (hlink : (Cond.fieldLink own index (T j).1 (T j).2.1 (T j).2.2.1).before args s = true) (hd : decode cc pc = .ok (.putfield index, 3)) : fx_Snd (fx_W p l e R s m args below meth c Q (fx_A q ly.length) 0 0 (fx_P D cl cA q ly) q nL) pc (fm_put cN j (pc + 3)) := by
  intro k ls st S hk hf LS H locs hl hP hS
  obtain ⟨x, r, rfl, hf1⟩ := fx_pi_e hf
  obtain ⟨a, r, rfl, hf2⟩ := fx_pr_e hf1
  cases hb : Nat.beq a cN with
  | false => rw [hb] at hf2; exact hf2.elim
  | true =>
    rw [hb] at hf2
    obtain rfl := Nat.eq_of_beq_eq_true hb
    refine va_put (D := D) (ci := ci) (v := .int x) (ty := .int) (C := C) (T := T) (N := N) (fs := fs.mapIdx (fx_f q (S a))) h.1.1 h.1.2.1 h.1.2.2.2.2 hin ty0 hty hnm h.1.2.2.2.1 h.2.1 hP (fx_D h.2.2.1 (fun k hk => ⟨k, hk, rfl⟩)) hS a (fx_w_at hly) hc j hj hlink (fun _ h9 => h9) hfin ht rfl rfl (by simpa using (List.getElem?_eq_some_iff.mp hfs).1) hd (fun H1 locs1 hP1 _ hS1 => ?_)
    rw [fx_w_put hly hfs] at hP1
    exact hk _ _ _ _ hf2 LS H1 locs1 hl hP1 hS1
theorem fs_putz (h : fx_C p s m args meth c cc nL Ts own D cl cA q ly.length) {C : String} {T : u_T} {N ci index cN j : Nat} {fs : List (Option Nat)} (hly : ly[cN]? = some (.inr (ci, fs))) (hfs : fs[j]? = some none) (hc : cl[ci]? = some (C, T, N)) (hj : j < N) (ty0 : Nat → FieldType) (hty : ∀ k, k < N → parseFieldDescriptor (T k).2.2.1 = some (ty0 k)) (hnm : ∀ a, a < N → ∀ b, b < N → a ≠ b → (T a).2.1 ≠ (T b).2.1) (hfin : (T j).2.2.2 = false) (ht : parseFieldDescriptor (T j).2.2.1 = some .boolean) (hin : ∀ w ∈ u_ws C T N, w ∈ Ts) (hlink : (Cond.fieldLink own index (T j).1 (T j).2.1 (T j).2.2.1).before args s = true) (hd : decode cc pc = .ok (.putfield index, 3)) : fx_Snd (fx_W p l e R s m args below meth c Q (fx_A q ly.length) 0 0 (fx_P D cl cA q ly) q nL) pc (fm_putz cN j (pc + 3)) := by
  intro k ls st S hk hf LS H locs hl hP hS
  obtain ⟨x, r, rfl, hf1⟩ := fx_pi_e hf
  obtain ⟨a, r, rfl, hf2⟩ := fx_pr_e hf1
  cases hb : Nat.beq a cN with
  | false => rw [hb] at hf2; exact hf2.elim
  | true =>
    rw [hb] at hf2
    obtain rfl := Nat.eq_of_beq_eq_true hb
    obtain ⟨hx, hf3⟩ := hf2
    refine va_put (D := D) (ci := ci) (v := .int x) (ty := .boolean) (C := C) (T := T) (N := N) (fs := fs.mapIdx (fx_f q (S a))) h.1.1 h.1.2.1 h.1.2.2.2.2 hin ty0 hty hnm h.1.2.2.2.1 h.2.1 hP (fx_D h.2.2.1 (fun k hk => ⟨k, hk, rfl⟩)) hS a (fx_w_at hly) hc j hj hlink (fun _ h9 => h9) hfin ht (fx_z hx).1 (fx_z hx).2.1 (by simpa using (List.getElem?_eq_some_iff.mp hfs).1) hd (fun H1 locs1 hP1 _ hS1 => ?_)
    rw [fx_w_put hly hfs] at hP1
    exact hk _ _ _ _ hf3 LS H1 locs1 hl hP1 hS1
theorem fs_ald (h : fx_C p s m args meth c cc nL Ts own D cl cA q ly.length) {ln : List (Nat × Nat)} (hln : ∀ x ∈ ln, ly[x.1]? = some (.inl (0, x.2))) (hd : decode cc pc = .ok (.iaload, 1)) : fx_Snd (fx_W p l e R s m args below meth c Q (fx_A q ly.length) 0 0 (fx_P D cl cA q ly) q nL) pc (fm_ald ln (pc + 1)) := by
  intro k ls st S hk hf LS H locs hl hP hS
  obtain ⟨i, r, rfl, hf1⟩ := fx_pi_e hf
  obtain ⟨a, r, rfl, hf2⟩ := fx_pr_e hf1
  cases hn : fx_lk ln a with
  | none => rw [hn] at hf2; exact hf2.elim
  | some n =>
    rw [hn] at hf2
    exact va_iald h.1.1 h.1.2.1 h.2.1 hP a 0 (fx_w_at (fx_ln hln a n hn)) rfl hf2.1 hd (hk _ _ _ _ hf2.2 LS H locs hl hP hS)
theorem fs_zald (h : fx_C p s m args meth c cc nL Ts own D cl cA q ly.length) {ln : List (Nat × Nat)} (hln : ∀ x ∈ ln, ly[x.1]? = some (.inl (1, x.2))) (hd : decode cc pc = .ok (.baload, 1)) : fx_Snd (fx_W p l e R s m args below meth c Q (fx_A q ly.length) 0 0 (fx_P D cl cA q ly) q nL) pc (fm_ald ln (pc + 1)) := by
  intro k ls st S hk hf LS H locs hl hP hS
  obtain ⟨i, r, rfl, hf1⟩ := fx_pi_e hf
  obtain ⟨a, r, rfl, hf2⟩ := fx_pr_e hf1
  cases hn : fx_lk ln a with
  | none => rw [hn] at hf2; exact hf2.elim
  | some n =>
    rw [hn] at hf2
    exact va_zald h.1.1 h.1.2.1 h.2.1 hP a 1 (fx_w_at (fx_ln hln a n hn)) rfl hf2.1 hd (hk _ _ _ _ hf2.2 LS H locs hl hP hS)
theorem fs_ast (h : fx_C p s m args meth c cc nL Ts own D cl cA q ly.length) {ln : List (Nat × Nat)} (hln : ∀ x ∈ ln, ly[x.1]? = some (.inl (0, x.2))) (hd : decode cc pc = .ok (.iastore, 1)) : fx_Snd (fx_W p l e R s m args below meth c Q (fx_A q ly.length) 0 0 (fx_P D cl cA q ly) q nL) pc (fm_ast ln (pc + 1)) := by
  intro k ls st S hk hf LS H locs hl hP hS
  obtain ⟨x, r, rfl, hf1⟩ := fx_pi_e hf
  obtain ⟨i, r, rfl, hf2⟩ := fx_pi_e hf1
  obtain ⟨a, r, rfl, hf3⟩ := fx_pr_e hf2
  cases hn : fx_lk ln a with
  | none => rw [hn] at hf3; exact hf3.elim
  | some n =>
    rw [hn] at hf3
    refine va_iast h.1.1 h.1.2.1 h.2.1 hP (fx_D h.2.2.1 (fun k hk => ⟨k, hk, rfl⟩)) hS a 0 (fx_w_at (fx_ln hln a n hn)) rfl hf3.1 hd (fun H1 locs1 hP1 _ hS1 => ?_)
    rw [fx_w_ast (fx_ln hln a n hn)] at hP1
    exact hk _ _ _ _ hf3.2 LS H1 locs1 hl hP1 hS1
theorem fs_zast (h : fx_C p s m args meth c cc nL Ts own D cl cA q ly.length) {ln : List (Nat × Nat)} (hln : ∀ x ∈ ln, ly[x.1]? = some (.inl (1, x.2))) (hd : decode cc pc = .ok (.bastore, 1)) : fx_Snd (fx_W p l e R s m args below meth c Q (fx_A q ly.length) 0 0 (fx_P D cl cA q ly) q nL) pc (fm_zast ln (pc + 1)) := by
  intro k ls st S hk hf LS H locs hl hP hS
  obtain ⟨x, r, rfl, hf1⟩ := fx_pi_e hf
  obtain ⟨i, r, rfl, hf2⟩ := fx_pi_e hf1
  obtain ⟨a, r, rfl, hf3⟩ := fx_pr_e hf2
  cases hn : fx_lk ln a with
  | none => rw [hn] at hf3; exact hf3.elim
  | some n =>
    rw [hn] at hf3
    obtain ⟨hx, hi, hf4⟩ := hf3
    refine va_zast h.1.1 h.1.2.1 h.2.1 hP (fx_D h.2.2.1 (fun k hk => ⟨k, hk, rfl⟩)) hS a 1 (fx_w_at (fx_ln hln a n hn)) rfl hi hd (fun H1 locs1 hP1 _ hS1 => ?_)
    rw [(fx_z hx).2.2, fx_w_ast (fx_ln hln a n hn)] at hP1
    exact hk _ _ _ _ hf4 LS H1 locs1 hl hP1 hS1
theorem fx_call {z : Bool} {post : Int32 → fx_S → Prop} {a : Array Value} {rest st0 : List Value} {LS : Array Slot} {H : Heap} {locs : List Loc} (hr : va_Run p l e R s m args below meth c H locs 0 0 0 0 (F0 m pc LS st0) rest (fx_Qc D cl cA q ly z post a) (fx_A q ly.length)) (hS : va_S (fx_A q ly.length) s.heap H locs) (kk : ∀ (r : Int32) (S' : fx_S) (H1 : Heap) (locs1 : List Loc), post r S' → va_P D cl (fx_w cA q ly S') H1 → va_S (fx_A q ly.length) s.heap H1 locs1 → W p l e R s m args below meth c H1 locs1 0 0 Q (F0 m (pc + 3) LS ((bif z then some (Value.int r) else none).toList ++ rest))) : W p l e R s m args below meth c H locs 0 0 Q (F0 m pc LS st0) := by
  intro T hT X
  obtain ⟨v, st₀, t, T', L, h0, X', hL, e1, e2, ⟨⟨r, S', hv, hp, hb⟩, hz, hk⟩, st⟩ := hr T hT X
  have hv' : v = (bif z then some (Value.int r) else none) := by injection hv
  subst hv'
  rw [h0] at hz hk
  obtain ⟨t2, a1, b1⟩ := kk r S' T'.heap (locs ++ L) hp (by rw [e1]; exact hb)
    ⟨Nat.le_trans hS.1 (by rw [e1]; exact hz), fun x h1 h2 => by rw [e1, hk x (Nat.lt_of_lt_of_le h1 hS.1) h2]; exact hS.2.1 x h1 h2, fun x hx => by
      rcases List.mem_append.mp hx with h | h
      · exact hS.2.2 x h
      · exact hL x h⟩ T' rfl X'
  exact ⟨t2, st t2 a1, b1⟩
theorem fx_stk {as r : List fx_V} {a : Nat} : (as.reverse ++ .inr a :: r).map (fx_v q) = (as.map (fx_v q)).reverse ++ .ref (q a) :: r.map (fx_v q) := by
  simp [fx_v, List.map_reverse]
theorem fx_stk0 {as r : List fx_V} : (as.reverse ++ r).map (fx_v q) = (as.map (fx_v q)).reverse ++ r.map (fx_v q) := by
  simp [List.map_reverse]
theorem fx_after {z : Bool} {r : Int32} {st : List fx_V} : (bif z then .inl r :: st else st : List fx_V).map (fx_v q) = (bif z then some (Value.int r) else none).toList ++ st.map (fx_v q) := by
  cases z <;> rfl
theorem fs_callV (h : fx_C p s m args meth c cc nL Ts own D cl cA q ly.length) {nwl : List Cond} (hN : fx_N nwl) (hnw : ∀ w ∈ nwl, va_Nw w s) {C : String} {y : MethodName} {bytes : ByteArray} {maxL n index cN ci N : Nat} {ret : Option FieldType} {ws : List Cond} {rm : Room} {z : Bool} {fs : List (Option Nat)} {T : u_T} (hly : ly[cN]? = some (.inr (ci, fs))) (hc : cl[ci]? = some (C, T, N)) (cw : CallW R s args own C index y bytes maxL ret ws rm 0 0 n) (hd : decode cc pc = .ok (.invokevirtual index, 3)) : fx_Snd (fx_W p l e R s m args below meth c Q (fx_A q ly.length) 0 0 (fx_P D cl cA q ly) q nL) pc (fm_call z cN n (fx_Met l D cl cA q ly nwl y ws rm z) (pc + 3)) := by
  intro k ls st S hk hf LS H locs hl hP hS
  obtain ⟨as, r, hn, rfl, hf1⟩ := fx_pn_e _ _ _ _ hf
  obtain ⟨a, r, rfl, hf2⟩ := fx_pr_e hf1
  cases hb : (Nat.beq a cN && Nat.ble r.length 8) with
  | false => rw [hb] at hf2; exact hf2.elim
  | true =>
    rw [hb] at hf2
    have h12 := hb
    rw [Bool.and_eq_true] at h12
    obtain rfl := Nat.eq_of_beq_eq_true h12.1
    obtain ⟨post, hM, hf3⟩ := hf2
    rw [List.append_nil] at hM
    refine fx_call (va_runV (As := as.map (fx_v q)) (rest := r.map (fx_v q)) (b := q a) h.1 hM cw ⟨fx_blind hN, va_recv h.2.1 hP hc (fx_w_at hly), fun U hU hW => ⟨rfl, by rw [hU]; exact hP, va_K.moved hW.alike h.2.1, fun w hw => (hN w hw).2 s U hW (hnw w hw)⟩⟩ rfl (by rw [List.length_map]; exact hn) hl.1 fx_stk (lv_room (by rw [fx_cats]; exact Nat.le_of_ble_eq_true h12.2)) hd ⟨Nat.zero_le _, Nat.zero_le _⟩) hS (fun r' S' H1 locs1 hp hP1 hS1 => ?_)
    have := hk _ _ _ _ (hf3 r' S' hp) LS H1 locs1 hl hP1 hS1
    rw [fx_after] at this
    exact this
theorem fs_callVN (h : fx_C p s m args meth c cc nL Ts own D cl cA q ly.length) {nwl : List Cond} (hN : fx_N nwl) (hnw : ∀ w ∈ nwl, va_Nw w s) {C host : String} {y : MethodName} {bytes : ByteArray} {maxL n index cN ci N : Nat} {ret : Option FieldType} {ws : List Cond} {rm : Room} {z : Bool} {fs : List (Option Nat)} {T : u_T} (hly : ly[cN]? = some (.inr (ci, fs))) (hc : cl[ci]? = some (C, T, N)) (cw : va_CN R s args own index y host bytes maxL ret ws rm 0 0 n ∧ (Cond.instanceMethod y).before args s = true ∧ (Cond.selects C y y).before args s = true) (hd : decode cc pc = .ok (.invokevirtual index, 3)) : fx_Snd (fx_W p l e R s m args below meth c Q (fx_A q ly.length) 0 0 (fx_P D cl cA q ly) q nL) pc (fm_call z cN n (fx_Met l D cl cA q ly nwl y ws rm z) (pc + 3)) := by
  intro k ls st S hk hf LS H locs hl hP hS
  obtain ⟨as, r, hn, rfl, hf1⟩ := fx_pn_e _ _ _ _ hf
  obtain ⟨a, r, rfl, hf2⟩ := fx_pr_e hf1
  cases hb : (Nat.beq a cN && Nat.ble r.length 8) with
  | false => rw [hb] at hf2; exact hf2.elim
  | true =>
    rw [hb] at hf2
    have h12 := hb
    rw [Bool.and_eq_true] at h12
    obtain rfl := Nat.eq_of_beq_eq_true h12.1
    obtain ⟨post, hM, hf3⟩ := hf2
    rw [List.append_nil] at hM
    refine fx_call (va_runVN (As := as.map (fx_v q)) (rest := r.map (fx_v q)) (b := q a) h.1 hM cw ⟨fx_blind hN, va_recv h.2.1 hP hc (fx_w_at hly), fun U hU hW => ⟨rfl, by rw [hU]; exact hP, va_K.moved hW.alike h.2.1, fun w hw => (hN w hw).2 s U hW (hnw w hw)⟩⟩ rfl (by rw [List.length_map]; exact hn) hl.1 fx_stk (lv_room (by rw [fx_cats]; exact Nat.le_of_ble_eq_true h12.2)) hd ⟨Nat.zero_le _, Nat.zero_le _⟩) hS (fun r' S' H1 locs1 hp hP1 hS1 => ?_)
    have := hk _ _ _ _ (hf3 r' S' hp) LS H1 locs1 hl hP1 hS1
    rw [fx_after] at this
    exact this
theorem fs_callS (h : fx_C p s m args meth c cc nL Ts own D cl cA q ly.length) {nwl : List Cond} (hN : fx_N nwl) (hnw : ∀ w ∈ nwl, va_Nw w s) {y : MethodName} {bytes : ByteArray} {maxL n index : Nat} {ret : Option FieldType} {ws : List Cond} {rm : Room} {z : Bool} (cw : CallB R s args own index y bytes maxL ret ws rm 0 0 n ∧ (Cond.static y).before args s = true) (hd : decode cc pc = .ok (.invokestatic index, 3)) : fx_Snd (fx_W p l e R s m args below meth c Q (fx_A q ly.length) 0 0 (fx_P D cl cA q ly) q nL) pc (fm_calls z n (fx_Met l D cl cA q ly nwl y ws rm z) (pc + 3)) := by
  intro k ls st S hk hf LS H locs hl hP hS
  obtain ⟨as, r, hn, rfl, hf1⟩ := fx_pn_e _ _ _ _ hf
  cases hb : Nat.ble r.length 8 with
  | false => rw [hb] at hf1; exact hf1.elim
  | true =>
    rw [hb] at hf1
    obtain ⟨post, hM, hf2⟩ := hf1
    rw [List.append_nil] at hM
    refine fx_call (va_runS (As := as.map (fx_v q)) (rest := r.map (fx_v q)) h.1 hM cw ⟨fx_blind hN, fun U hU hW => ⟨rfl, by rw [hU]; exact hP, va_K.moved hW.alike h.2.1, fun w hw => (hN w hw).2 s U hW (hnw w hw)⟩⟩ rfl (by rw [List.length_map]; exact hn) hl.1 fx_stk0 (lv_room (by rw [fx_cats]; exact Nat.le_of_ble_eq_true hb)) hd ⟨Nat.zero_le _, Nat.zero_le _⟩) hS (fun r' S' H1 locs1 hp hP1 hS1 => ?_)
    have := hk _ _ _ _ (hf2 r' S' hp) LS H1 locs1 hl hP1 hS1
    rw [fx_after] at this
    exact this
theorem fs_callSN (h : fx_C p s m args meth c cc nL Ts own D cl cA q ly.length) {nwl : List Cond} (hN : fx_N nwl) (hnw : ∀ w ∈ nwl, va_Nw w s) {host : String} {y : MethodName} {bytes : ByteArray} {maxL n index : Nat} {ret : Option FieldType} {ws : List Cond} {rm : Room} {z : Bool} (cw : va_CN R s args own index y host bytes maxL ret ws rm 0 0 n ∧ (Cond.static y).before args s = true) (hd : decode cc pc = .ok (.invokestatic index, 3)) : fx_Snd (fx_W p l e R s m args below meth c Q (fx_A q ly.length) 0 0 (fx_P D cl cA q ly) q nL) pc (fm_calls z n (fx_Met l D cl cA q ly nwl y ws rm z) (pc + 3)) := by
  intro k ls st S hk hf LS H locs hl hP hS
  obtain ⟨as, r, hn, rfl, hf1⟩ := fx_pn_e _ _ _ _ hf
  cases hb : Nat.ble r.length 8 with
  | false => rw [hb] at hf1; exact hf1.elim
  | true =>
    rw [hb] at hf1
    obtain ⟨post, hM, hf2⟩ := hf1
    rw [List.append_nil] at hM
    refine fx_call (va_runSN (As := as.map (fx_v q)) (rest := r.map (fx_v q)) h.1 hM ⟨cw.1, cw.2, trivial⟩ ⟨fx_blind hN, fun U hU hW => ⟨rfl, by rw [hU]; exact hP, va_K.moved hW.alike h.2.1, fun w hw => (hN w hw).2 s U hW (hnw w hw)⟩⟩ rfl (by rw [List.length_map]; exact hn) hl.1 fx_stk0 (lv_room (by rw [fx_cats]; exact Nat.le_of_ble_eq_true hb)) hd ⟨Nat.zero_le _, Nat.zero_le _⟩) hS (fun r' S' H1 locs1 hp hP1 hS1 => ?_)
    have := hk _ _ _ _ (hf2 r' S' hp) LS H1 locs1 hl hP1 hS1
    rw [fx_after] at this
    exact this
theorem fs_ret (h : fx_C p s m args meth c cc nL Ts own D cl cA q ly.length) {post : Int32 → fx_S → Prop} (hr : meth.sig.returnType = some .int) (hd : decode cc pc = .ok (.ireturn, 1)) : fx_Snd (fx_W p l e R s m args below meth c (MQ below (fx_Qc D cl cA q ly true post) args s 0 0 (fx_A q ly.length)) (fx_A q ly.length) 0 0 (fx_P D cl cA q ly) q nL) pc (fm_ret post) := by
  intro k ls st S hk hf LS H locs hl hP hS
  obtain ⟨x, r, rfl, hf1⟩ := fx_pi_e hf
  cases r with
  | cons a r => exact hf1.elim
  | nil => exact W.iret (v := x) h.1.1 h.1.2.1 hr (fun t ht hW => ⟨⟨x, S, rfl, hf1, by rw [ht]; exact hP⟩, hS.F ht⟩) hS.2.2 hd (hlocks := h.2.2.2)
theorem fs_zret (h : fx_C p s m args meth c cc nL Ts own D cl cA q ly.length) {post : Int32 → fx_S → Prop} (hr : meth.sig.returnType = some .boolean) (hd : decode cc pc = .ok (.ireturn, 1)) : fx_Snd (fx_W p l e R s m args below meth c (MQ below (fx_Qc D cl cA q ly true post) args s 0 0 (fx_A q ly.length)) (fx_A q ly.length) 0 0 (fx_P D cl cA q ly) q nL) pc (fm_zret post) := by
  intro k ls st S hk hf LS H locs hl hP hS
  obtain ⟨x, r, rfl, hf1⟩ := fx_pi_e hf
  cases r with
  | cons a r => exact hf1.elim
  | nil => exact W.zret (v := x) h.1.1 h.1.2.1 hr (fx_z hf1.1).1 (fun t ht hW => ⟨⟨x, S, rfl, hf1.2, by rw [ht]; exact hP⟩, hS.F ht⟩) hS.2.2 hd (hlocks := h.2.2.2)
theorem fs_vret (h : fx_C p s m args meth c cc nL Ts own D cl cA q ly.length) {post : Int32 → fx_S → Prop} (hr : meth.sig.returnType = none) (hd : decode cc pc = .ok (.return_, 1)) : fx_Snd (fx_W p l e R s m args below meth c (MQ below (fx_Qc D cl cA q ly false post) args s 0 0 (fx_A q ly.length)) (fx_A q ly.length) 0 0 (fx_P D cl cA q ly) q nL) pc (fm_vret post) := by
  intro k ls st S hk hf LS H locs hl hP hS
  cases st with
  | cons a r => exact hf.elim
  | nil => exact W.vret h.1.1 h.1.2.1 hr (fun t ht hW => ⟨⟨0, S, rfl, hf, by rw [ht]; exact hP⟩, hS.F ht⟩) hS.2.2 hd (hlocks := h.2.2.2)
theorem fs_table (h : fx_C p s m args meth c cc nL Ts own D cl cA q ly.length) {dflt lo hi : Int} {offs : Array Int} {len d : Nat} (n : Nat) {cs : List (Int32 × Nat)} (hd : decode cc pc = .ok (.tableswitch dflt lo hi offs, len)) (hn : hi < lo + n) (h1 : (List.range n).all (fun j => match offs[j]? with | some o => decide ((pc : Int) + o = (fx_tg (Int32.ofInt (lo + j)) cs d : Int)) | none => false) = true) (h2 : cs.all (fun x => decide (lo ≤ x.1.toInt ∧ x.1.toInt ≤ hi)) = true) (h3 : (pc : Int) + dflt = (d : Int)) : fx_Snd (fx_W p l e R s m args below meth c Q (fx_A q ly.length) 0 0 (fx_P D cl cA q ly) q nL) pc (fm_sw cs d) := by
  intro k ls st S hk hf LS H locs hl hP hS
  obtain ⟨x, r, rfl, hf1⟩ := fx_pi_e hf
  have hf2 := fx_sw_tg _ _ _ hf1
  by_cases ho : x.toInt < lo ∨ hi < x.toInt
  · have he : fx_tg x cs d = d := fx_tg_out cs d (fun c0 hc0 he => by
      have := of_decide_eq_true (List.all_eq_true.mp h2 c0 hc0)
      rw [← he] at this
      omega)
    rw [he] at hf2
    exact lv_tableOut h.1.1 h.1.2.1 hd ho h3 (hk _ _ _ _ hf2 LS H locs hl hP hS)
  · have hx : lo + ((x.toInt - lo).toNat : Int) = x.toInt := by omega
    have hlt : (x.toInt - lo).toNat < n := by omega
    have h9 := List.all_eq_true.mp h1 _ (List.mem_range.mpr hlt)
    rw [hx, Int32.ofInt_toInt] at h9
    cases ho2 : offs[(x.toInt - lo).toNat]? with
    | none => rw [ho2] at h9; cases h9
    | some o =>
      rw [ho2] at h9
      exact lv_tableIn h.1.1 h.1.2.1 hd (by omega) (by omega) ho2 (of_decide_eq_true h9) (hk _ _ _ _ hf2 LS H locs hl hP hS)
def fx_lok (pc : Nat) (dflt : Int) (d : Nat) : List (Int × Int) → List (Int32 × Nat) → Bool
  | [], [] => decide ((pc : Int) + dflt = (d : Int))
  | (a, o) :: ps, (b, t) :: cs => decide (b.toInt = a) && (decide ((pc : Int) + o = (t : Int)) && fx_lok pc dflt d ps cs)
  | _, _ => false
theorem fx_lok_ok {pc : Nat} {dflt : Int} {d : Nat} {x : Int32} : ∀ (ps : List (Int × Int)) (cs : List (Int32 × Nat)), fx_lok pc dflt d ps cs = true → (pc : Int) + Op.lookupswitch.offset ps dflt x.toInt = (fx_tg x cs d : Int)
  | [], [], h => of_decide_eq_true h
  | [], _ :: _, h => by cases h
  | _ :: _, [], h => by cases h
  | (a, o) :: ps, (b, t) :: cs, h => by
    simp only [fx_lok, Bool.and_eq_true, decide_eq_true_eq] at h
    rw [Op.lookupswitch.offset_cons]
    unfold fx_tg
    by_cases hx : x = b
    · rw [if_pos hx, if_pos (by rw [hx]; exact h.1.symm)]; exact h.2.1
    · rw [if_neg hx, if_neg (fun hq => hx (Int32.toInt_inj.mp (by rw [h.1]; exact hq.symm)))]
      exact fx_lok_ok ps cs h.2.2
theorem fs_lookup (h : fx_C p s m args meth c cc nL Ts own D cl cA q ly.length) {dflt : Int} {ps : Array (Int × Int)} {len d : Nat} {cs : List (Int32 × Nat)} (hd : decode cc pc = .ok (.lookupswitch dflt ps, len)) (hp : (ps.toList.zip (ps.toList.drop 1)).all (fun (a, next) => a.1 < next.1) = true) (h1 : fx_lok pc dflt d ps.toList cs = true) : fx_Snd (fx_W p l e R s m args below meth c Q (fx_A q ly.length) 0 0 (fx_P D cl cA q ly) q nL) pc (fm_sw cs d) := by
  intro k ls st S hk hf LS H locs hl hP hS
  obtain ⟨x, r, rfl, hf1⟩ := fx_pi_e hf
  have hf2 := fx_sw_tg _ _ _ hf1
  exact lv_lookup h.1.1 h.1.2.1 hd hp rfl (fx_lok_ok _ _ h1) (hk _ _ _ _ hf2 LS H locs hl hP hS)
def fm_max (nx : Nat) : fx_M fx_S := fun k ls st S => fx_pi st fun y st => fx_pi st fun x st => bif Nat.ble st.length 8 then k nx ls (.inl (fx_max x y) :: st) S else False
theorem fs_max (h : fx_C p s m args meth c cc nL Ts own D cl cA q ly.length) {index : Nat} (hlink : (Cond.methodLink own index Lib.Math.max.name).before args s = true) (hstat : (Cond.static Lib.Math.max.name).before args s = true) (hini : (Cond.initialized "java/lang/Math").before args s = true) (hcode : (Cond.code Lib.Math.max.name Lib.Math.max.code 2 (some .int)).before args s = true) (hfr : 1 ≤ R.frames) (hlo : 21 ≤ R.locals) (hd : decode cc pc = .ok (.invokestatic index, 3)) : fx_Snd (fx_W p l e R s m args below meth c Q (fx_A q ly.length) 0 0 (fx_P D cl cA q ly) q nL) pc (fm_max (pc + 3)) := by
  intro k ls st S hk hf LS H locs hl hP hS
  obtain ⟨y, r, rfl, hf1⟩ := fx_pi_e hf
  obtain ⟨x, r, rfl, hf2⟩ := fx_pi_e hf1
  cases hb : Nat.ble r.length 8 with
  | false => rw [hb] at hf2; exact hf2.elim
  | true =>
    rw [hb] at hf2
    have hb := Nat.le_of_ble_eq_true hb
    exact va_mmax h.1.1 h.1.2.1 (h.1.2.2.1.trans hl.1.symm) h.1.2.2.2.1 hlink hstat hini hcode hfr (by rw [fx_cats]; omega) (Nat.zero_le _) (Nat.zero_le _) hd (hk _ _ _ _ hf2 LS H locs hl hP hS)
end FXT
/-- a contract, out of the walk of its body -/
theorem fx_Met_of {l : Launch} {D : va_G} {cl : List vw_C} {cA : Nat → ClassId} {q : Nat → Nat} {ly : fx_L} {nwl : List Cond} {y : MethodName} {ws ws' : List Cond} {rm : Room} {cc : ByteArray} {nL : Nat} {ret : Option FieldType} {z : Bool} {av : List fx_V} {S : fx_S} {post : Int32 → fx_S → Prop} (hy : plainName y.cls = true) (hw : ws = Cond.code y cc nL ret :: ws') (hq : ∀ i j, i < ly.length → j < ly.length → q i = q j → i = j) (hlen : av.length ≤ nL)
    (body : ∀ (p : Program) (e : Env) (s : State) (m : MethodId) (args : Array Value) (below : List Frame) (meth : Method) (c : Code), fx_C p s m args meth c cc nL ws y.cls D cl cA q ly.length → meth.sig.returnType = ret → (∀ w ∈ nwl, va_Nw w s) → fx_W p l e rm s m args below meth c (MQ below (fx_Qc D cl cA q ly z post) args s 0 0 (fx_A q ly.length)) (fx_A q ly.length) 0 0 (fx_P D cl cA q ly) q nL 0 av [] S) : fx_Met l D cl cA q ly nwl y ws rm z av S post := by
  refine Met.ofW (cc := cc) (maxL := nL) (ret := ret) hy hw ?_
  intro p e s m args below meth c s₁ B hml hv
  obtain ⟨rfl, hP, hK, hnw⟩ := hv
  have hown : s.vm.findClass y.cls = some m.cls := findClass_of_methodNamed B.named
  have hl := lv_entry (av.map (fx_v q)) (n := nL) (by rw [fx_sl_len]; exact hlen)
  rw [lg_entry_eq]
  refine body p e s m _ below meth c ⟨⟨B.exec, B.bytes, hml, hown, atoms_spec (ws := ws) B.pre⟩, hK, hq, B.notSynchronized⟩ B.returns hnw _ s.heap [] (fx_has_mono hl (fun x hx => ?_)) hP va_S.rf
  obtain ⟨i, v, hi, rfl⟩ := fx_ls_mem.mp hx
  have := fx_args_mem (q := q) av 0 i v hi
  simpa using this
end
section
/-! ===== Int32 by its bits: bt x i ===== -/
def bt (x : Int32) (i : Nat) : Bool := x.toBitVec.getLsbD i
theorem b_ext {x y : Int32} (h : ∀ i, i < 32 → bt x i = bt y i) : x = y := Int32.toBitVec_inj.mp (BitVec.eq_of_getLsbD_eq (fun i hi => h i hi))
theorem b_or (x y : Int32) (i : Nat) : bt (x ||| y) i = (bt x i || bt y i) := by unfold bt; rw [Int32.toBitVec_or, BitVec.getLsbD_or]
theorem b_and (x y : Int32) (i : Nat) : bt (x &&& y) i = (bt x i && bt y i) := by unfold bt; rw [Int32.toBitVec_and, BitVec.getLsbD_and]
theorem b_xor (x y : Int32) (i : Nat) : bt (x ^^^ y) i = (bt x i ^^ bt y i) := by unfold bt; rw [Int32.toBitVec_xor, BitVec.getLsbD_xor]
theorem b_big {x : Int32} {i : Nat} (h : 32 ≤ i) : bt x i = false := BitVec.getLsbD_of_ge _ _ h
theorem b_255 (i : Nat) : bt 255 i = decide (i < 8) := by
  rcases Nat.lt_or_ge i 32 with h | h
  · exact (by decide +kernel : ∀ i, i < 32 → bt 255 i = decide (i < 8)) i h
  · rw [b_big h, decide_eq_false (by omega)]
theorem b_m1 : ∀ i, i < 32 → bt (-1) i = true := by decide +kernel
theorem b_0 (i : Nat) : bt 0 i = false := BitVec.getLsbD_zero
theorem s_l : ∀ n, n < 32 → ((nI n &&& 31).toBitVec.smod 32).toNat = n := by decide +kernel
theorem s_u : ∀ n, n < 32 → (((nI n).toUInt32 &&& Int32.toUInt32 31).toBitVec % 32).toNat = n := by decide +kernel
theorem b_shl (n : Nat) (hn : n < 32) (x : Int32) {i : Nat} (hi : i < 32) : bt (x <<< (nI n &&& 31)) i = (decide (n ≤ i) && bt x (i - n)) := by
  unfold bt
  rw [Int32.toBitVec_shiftLeft]
  show (x.toBitVec <<< ((nI n &&& 31).toBitVec.smod 32).toNat).getLsbD i = _
  rw [s_l n hn, BitVec.getLsbD_shiftLeft]
  rcases Nat.lt_or_ge i n with h | h
  · simp [h, Nat.not_le.mpr h]
  · simp [hi, h, Nat.not_lt.mpr h]
theorem b_ushr (n : Nat) (hn : n < 32) (x : Int32) (i : Nat) : bt ((x.toUInt32 >>> ((nI n).toUInt32 &&& Int32.toUInt32 31)).toInt32) i = bt x (n + i) := by
  show (x.toUInt32 >>> ((nI n).toUInt32 &&& Int32.toUInt32 31)).toBitVec.getLsbD i = x.toUInt32.toBitVec.getLsbD (n + i)
  rw [UInt32.toBitVec_shiftRight]
  show (x.toUInt32.toBitVec >>> (((nI n).toUInt32 &&& Int32.toUInt32 31).toBitVec % 32).toNat).getLsbD i = _
  rw [s_u n hn, BitVec.getLsbD_ushiftRight]
theorem b_sshr (n : Nat) (hn : n < 32) (x : Int32) {i : Nat} (hi : i < 32) : bt (x >>> (nI n &&& 31)) i = if n + i < 32 then bt x (n + i) else bt x 31 := by
  unfold bt
  rw [Int32.toBitVec_shiftRight]
  show (x.toBitVec.sshiftRight ((nI n &&& 31).toBitVec.smod 32).toNat).getLsbD i = _
  rw [s_l n hn, BitVec.getLsbD_sshiftRight, BitVec.msb_eq_getLsbD_last]
  simp [hi]
/-! sets of small numbers as masks -/
theorem b_1 : ∀ i, i < 32 → bt 1 i = decide (i = 0) := by decide +kernel
abbrev px_b (k : Nat) : Int32 := 1 <<< (nI k &&& 31)
abbrev px_in (x k : Int32) : Prop := ¬ (x >>> (k &&& 31)) &&& 1 = 0
abbrev px_sub (a b : Int32) : Prop := a &&& (b ^^^ (-1)) = 0
def px_z (P : Prop) [Decidable P] : Int32 := if P then 1 else 0
theorem px_z_t {P : Prop} [Decidable P] (h : P) : px_z P = 1 := if_pos h
theorem px_z_f {P : Prop} [Decidable P] (h : ¬ P) : px_z P = 0 := if_neg h
theorem px_z01 (P : Prop) [Decidable P] : px_z P = 0 ∨ px_z P = 1 := by
  unfold px_z; by_cases h : P
  · rw [if_pos h]; exact Or.inr rfl
  · rw [if_neg h]; exact Or.inl rfl
theorem px_z_eq0 {P : Prop} [Decidable P] : px_z P = 0 ↔ ¬ P := by
  unfold px_z; by_cases h : P
  · rw [if_pos h]; exact ⟨fun q => absurd q (by decide), fun q => absurd h q⟩
  · rw [if_neg h]; exact ⟨fun _ => h, fun _ => rfl⟩
theorem px_z_congr {P Q : Prop} [Decidable P] [Decidable Q] (h : P ↔ Q) : px_z P = px_z Q := by
  unfold px_z; by_cases hp : P
  · rw [if_pos hp, if_pos (h.mp hp)]
  · rw [if_neg hp, if_neg (fun q => hp (h.mpr q))]
theorem px_and1 (y : Int32) : y &&& 1 = 0 ↔ bt y 0 = false := by
  constructor
  · intro h
    have h1 := congrArg (fun z => bt z 0) h
    simp only [b_and, b_0] at h1
    rw [b_1 0 (by omega)] at h1
    simpa using h1
  · intro h
    apply b_ext
    intro i hi
    rw [b_and, b_1 i hi, b_0]
    by_cases h0 : i = 0
    · subst h0; simp [h]
    · simp [h0]
theorem px_in_bt {x : Int32} {k : Nat} (hk : k < 32) : px_in x (nI k) ↔ bt x k = true := by
  unfold px_in
  rw [px_and1, b_sshr k hk x (by omega), if_pos (by omega), Nat.add_zero]
  cases bt x k <;> simp
theorem px_b_bt {k i : Nat} (hk : k < 32) (hi : i < 32) : bt (px_b k) i = decide (i = k) := by
  unfold px_b
  rw [b_shl k hk 1 hi]
  by_cases h : k ≤ i
  · rw [b_1 (i - k) (by omega)]
    by_cases h2 : i = k
    · simp [h2]
    · simp [h2]; omega
  · simp [h]; omega
theorem px_not_bt {x : Int32} {i : Nat} (hi : i < 32) : bt (x ^^^ (-1)) i = !bt x i := by
  rw [b_xor, b_m1 i hi]; cases bt x i <;> rfl
theorem px_sub_bt {a b : Int32} : px_sub a b ↔ ∀ i, i < 32 → bt a i = true → bt b i = true := by
  unfold px_sub
  constructor
  · intro h i hi ha
    have h1 := congrArg (fun z => bt z i) h
    simp only [b_and, b_0, px_not_bt hi, ha, Bool.true_and] at h1
    cases hb : bt b i with
    | true => rfl
    | false => rw [hb] at h1; cases h1
  · intro h
    apply b_ext
    intro i hi
    rw [b_and, b_0, px_not_bt hi]
    cases ha : bt a i with
    | false => rfl
    | true => rw [h i hi ha]; rfl
theorem px_and0_bt {a b : Int32} : a &&& b = 0 ↔ ∀ i, i < 32 → bt a i = true → bt b i = false := by
  constructor
  · intro h i hi ha
    have h1 := congrArg (fun z => bt z i) h
    simp only [b_and, b_0, ha, Bool.true_and] at h1
    exact h1
  · intro h
    apply b_ext
    intro i hi
    rw [b_and, b_0]
    cases ha : bt a i with
    | false => rfl
    | true => rw [h i hi ha]; rfl
theorem px_ne0_bt {a : Int32} : a ≠ 0 ↔ ∃ i, i < 32 ∧ bt a i = true := by
  constructor
  · intro h
    refine Classical.byContradiction fun hn => h ?_
    apply b_ext
    intro i hi
    rw [b_0]
    cases ha : bt a i with
    | false => rfl
    | true => exact absurd ⟨i, hi, ha⟩ hn
  · rintro ⟨i, hi, h⟩ rfl
    rw [b_0] at h; cases h
theorem px_z_ne0 {P : Prop} [Decidable P] : ¬ px_z P = 0 ↔ P := by
  rw [px_z_eq0]; exact Decidable.not_not
end
section
/-! n + 1 numbers below n: two of them are the same -/
theorem pg_hole : ∀ (n : Nat) (f : Nat → Nat), (∀ i, i < n + 1 → f i < n) → ∃ i j, i < j ∧ j < n + 1 ∧ f i = f j
  | 0, f, h => absurd (h 0 (by omega)) (by omega)
  | n + 1, f, h => by
    by_cases hv : ∃ i, i < n + 1 ∧ f i = f (n + 1)
    · obtain ⟨i, h1, h2⟩ := hv
      exact ⟨i, n + 1, h1, by omega, h2⟩
    · have hne : ∀ i, i < n + 1 → f i ≠ f (n + 1) := fun i hi he => hv ⟨i, hi, he⟩
      obtain ⟨i, j, hij, hj, he⟩ := pg_hole n (fun i => if f i = n then f (n + 1) else f i) (fun i hi => by
        have h1 := h i (by omega)
        have h2 := h (n + 1) (by omega)
        have h3 := hne i hi
        show (if f i = n then f (n + 1) else f i) < n
        by_cases hq : f i = n
        · rw [if_pos hq]; omega
        · rw [if_neg hq]; omega)
      have h3 := hne i (by omega)
      have h4 := hne j hj
      refine ⟨i, j, hij, by omega, ?_⟩
      have he : (if f i = n then f (n + 1) else f i) = (if f j = n then f (n + 1) else f j) := he
      by_cases h5 : f i = n
      · by_cases h6 : f j = n
        · rw [h5, h6]
        · rw [if_pos h5, if_neg h6] at he; exact absurd he.symm h4
      · by_cases h6 : f j = n
        · rw [if_neg h5, if_pos h6] at he; exact absurd he h3
        · rw [if_neg h5, if_neg h6] at he; exact he
/-- a situation's steps outside the set t, below n, with a 1 ahead -/
def pg_e (s t : Nat → Bool) : Nat → Nat
  | 0 => 1
  | n + 1 => if t n = true then pg_e s t n else 2 * pg_e s t n + (if s n = true then 1 else 0)
def pg_c (t : Nat → Bool) : Nat → Nat
  | 0 => 0
  | n + 1 => if t n = true then pg_c t n else pg_c t n + 1
theorem pg_e_in (s t : Nat → Bool) : ∀ n, 2 ^ pg_c t n ≤ pg_e s t n ∧ pg_e s t n < 2 ^ (pg_c t n + 1)
  | 0 => by simp [pg_c, pg_e]
  | n + 1 => by
    have ih := pg_e_in s t n
    unfold pg_c pg_e
    by_cases h : t n = true
    · rw [if_pos h, if_pos h]; exact ih
    · rw [if_neg h, if_neg h]
      have e1 : 2 ^ (pg_c t n + 1) = 2 * 2 ^ pg_c t n := by rw [Nat.pow_succ]; omega
      have e2 : 2 ^ (pg_c t n + 1 + 1) = 2 * 2 ^ (pg_c t n + 1) := by rw [Nat.pow_succ]; omega
      have e3 : (if s n = true then 1 else 0 : Nat) ≤ 1 := by by_cases hs : s n = true <;> simp [hs]
      omega
theorem pg_c_le (t : Nat → Bool) : ∀ n, pg_c t n ≤ n
  | 0 => by simp [pg_c]
  | n + 1 => by
    have ih := pg_c_le t n
    unfold pg_c
    by_cases h : t n = true
    · rw [if_pos h]; omega
    · rw [if_neg h]; omega
theorem pg_c_mono {t t' : Nat → Bool} : ∀ n, (∀ i, i < n → t' i = true → t i = true) → pg_c t n ≤ pg_c t' n ∧ (pg_c t n = pg_c t' n → ∀ i, i < n → t i = t' i)
  | 0, _ => ⟨by simp [pg_c], fun _ i hi => by omega⟩
  | n + 1, h => by
    obtain ⟨h1, h2⟩ := pg_c_mono n (fun i hi => h i (by omega))
    have h3 := h n (by omega)
    unfold pg_c
    by_cases ht : t n = true
    · by_cases ht' : t' n = true
      · rw [if_pos ht, if_pos ht']
        refine ⟨h1, fun he i hi => ?_⟩
        by_cases hin : i = n
        · subst hin; rw [ht, ht']
        · exact h2 he i (by omega)
      · rw [if_pos ht, if_neg ht']
        exact ⟨by omega, fun he => by omega⟩
    · have ht' : ¬ t' n = true := fun q => ht (h3 q)
      rw [if_neg ht, if_neg ht']
      refine ⟨by omega, fun he i hi => ?_⟩
      by_cases hin : i = n
      · subst hin
        rw [Bool.not_eq_true] at ht ht'
        rw [ht, ht']
      · exact h2 (by omega) i (by omega)
theorem pg_e_inj {s s' t t' : Nat → Bool} : ∀ n, (∀ i, i < n → t i = t' i) → (∀ i, i < n → t i = true → s i = true) → (∀ i, i < n → t' i = true → s' i = true) → pg_e s t n = pg_e s' t' n → ∀ i, i < n → s i = s' i
  | 0, _, _, _, _ => fun i hi => by omega
  | n + 1, ht, hs, hs', he => by
    unfold pg_e at he
    have htn := ht n (by omega)
    intro i hi
    by_cases h : t n = true
    · have h' : t' n = true := by rw [← htn]; exact h
      rw [if_pos h, if_pos h'] at he
      by_cases hin : i = n
      · subst hin; rw [hs i (by omega) h, hs' i (by omega) h']
      · exact pg_e_inj n (fun i hi => ht i (by omega)) (fun i hi => hs i (by omega)) (fun i hi => hs' i (by omega)) he i (by omega)
    · have h' : ¬ t' n = true := by rw [← htn]; exact h
      rw [if_neg h, if_neg h'] at he
      have e3 : (if s n = true then 1 else 0 : Nat) ≤ 1 := by by_cases hs : s n = true <;> simp [hs]
      have e4 : (if s' n = true then 1 else 0 : Nat) ≤ 1 := by by_cases hs : s' n = true <;> simp [hs]
      have e5 : pg_e s t n = pg_e s' t' n := by omega
      have e6 : (if s n = true then 1 else 0 : Nat) = (if s' n = true then 1 else 0) := by omega
      by_cases hin : i = n
      · subst hin
        by_cases h1 : s i = true
        · rw [if_pos h1] at e6
          by_cases h2 : s' i = true
          · rw [h1, h2]
          · rw [if_neg h2] at e6; omega
        · rw [if_neg h1] at e6
          by_cases h2 : s' i = true
          · rw [if_pos h2] at e6; omega
          · rw [Bool.not_eq_true] at h1 h2; rw [h1, h2]
      · exact pg_e_inj n (fun i hi => ht i (by omega)) (fun i hi => hs i (by omega)) (fun i hi => hs' i (by omega)) e5 i (by omega)
/-- of 512 pairs (s, t) of sets of numbers below 8, t in s, the t's falling, two are the same -/
theorem pg_512 (s t : Nat → Nat → Bool) (hsub : ∀ k i, i < 8 → t k i = true → s k i = true) (hfall : ∀ k i, i < 8 → t (k + 1) i = true → t k i = true) : ∃ i j, i < j ∧ j < 512 ∧ ∀ b, b < 8 → s i b = s j b ∧ t i b = t j b := by
  have hf : ∀ (d k i : Nat), i < 8 → t (k + d) i = true → t k i = true := by
    intro d
    induction d with
    | zero => intro k i _ h; exact h
    | succ d ih => intro k i hi h; exact ih k i hi (hfall (k + d) i hi h)
  have hb : ∀ k, 1 ≤ pg_e (s k) (t k) 8 ∧ pg_e (s k) (t k) 8 < 512 := by
    intro k
    have h1 := pg_e_in (s k) (t k) 8
    have h2 := pg_c_le (t k) 8
    have h3 : 2 ^ (pg_c (t k) 8 + 1) ≤ 2 ^ 9 := Nat.pow_le_pow_right (by omega) (by omega)
    have h4 : 1 ≤ 2 ^ pg_c (t k) 8 := Nat.one_le_two_pow
    omega
  obtain ⟨i, j, hij, hj, he⟩ := pg_hole 511 (fun k => pg_e (s k) (t k) 8 - 1) (fun k _ => by
    have := hb k
    show pg_e (s k) (t k) 8 - 1 < 511
    omega)
  have h1 := hb i
  have h2 := hb j
  have he : pg_e (s i) (t i) 8 - 1 = pg_e (s j) (t j) 8 - 1 := he
  have he : pg_e (s i) (t i) 8 = pg_e (s j) (t j) 8 := by omega
  have hsub2 : ∀ b, b < 8 → t j b = true → t i b = true := fun b hb0 h => hf (j - i) i b hb0 (by rw [show i + (j - i) = j by omega]; exact h)
  obtain ⟨hc1, hc2⟩ := pg_c_mono (t := t i) (t' := t j) 8 hsub2
  have g1 := pg_e_in (s i) (t i) 8
  have g2 := pg_e_in (s j) (t j) 8
  have hceq : pg_c (t i) 8 = pg_c (t j) 8 := by
    refine Nat.le_antisymm hc1 ?_
    refine Nat.not_lt.mp fun hlt => ?_
    have h3 : 2 ^ (pg_c (t i) 8 + 1) ≤ 2 ^ pg_c (t j) 8 := Nat.pow_le_pow_right (by omega) (by omega)
    omega
  have ht := hc2 hceq
  have hs := pg_e_inj 8 ht (hsub i) (hsub j) he
  exact ⟨i, j, hij, by omega, fun b hb0 => ⟨hs b hb0, ht b hb0⟩⟩
/-! rounds that only add: eight of them come to rest in a set of eight -/
def cl_n (x : Int32) : Nat → Nat
  | 0 => 0
  | k + 1 => cl_n x k + (if bt x k = true then 1 else 0)
theorem cl_n_le (x : Int32) : ∀ k, cl_n x k ≤ k
  | 0 => by simp [cl_n]
  | k + 1 => by
    have := cl_n_le x k
    unfold cl_n
    by_cases h : bt x k = true
    · rw [if_pos h]; omega
    · rw [if_neg h]; omega
theorem cl_n_mono {x y : Int32} : ∀ k, (∀ i, i < k → bt x i = true → bt y i = true) → cl_n x k ≤ cl_n y k ∧ (cl_n x k = cl_n y k → ∀ i, i < k → bt x i = bt y i)
  | 0, _ => ⟨by simp [cl_n], fun _ i hi => by omega⟩
  | k + 1, h => by
    obtain ⟨h1, h2⟩ := cl_n_mono k (fun i hi => h i (by omega))
    have h3 := h k (by omega)
    unfold cl_n
    by_cases hx : bt x k = true
    · have hy := h3 hx
      rw [if_pos hx, if_pos hy]
      refine ⟨by omega, fun he i hi => ?_⟩
      by_cases hik : i = k
      · subst hik; rw [hx, hy]
      · exact h2 (by omega) i (by omega)
    · by_cases hy : bt y k = true
      · rw [if_neg hx, if_pos hy]; exact ⟨by omega, fun he => by omega⟩
      · rw [if_neg hx, if_neg hy]
        refine ⟨by omega, fun he i hi => ?_⟩
        by_cases hik : i = k
        · subst hik; rw [Bool.not_eq_true] at hx hy; rw [hx, hy]
        · exact h2 (by omega) i (by omega)
def cl_it (F : Int32 → Int32) : Nat → Int32 → Int32
  | 0, r => r
  | n + 1, r => F (cl_it F n r)
theorem px_sub_rf (a : Int32) : px_sub a a := px_sub_bt.mpr (fun _ _ h => h)
theorem px_sub_tr {a b c : Int32} (h1 : px_sub a b) (h2 : px_sub b c) : px_sub a c := px_sub_bt.mpr (fun i hi h => px_sub_bt.mp h2 i hi (px_sub_bt.mp h1 i hi h))
theorem px_sub_as {a b : Int32} (h1 : px_sub a b) (h2 : px_sub b a) : a = b := by
  apply b_ext
  intro i hi
  have e1 := px_sub_bt.mp h1 i hi
  have e2 := px_sub_bt.mp h2 i hi
  cases ha : bt a i with
  | true => rw [e1 ha]
  | false =>
    cases hb : bt b i with
    | true => rw [e2 hb] at ha; cases ha
    | false => rfl
theorem px_sub_or {a b c : Int32} : px_sub (a ||| b) c ↔ px_sub a c ∧ px_sub b c := by
  rw [px_sub_bt, px_sub_bt, px_sub_bt]
  constructor
  · intro h
    exact ⟨fun i hi ha => h i hi (by rw [b_or, ha]; rfl), fun i hi hb => h i hi (by rw [b_or, hb]; cases bt a i <;> rfl)⟩
  · intro h i hi hab
    rw [b_or] at hab
    cases ha : bt a i with
    | true => exact h.1 i hi ha
    | false => rw [ha] at hab; exact h.2 i hi hab
theorem px_sub_l (a b : Int32) : px_sub a (a ||| b) := (px_sub_or.mp (px_sub_rf (a ||| b))).1
theorem px_sub_r (a b : Int32) : px_sub b (a ||| b) := (px_sub_or.mp (px_sub_rf (a ||| b))).2
/-- a set of numbers below 8 -/
def cl_8 (x : Int32) : Prop := ∀ i, 8 ≤ i → i < 32 → bt x i = false
theorem cl_8_sub {a b : Int32} (h : px_sub a b) (hb : cl_8 b) : cl_8 a := by
  intro i h1 h2
  cases ha : bt a i with
  | false => rfl
  | true => rw [← px_sub_bt.mp h i h2 ha]; exact hb i h1 h2
theorem cl_grow {a b : Int32} (h : px_sub a b) (hb : cl_8 b) : a = b ∨ cl_n a 8 < cl_n b 8 := by
  obtain ⟨h1, h2⟩ := cl_n_mono (x := a) (y := b) 8 (fun i hi => px_sub_bt.mp h i (by omega))
  by_cases he : cl_n a 8 = cl_n b 8
  · left
    apply b_ext
    intro i hi
    by_cases h8 : i < 8
    · exact h2 he i h8
    · rw [hb i (by omega) hi, cl_8_sub h hb i (by omega) hi]
  · right; omega
theorem cl_rest {F : Int32 → Int32} {M r : Int32} (hM : cl_8 M) (hinf : ∀ x, px_sub x (F x)) (hin : ∀ x, px_sub x M → px_sub (F x) M) (hr : px_sub r M) : ∀ n, px_sub (cl_it F n r) M ∧ (F (cl_it F n r) = cl_it F n r ∨ n < cl_n (F (cl_it F n r)) 8 + 0)
  | 0 => by
    refine ⟨hr, ?_⟩
    rcases cl_grow (hinf r) (cl_8_sub (hin r hr) hM) with h | h
    · exact Or.inl h.symm
    · right; show 0 < cl_n (F r) 8 + 0; omega
  | n + 1 => by
    obtain ⟨h1, h2⟩ := cl_rest hM hinf hin hr n
    have h3 : px_sub (cl_it F (n + 1) r) M := hin _ h1
    refine ⟨h3, ?_⟩
    rcases cl_grow (hinf (cl_it F (n + 1) r)) (cl_8_sub (hin _ h3) hM) with h | h
    · exact Or.inl h.symm
    · rcases h2 with h2 | h2
      · left
        show F (F (cl_it F n r)) = F (cl_it F n r)
        rw [h2, h2]
      · right
        have : cl_n (cl_it F (n + 1) r) 8 = cl_n (F (cl_it F n r)) 8 := rfl
        omega
theorem cl_rest8 {F : Int32 → Int32} {M r : Int32} (hM : cl_8 M) (hinf : ∀ x, px_sub x (F x)) (hin : ∀ x, px_sub x M → px_sub (F x) M) (hr : px_sub r M) (n : Nat) (hn : 8 ≤ n) : F (cl_it F n r) = cl_it F n r := by
  rcases (cl_rest hM hinf hin hr n).2 with h | h
  · exact h
  · have := cl_n_le (F (cl_it F n r)) 8
    omega
theorem cl_it_sub {F : Int32 → Int32} {r : Int32} (hinf : ∀ x, px_sub x (F x)) : ∀ n, px_sub r (cl_it F n r)
  | 0 => px_sub_rf r
  | n + 1 => px_sub_tr (cl_it_sub hinf n) (hinf _)
theorem cl_it_in {F : Int32 → Int32} {r c : Int32} (hc : ∀ x, px_sub x c → px_sub (F x) c) (hr : px_sub r c) : ∀ n, px_sub (cl_it F n r) c
  | 0 => hr
  | n + 1 => hc _ (cl_it_in hc hr n)
/-- two kinds of rounds that rest in the same sets come to the same set -/
theorem cl_same {F G : Int32 → Int32} {M r : Int32} {closed : Int32 → Prop} (hM : cl_8 M) (hr : px_sub r M) (f1 : ∀ x, px_sub x (F x)) (f2 : ∀ c x, closed c → px_sub x c → px_sub (F x) c) (f3 : ∀ x, F x = x → closed x) (f4 : ∀ x, px_sub x M → px_sub (F x) M) (g1 : ∀ x, px_sub x (G x)) (g2 : ∀ c x, closed c → px_sub x c → px_sub (G x) c) (g3 : ∀ x, G x = x → closed x) (g4 : ∀ x, px_sub x M → px_sub (G x) M) (n m : Nat) (hn : 8 ≤ n) (hm : 8 ≤ m) : cl_it F n r = cl_it G m r := by
  have a1 := f3 _ (cl_rest8 hM f1 f4 hr n hn)
  have a2 := g3 _ (cl_rest8 hM g1 g4 hr m hm)
  exact px_sub_as (cl_it_in (fun x hx => f2 _ x a2 hx) (cl_it_sub g1 m) n) (cl_it_in (fun x hx => g2 _ x a1 hx) (cl_it_sub f1 n) m)
/-! the pure picture: what the loops of both programs compute, as functions of rows (Nat → Int32) and masks -/
def pf_part (po : Nat → Int32) (p : Int32) : Nat → Int32
  | 0 => 0
  | k + 1 => if po k = p then pf_part po p k ||| px_b k else pf_part po p k
def pf_ini (it : Nat → Int32) : Nat → Int32
  | 0 => 0
  | k + 1 => if it k = 0 then pf_ini it k else pf_ini it k ||| px_b k
/-- the transitions below n whose preceding steps are all in si -/
def pf_en (bf : Nat → Int32) (si : Int32) : Nat → Int32
  | 0 => 0
  | k + 1 => if px_sub (bf k) si then pf_en bf si k ||| px_b k else pf_en bf si k
def pf_due (cd : Nat → Int32) (tr s0 : Int32) : Nat → Int32
  | 0 => s0
  | k + 1 => if px_in tr (cd k) then pf_due cd tr s0 k else pf_due cd tr s0 k &&& (px_b k ^^^ (-1))
/-- without rivals: the set, and the steps taken -/
def pf_wr (bf : Nat → Int32) (du : Int32) : Nat → Int32 × Int32
  | 0 => (0, 0)
  | k + 1 => if px_in du (nI k) ∧ bf k &&& (pf_wr bf du k).2 = 0 then ((pf_wr bf du k).1 ||| px_b k, (pf_wr bf du k).2 ||| bf k) else pf_wr bf du k
def pf_un (en : Nat → Int32) (se : Int32) : Nat → Int32
  | 0 => 0
  | k + 1 => if px_in se (nI k) then pf_un en se k ||| en k else pf_un en se k
/-- the first order from k on, of j, that rules over the part p when the steps si are active; -1 if none -/
def pf_rul (pt gv : Nat → Int32) (p si : Int32) : Nat → Nat → Int32
  | 0, _ => -1
  | j + 1, k => if pt k = p ∧ px_in si (gv k) then nI k else pf_rul pt gv p si j (k + 1)
def pf_fo (fx fr : Int32) : Int32 := if fx = -1 then fr else fx
def pf_fix (gv fx : Nat → Int32) (se : Int32) : Nat → Int32
  | 0 => 0
  | k + 1 => if px_in se (gv k) then pf_fix gv fx se k ||| pf_fo (fx k) 0 else pf_fix gv fx se k
/-- the time of a step in a scan: what it was at the begin, while it is in ti -/
def pf_tm (ti : Int32) (tb : Nat → Int32) (a : Int32) : Int32 := if px_in ti a then tb a.toNatClampNeg else 0
def pf_ho (kd a b : Int32) (inp ri fa si ti : Int32) (tb : Nat → Int32) (tr : Int32) : Bool :=
  if kd = 0 then decide (px_in inp a) else if kd = 1 then decide (px_in ri a) else if kd = 2 then decide (px_in fa a) else if kd = 3 then decide (px_in si a) else if kd = 4 then decide (px_in si a ∧ b ≤ pf_tm ti tb a) else if kd = 5 then decide (¬ px_in tr a) else if kd = 6 then decide (px_in tr a ∧ px_in tr b) else decide (px_in tr a ∨ px_in tr b)
/-- the true expressions below k -/
def pf_tr (kd ea eb : Nat → Int32) (inp ri fa si ti : Int32) (tb : Nat → Int32) : Nat → Int32
  | 0 => 0
  | k + 1 => if pf_ho (kd k) (ea k) (eb k) inp ri fa si ti tb (pf_tr kd ea eb inp ri fa si ti tb k) = true then pf_tr kd ea eb inp ri fa si ti tb k ||| px_b k else pf_tr kd ea eb inp ri fa si ti tb k
/-! a chart in rows: 1 kinds, 2 firsts, 3 seconds, 4 befores, 5 afters, 6 conditions, 7 givers, 8 parts, 9 fixed sets, 10 steps of a part, 11 transitions of a part -/
abbrev pf_C : Type := Nat → Nat → Int32
/-- one part of an evolution: (next, cleared) -/
def pf_one (c : pf_C) (nT nO : Nat) (sg si du : Int32) (p : Nat) (a : Int32 × Int32) : Int32 × Int32 :=
  if pf_rul (c 8) (c 7) (nI p) a.1 nO 0 = -1 then
    (a.1 ||| ((si &&& c 10 p) &&& (pf_un (c 4) (if sg = 0 then (pf_wr (c 4) (du &&& c 11 p) nT).1 else du &&& c 11 p) nT ^^^ (-1)) ||| pf_un (c 5) (if sg = 0 then (pf_wr (c 4) (du &&& c 11 p) nT).1 else du &&& c 11 p) nT),
     a.2 ||| (if sg = 0 then (pf_wr (c 4) (du &&& c 11 p) nT).1 else du &&& c 11 p))
  else (a.1 ||| pf_fo (c 9 (pf_rul (c 8) (c 7) (nI p) a.1 nO 0).toNatClampNeg) (si &&& c 10 p), a.2)
def pf_dd (c : pf_C) (nE nT : Nat) (inp ri fa si ti : Int32) (tb : Nat → Int32) : Int32 :=
  pf_due (c 6) (pf_tr (c 1) (c 2) (c 3) inp ri fa si ti tb nE) (pf_en (c 4) si nT) nT
/-- an evolution: (next, cleared) -/
def pf_ev (c : pf_C) (nE nT nO : Nat) (sg inp ri fa si ti : Int32) (tb : Nat → Int32) : Int32 × Int32 :=
  pf_one c nT nO sg si (pf_dd c nE nT inp ri fa si ti tb) 2 (pf_one c nT nO sg si (pf_dd c nE nT inp ri fa si ti tb) 1 (pf_one c nT nO sg si (pf_dd c nE nT inp ri fa si ti tb) 0 (0, 0)))
end
section
-- ===== PART A: goes FIRST, ahead of the names: the tables' words, and 'selects' of the private methods out of them =====
/-- a private method of a class that the tables say can be made, by its rows of tables_1 -/
def lw_okq (q : MethodName × Nat) : Prop := (q.1.cls ≠ "java/lang/invoke/MethodHandle" ∧ q.1.cls ≠ "java/lang/invoke/VarHandle") ∧ Cond.instantiable q.1.cls q.2 ∈ tables_1 ∧ Cond.privateMethod q.1 ∈ tables_1 ∧ Cond.instanceMethod q.1 ∈ tables_1
theorem lw_p0 : lw_okq (⟨"ForcedChart$Expressions", "canBePart", "(I)Z"⟩, 5) := ⟨⟨by decide +kernel, by decide +kernel⟩, List.mem_of_getElem? (i := 43) (by decide +kernel), List.mem_of_getElem? (i := 267) (by decide +kernel), List.mem_of_getElem? (i := 268) (by decide +kernel)⟩
theorem lw_p1 : lw_okq (⟨"ForcedChart$Expressions", "depthFor", "(III)I"⟩, 5) := ⟨⟨by decide +kernel, by decide +kernel⟩, List.mem_of_getElem? (i := 43) (by decide +kernel), List.mem_of_getElem? (i := 279) (by decide +kernel), List.mem_of_getElem? (i := 280) (by decide +kernel)⟩
theorem lw_p2 : lw_okq (⟨"ForcedChart$Transitions", "union", "([II)I"⟩, 5) := ⟨⟨by decide +kernel, by decide +kernel⟩, List.mem_of_getElem? (i := 66) (by decide +kernel), List.mem_of_getElem? (i := 333) (by decide +kernel), List.mem_of_getElem? (i := 334) (by decide +kernel)⟩
theorem lw_p3 : lw_okq (⟨"ForcedChart", "forgetRun", "()V"⟩, 17) := ⟨⟨by decide +kernel, by decide +kernel⟩, List.mem_of_getElem? (i := 11) (by decide +kernel), List.mem_of_getElem? (i := 357) (by decide +kernel), List.mem_of_getElem? (i := 358) (by decide +kernel)⟩
theorem lw_p4 : lw_okq (⟨"ForcedChart", "comesToAnEnd", "()Z"⟩, 17) := ⟨⟨by decide +kernel, by decide +kernel⟩, List.mem_of_getElem? (i := 11) (by decide +kernel), List.mem_of_getElem? (i := 382) (by decide +kernel), List.mem_of_getElem? (i := 383) (by decide +kernel)⟩
theorem lw_p5 : lw_okq (⟨"ForcedChart", "evolve", "()Z"⟩, 17) := ⟨⟨by decide +kernel, by decide +kernel⟩, List.mem_of_getElem? (i := 11) (by decide +kernel), List.mem_of_getElem? (i := 386) (by decide +kernel), List.mem_of_getElem? (i := 387) (by decide +kernel)⟩
theorem lw_p6 : lw_okq (⟨"ForcedChart$Expressions", "holds", "(IILForcedChart$Trial;)Z"⟩, 5) := ⟨⟨by decide +kernel, by decide +kernel⟩, List.mem_of_getElem? (i := 43) (by decide +kernel), List.mem_of_getElem? (i := 394) (by decide +kernel), List.mem_of_getElem? (i := 395) (by decide +kernel)⟩
theorem lw_p7 : lw_okq (⟨"ForcedChart", "keepTrial", "(I)V"⟩, 17) := ⟨⟨by decide +kernel, by decide +kernel⟩, List.mem_of_getElem? (i := 11) (by decide +kernel), List.mem_of_getElem? (i := 433) (by decide +kernel), List.mem_of_getElem? (i := 434) (by decide +kernel)⟩
theorem lw_p8 : lw_okq (⟨"ForcedChart$Actions", "resetVariables", "(I)I"⟩, 7) := ⟨⟨by decide +kernel, by decide +kernel⟩, List.mem_of_getElem? (i := 110) (by decide +kernel), List.mem_of_getElem? (i := 447) (by decide +kernel), List.mem_of_getElem? (i := 448) (by decide +kernel)⟩
theorem lw_p9 : lw_okq (⟨"ForcedChart$Actions", "store", "(IZZI)V"⟩, 7) := ⟨⟨by decide +kernel, by decide +kernel⟩, List.mem_of_getElem? (i := 110) (by decide +kernel), List.mem_of_getElem? (i := 451) (by decide +kernel), List.mem_of_getElem? (i := 452) (by decide +kernel)⟩
theorem lw_p10 : lw_okq (⟨"ForcedChart$Actions", "storesAt", "(II)Z"⟩, 7) := ⟨⟨by decide +kernel, by decide +kernel⟩, List.mem_of_getElem? (i := 110) (by decide +kernel), List.mem_of_getElem? (i := 455) (by decide +kernel), List.mem_of_getElem? (i := 456) (by decide +kernel)⟩
theorem lw_p11 : lw_okq (⟨"ForcedChart$Actions", "isOn", "(IZZI)Z"⟩, 7) := ⟨⟨by decide +kernel, by decide +kernel⟩, List.mem_of_getElem? (i := 110) (by decide +kernel), List.mem_of_getElem? (i := 459) (by decide +kernel), List.mem_of_getElem? (i := 460) (by decide +kernel)⟩
theorem lw_p12 : lw_okq (⟨"ForcedChartModel", "fits", "(III)Z"⟩, 43) := ⟨⟨by decide +kernel, by decide +kernel⟩, List.mem_of_getElem? (i := 503) (by decide +kernel), List.mem_of_getElem? (i := 648) (by decide +kernel), List.mem_of_getElem? (i := 649) (by decide +kernel)⟩
theorem lw_p13 : lw_okq (⟨"ForcedChartModel", "isStep", "(I)Z"⟩, 43) := ⟨⟨by decide +kernel, by decide +kernel⟩, List.mem_of_getElem? (i := 503) (by decide +kernel), List.mem_of_getElem? (i := 652) (by decide +kernel), List.mem_of_getElem? (i := 653) (by decide +kernel)⟩
theorem lw_p14 : lw_okq (⟨"ForcedChartModel", "isExpression", "(I)Z"⟩, 43) := ⟨⟨by decide +kernel, by decide +kernel⟩, List.mem_of_getElem? (i := 503) (by decide +kernel), List.mem_of_getElem? (i := 657) (by decide +kernel), List.mem_of_getElem? (i := 658) (by decide +kernel)⟩
theorem lw_p15 : lw_okq (⟨"ForcedChartModel", "stepsOf", "(I)I"⟩, 43) := ⟨⟨by decide +kernel, by decide +kernel⟩, List.mem_of_getElem? (i := 503) (by decide +kernel), List.mem_of_getElem? (i := 665) (by decide +kernel), List.mem_of_getElem? (i := 666) (by decide +kernel)⟩
def lw_privs_1 : List (MethodName × Nat) := [(⟨"ForcedChart$Expressions", "canBePart", "(I)Z"⟩, 5), (⟨"ForcedChart$Expressions", "depthFor", "(III)I"⟩, 5), (⟨"ForcedChart$Transitions", "union", "([II)I"⟩, 5), (⟨"ForcedChart", "forgetRun", "()V"⟩, 17), (⟨"ForcedChart", "comesToAnEnd", "()Z"⟩, 17), (⟨"ForcedChart", "evolve", "()Z"⟩, 17), (⟨"ForcedChart$Expressions", "holds", "(IILForcedChart$Trial;)Z"⟩, 5), (⟨"ForcedChart", "keepTrial", "(I)V"⟩, 17), (⟨"ForcedChart$Actions", "resetVariables", "(I)I"⟩, 7), (⟨"ForcedChart$Actions", "store", "(IZZI)V"⟩, 7), (⟨"ForcedChart$Actions", "storesAt", "(II)Z"⟩, 7), (⟨"ForcedChart$Actions", "isOn", "(IZZI)Z"⟩, 7), (⟨"ForcedChartModel", "fits", "(III)Z"⟩, 43), (⟨"ForcedChartModel", "isStep", "(I)Z"⟩, 43), (⟨"ForcedChartModel", "isExpression", "(I)Z"⟩, 43), (⟨"ForcedChartModel", "stepsOf", "(I)I"⟩, 43)]
theorem lw_r1 : ∀ q ∈ lw_privs_1, lw_okq q := List.forall_mem_cons.mpr ⟨lw_p0, List.forall_mem_cons.mpr ⟨lw_p1, List.forall_mem_cons.mpr ⟨lw_p2, List.forall_mem_cons.mpr ⟨lw_p3, List.forall_mem_cons.mpr ⟨lw_p4, List.forall_mem_cons.mpr ⟨lw_p5, List.forall_mem_cons.mpr ⟨lw_p6, List.forall_mem_cons.mpr ⟨lw_p7, List.forall_mem_cons.mpr ⟨lw_p8, List.forall_mem_cons.mpr ⟨lw_p9, List.forall_mem_cons.mpr ⟨lw_p10, List.forall_mem_cons.mpr ⟨lw_p11, List.forall_mem_cons.mpr ⟨lw_p12, List.forall_mem_cons.mpr ⟨lw_p13, List.forall_mem_cons.mpr ⟨lw_p14, List.forall_mem_cons.mpr ⟨lw_p15, fun _ h => absurd h List.not_mem_nil⟩⟩⟩⟩⟩⟩⟩⟩⟩⟩⟩⟩⟩⟩⟩⟩
theorem lw_p16 : lw_okq (⟨"ForcedChartModel", "initials", "()I"⟩, 43) := ⟨⟨by decide +kernel, by decide +kernel⟩, List.mem_of_getElem? (i := 503) (by decide +kernel), List.mem_of_getElem? (i := 681) (by decide +kernel), List.mem_of_getElem? (i := 682) (by decide +kernel)⟩
theorem lw_p17 : lw_okq (⟨"ForcedChartModel", "blank", "()V"⟩, 43) := ⟨⟨by decide +kernel, by decide +kernel⟩, List.mem_of_getElem? (i := 503) (by decide +kernel), List.mem_of_getElem? (i := 692) (by decide +kernel), List.mem_of_getElem? (i := 693) (by decide +kernel)⟩
theorem lw_p18 : lw_okq (⟨"ForcedChartModel", "settle", "()I"⟩, 43) := ⟨⟨by decide +kernel, by decide +kernel⟩, List.mem_of_getElem? (i := 503) (by decide +kernel), List.mem_of_getElem? (i := 704) (by decide +kernel), List.mem_of_getElem? (i := 705) (by decide +kernel)⟩
theorem lw_p19 : lw_okq (⟨"ForcedChartModel", "evolve", "()V"⟩, 43) := ⟨⟨by decide +kernel, by decide +kernel⟩, List.mem_of_getElem? (i := 503) (by decide +kernel), List.mem_of_getElem? (i := 708) (by decide +kernel), List.mem_of_getElem? (i := 709) (by decide +kernel)⟩
theorem lw_p20 : lw_okq (⟨"ForcedChartModel", "judge", "()V"⟩, 43) := ⟨⟨by decide +kernel, by decide +kernel⟩, List.mem_of_getElem? (i := 503) (by decide +kernel), List.mem_of_getElem? (i := 712) (by decide +kernel), List.mem_of_getElem? (i := 713) (by decide +kernel)⟩
theorem lw_p21 : lw_okq (⟨"ForcedChartModel", "ruling", "(I)I"⟩, 43) := ⟨⟨by decide +kernel, by decide +kernel⟩, List.mem_of_getElem? (i := 503) (by decide +kernel), List.mem_of_getElem? (i := 716) (by decide +kernel), List.mem_of_getElem? (i := 717) (by decide +kernel)⟩
theorem lw_p22 : lw_okq (⟨"ForcedChartModel", "move", "(I)V"⟩, 43) := ⟨⟨by decide +kernel, by decide +kernel⟩, List.mem_of_getElem? (i := 503) (by decide +kernel), List.mem_of_getElem? (i := 720) (by decide +kernel), List.mem_of_getElem? (i := 721) (by decide +kernel)⟩
theorem lw_p23 : lw_okq (⟨"ForcedChartModel", "isEnabled", "(I)Z"⟩, 43) := ⟨⟨by decide +kernel, by decide +kernel⟩, List.mem_of_getElem? (i := 503) (by decide +kernel), List.mem_of_getElem? (i := 724) (by decide +kernel), List.mem_of_getElem? (i := 725) (by decide +kernel)⟩
theorem lw_p24 : lw_okq (⟨"ForcedChartModel", "take", "()V"⟩, 43) := ⟨⟨by decide +kernel, by decide +kernel⟩, List.mem_of_getElem? (i := 503) (by decide +kernel), List.mem_of_getElem? (i := 728) (by decide +kernel), List.mem_of_getElem? (i := 729) (by decide +kernel)⟩
theorem lw_p25 : lw_okq (⟨"ForcedChartModel", "code", "()I"⟩, 43) := ⟨⟨by decide +kernel, by decide +kernel⟩, List.mem_of_getElem? (i := 503) (by decide +kernel), List.mem_of_getElem? (i := 732) (by decide +kernel), List.mem_of_getElem? (i := 733) (by decide +kernel)⟩
theorem lw_p26 : lw_okq (⟨"ForcedChartModel", "single", "()I"⟩, 43) := ⟨⟨by decide +kernel, by decide +kernel⟩, List.mem_of_getElem? (i := 503) (by decide +kernel), List.mem_of_getElem? (i := 736) (by decide +kernel), List.mem_of_getElem? (i := 737) (by decide +kernel)⟩
theorem lw_p27 : lw_okq (⟨"ForcedChartModel", "act", "(I)V"⟩, 43) := ⟨⟨by decide +kernel, by decide +kernel⟩, List.mem_of_getElem? (i := 503) (by decide +kernel), List.mem_of_getElem? (i := 740) (by decide +kernel), List.mem_of_getElem? (i := 741) (by decide +kernel)⟩
theorem lw_p28 : lw_okq (⟨"ForcedChartModel", "reset", "(I)Z"⟩, 43) := ⟨⟨by decide +kernel, by decide +kernel⟩, List.mem_of_getElem? (i := 503) (by decide +kernel), List.mem_of_getElem? (i := 744) (by decide +kernel), List.mem_of_getElem? (i := 745) (by decide +kernel)⟩
theorem lw_p29 : lw_okq (⟨"ForcedChartModel", "store", "(IZ)V"⟩, 43) := ⟨⟨by decide +kernel, by decide +kernel⟩, List.mem_of_getElem? (i := 503) (by decide +kernel), List.mem_of_getElem? (i := 748) (by decide +kernel), List.mem_of_getElem? (i := 749) (by decide +kernel)⟩
theorem lw_p30 : lw_okq (⟨"ForcedChartModel", "acts", "(I)Z"⟩, 43) := ⟨⟨by decide +kernel, by decide +kernel⟩, List.mem_of_getElem? (i := 503) (by decide +kernel), List.mem_of_getElem? (i := 752) (by decide +kernel), List.mem_of_getElem? (i := 753) (by decide +kernel)⟩
def lw_privs_2 : List (MethodName × Nat) := [(⟨"ForcedChartModel", "initials", "()I"⟩, 43), (⟨"ForcedChartModel", "blank", "()V"⟩, 43), (⟨"ForcedChartModel", "settle", "()I"⟩, 43), (⟨"ForcedChartModel", "evolve", "()V"⟩, 43), (⟨"ForcedChartModel", "judge", "()V"⟩, 43), (⟨"ForcedChartModel", "ruling", "(I)I"⟩, 43), (⟨"ForcedChartModel", "move", "(I)V"⟩, 43), (⟨"ForcedChartModel", "isEnabled", "(I)Z"⟩, 43), (⟨"ForcedChartModel", "take", "()V"⟩, 43), (⟨"ForcedChartModel", "code", "()I"⟩, 43), (⟨"ForcedChartModel", "single", "()I"⟩, 43), (⟨"ForcedChartModel", "act", "(I)V"⟩, 43), (⟨"ForcedChartModel", "reset", "(I)Z"⟩, 43), (⟨"ForcedChartModel", "store", "(IZ)V"⟩, 43), (⟨"ForcedChartModel", "acts", "(I)Z"⟩, 43)]
theorem lw_r2 : ∀ q ∈ lw_privs_2, lw_okq q := List.forall_mem_cons.mpr ⟨lw_p16, List.forall_mem_cons.mpr ⟨lw_p17, List.forall_mem_cons.mpr ⟨lw_p18, List.forall_mem_cons.mpr ⟨lw_p19, List.forall_mem_cons.mpr ⟨lw_p20, List.forall_mem_cons.mpr ⟨lw_p21, List.forall_mem_cons.mpr ⟨lw_p22, List.forall_mem_cons.mpr ⟨lw_p23, List.forall_mem_cons.mpr ⟨lw_p24, List.forall_mem_cons.mpr ⟨lw_p25, List.forall_mem_cons.mpr ⟨lw_p26, List.forall_mem_cons.mpr ⟨lw_p27, List.forall_mem_cons.mpr ⟨lw_p28, List.forall_mem_cons.mpr ⟨lw_p29, List.forall_mem_cons.mpr ⟨lw_p30, fun _ h => absurd h List.not_mem_nil⟩⟩⟩⟩⟩⟩⟩⟩⟩⟩⟩⟩⟩⟩⟩
def lw_privs : List (MethodName × Nat) := lw_privs_1 ++ (lw_privs_2)
def lw_tbl : List Cond := k2_sels lw_privs ++ tables_1
theorem lw_privs_ok : ∀ q ∈ lw_privs, lw_okq q := by
  show ∀ q ∈ lw_privs_1 ++ (lw_privs_2), lw_okq q
  exact List.forall_mem_append.mpr ⟨lw_r1, lw_r2⟩
end
section
/-! names, fields, words: by program (wip/gen/mkrows.py) -/
def TB : List Cond := lw_tbl.filter goodWord
theorem tb_1 {w : Cond} (i : Nat) (h : lw_tbl[i]? = some w) (hg : goodWord w = true) : w ∈ TB := List.mem_filter.mpr ⟨List.mem_of_getElem? h, hg⟩
theorem tb_of {ws : List Cond} (ps : List Nat) (hp : ws = ps.filterMap (fun i => lw_tbl[i]?)) (h : ws.all goodWord = true) : ∀ w ∈ ws, w ∈ TB := by
  intro w hw
  have h1 := List.all_eq_true.mp h w hw
  rw [hp] at hw
  obtain ⟨i, -, hi⟩ := List.mem_filterMap.mp hw
  exact tb_1 i hi h1
theorem tb_good {c1 c2 : Cond} (h : c2 ∈ TB) : GoodIn (c1 :: TB) (c2 :: TB) := by
  intro w hw
  rcases List.mem_cons.mp hw with rfl | hw
  · exact ⟨List.mem_cons_of_mem _ h, good_of_word (List.mem_filter.mp h).2⟩
  · exact ⟨List.mem_cons_of_mem _ hw, good_of_word (List.mem_filter.mp hw).2⟩
def R_Fc : String := "ForcedChart"
def T_Fc : u_T := fun k => match k with
  | 0 => ("ForcedChart", "steps", "LForcedChart$Steps;", true)
  | 1 => ("ForcedChart", "expressions", "LForcedChart$Expressions;", true)
  | 2 => ("ForcedChart", "transitions", "LForcedChart$Transitions;", true)
  | 3 => ("ForcedChart", "orders", "LForcedChart$Orders;", true)
  | 4 => ("ForcedChart", "actions", "LForcedChart$Actions;", true)
  | 5 => ("ForcedChart", "trial", "LForcedChart$Trial;", true)
  | 6 => ("ForcedChart", "times", "[I", true)
  | 7 => ("ForcedChart", "running", "Z", false)
  | 8 => ("ForcedChart", "settling", "Z", false)
  | 9 => ("ForcedChart", "situation", "I", false)
  | 10 => ("ForcedChart", "situationAtLastScan", "I", false)
  | 11 => ("ForcedChart", "inputs", "I", false)
  | 12 => ("ForcedChart", "outputs", "I", false)
  | 13 => ("ForcedChart", "evolutions", "I", false)
  | 14 => ("ForcedChart", "cleared", "I", false)
  | 15 => ("ForcedChart", "lead", "I", false)
  | _ => ("ForcedChart", "period", "I", false)
def ty_Fc : Nat → FieldType := fun k => match k with
  | 0 => .object "ForcedChart$Steps"
  | 1 => .object "ForcedChart$Expressions"
  | 2 => .object "ForcedChart$Transitions"
  | 3 => .object "ForcedChart$Orders"
  | 4 => .object "ForcedChart$Actions"
  | 5 => .object "ForcedChart$Trial"
  | 6 => .array .int
  | 7 => .boolean
  | 8 => .boolean
  | 9 => .int
  | 10 => .int
  | 11 => .int
  | 12 => .int
  | 13 => .int
  | 14 => .int
  | 15 => .int
  | _ => .int
theorem nm_Fc : ∀ a, a < 17 → ∀ b, b < 17 → a ≠ b → (T_Fc a).2.1 ≠ (T_Fc b).2.1 := by decide +kernel
theorem tk_Fc : ∀ k, k < 17 → parseFieldDescriptor (T_Fc k).2.2.1 = some (ty_Fc k) := by decide +kernel
set_option maxRecDepth 20000 in
theorem in_Fc : ∀ w ∈ u_ws R_Fc T_Fc 17, w ∈ TB := tb_of [235, 237, 239, 241, 243, 245, 247, 249, 251, 253, 255, 257, 259, 261, 263, 265, 267] (by decide +kernel) (by decide +kernel)
def R_St : String := "ForcedChart$Steps"
def T_St : u_T := fun k => match k with
  | 0 => ("ForcedChart$Steps", "partOf", "[I", true)
  | 1 => ("ForcedChart$Steps", "inPart", "[I", true)
  | 2 => ("ForcedChart$Steps", "count", "I", false)
  | _ => ("ForcedChart$Steps", "initial", "I", false)
def ty_St : Nat → FieldType := fun k => match k with
  | 0 => .array .int
  | 1 => .array .int
  | 2 => .int
  | _ => .int
theorem nm_St : ∀ a, a < 4 → ∀ b, b < 4 → a ≠ b → (T_St a).2.1 ≠ (T_St b).2.1 := by decide +kernel
theorem tk_St : ∀ k, k < 4 → parseFieldDescriptor (T_St k).2.2.1 = some (ty_St k) := by decide +kernel
set_option maxRecDepth 20000 in
theorem in_St : ∀ w ∈ u_ws R_St T_St 4, w ∈ TB := tb_of [63, 65, 67, 69] (by decide +kernel) (by decide +kernel)
def R_Ex : String := "ForcedChart$Expressions"
def T_Ex : u_T := fun k => match k with
  | 0 => ("ForcedChart$Expressions", "kinds", "[I", true)
  | 1 => ("ForcedChart$Expressions", "firsts", "[I", true)
  | 2 => ("ForcedChart$Expressions", "seconds", "[I", true)
  | 3 => ("ForcedChart$Expressions", "depths", "[I", true)
  | _ => ("ForcedChart$Expressions", "count", "I", false)
def ty_Ex : Nat → FieldType := fun k => match k with
  | 0 => .array .int
  | 1 => .array .int
  | 2 => .array .int
  | 3 => .array .int
  | _ => .int
theorem nm_Ex : ∀ a, a < 5 → ∀ b, b < 5 → a ≠ b → (T_Ex a).2.1 ≠ (T_Ex b).2.1 := by decide +kernel
theorem tk_Ex : ∀ k, k < 5 → parseFieldDescriptor (T_Ex k).2.2.1 = some (ty_Ex k) := by decide +kernel
set_option maxRecDepth 20000 in
theorem in_Ex : ∀ w ∈ u_ws R_Ex T_Ex 5, w ∈ TB := tb_of [85, 87, 89, 91, 93] (by decide +kernel) (by decide +kernel)
def R_Tr : String := "ForcedChart$Transitions"
def T_Tr : u_T := fun k => match k with
  | 0 => ("ForcedChart$Transitions", "befores", "[I", true)
  | 1 => ("ForcedChart$Transitions", "afters", "[I", true)
  | 2 => ("ForcedChart$Transitions", "conditions", "[I", true)
  | 3 => ("ForcedChart$Transitions", "inPart", "[I", true)
  | _ => ("ForcedChart$Transitions", "count", "I", false)
def ty_Tr : Nat → FieldType := fun k => match k with
  | 0 => .array .int
  | 1 => .array .int
  | 2 => .array .int
  | 3 => .array .int
  | _ => .int
theorem nm_Tr : ∀ a, a < 5 → ∀ b, b < 5 → a ≠ b → (T_Tr a).2.1 ≠ (T_Tr b).2.1 := by decide +kernel
theorem tk_Tr : ∀ k, k < 5 → parseFieldDescriptor (T_Tr k).2.2.1 = some (ty_Tr k) := by decide +kernel
set_option maxRecDepth 20000 in
theorem in_Tr : ∀ w ∈ u_ws R_Tr T_Tr 5, w ∈ TB := tb_of [109, 111, 113, 115, 117] (by decide +kernel) (by decide +kernel)
def R_Or : String := "ForcedChart$Orders"
def T_Or : u_T := fun k => match k with
  | 0 => ("ForcedChart$Orders", "givers", "[I", true)
  | 1 => ("ForcedChart$Orders", "parts", "[I", true)
  | 2 => ("ForcedChart$Orders", "fixedSets", "[I", true)
  | _ => ("ForcedChart$Orders", "count", "I", false)
def ty_Or : Nat → FieldType := fun k => match k with
  | 0 => .array .int
  | 1 => .array .int
  | 2 => .array .int
  | _ => .int
theorem nm_Or : ∀ a, a < 4 → ∀ b, b < 4 → a ≠ b → (T_Or a).2.1 ≠ (T_Or b).2.1 := by decide +kernel
theorem tk_Or : ∀ k, k < 4 → parseFieldDescriptor (T_Or k).2.2.1 = some (ty_Or k) := by decide +kernel
set_option maxRecDepth 20000 in
theorem in_Or : ∀ w ∈ u_ws R_Or T_Or 4, w ∈ TB := tb_of [131, 133, 135, 137] (by decide +kernel) (by decide +kernel)
def R_Ac : String := "ForcedChart$Actions"
def T_Ac : u_T := fun k => match k with
  | 0 => ("ForcedChart$Actions", "owners", "[I", true)
  | 1 => ("ForcedChart$Actions", "qualifiers", "[I", true)
  | 2 => ("ForcedChart$Actions", "variables", "[I", true)
  | 3 => ("ForcedChart$Actions", "durations", "[I", true)
  | 4 => ("ForcedChart$Actions", "ages", "[I", true)
  | 5 => ("ForcedChart$Actions", "count", "I", false)
  | _ => ("ForcedChart$Actions", "storedSet", "I", false)
def ty_Ac : Nat → FieldType := fun k => match k with
  | 0 => .array .int
  | 1 => .array .int
  | 2 => .array .int
  | 3 => .array .int
  | 4 => .array .int
  | 5 => .int
  | _ => .int
theorem nm_Ac : ∀ a, a < 7 → ∀ b, b < 7 → a ≠ b → (T_Ac a).2.1 ≠ (T_Ac b).2.1 := by decide +kernel
theorem tk_Ac : ∀ k, k < 7 → parseFieldDescriptor (T_Ac k).2.2.1 = some (ty_Ac k) := by decide +kernel
set_option maxRecDepth 20000 in
theorem in_Ac : ∀ w ∈ u_ws R_Ac T_Ac 7, w ∈ TB := tb_of [154, 156, 158, 160, 162, 164, 166] (by decide +kernel) (by decide +kernel)
def R_Ti : String := "ForcedChart$Trial"
def T_Ti : u_T := fun k => match k with
  | 0 => ("ForcedChart$Trial", "timesAtBegin", "[I", true)
  | 1 => ("ForcedChart$Trial", "states", "[I", true)
  | 2 => ("ForcedChart$Trial", "inputs", "I", false)
  | 3 => ("ForcedChart$Trial", "rising", "I", false)
  | 4 => ("ForcedChart$Trial", "falling", "I", false)
  | 5 => ("ForcedChart$Trial", "situation", "I", false)
  | 6 => ("ForcedChart$Trial", "timed", "I", false)
  | 7 => ("ForcedChart$Trial", "cleared", "I", false)
  | 8 => ("ForcedChart$Trial", "made", "I", false)
  | 9 => ("ForcedChart$Trial", "lead", "I", false)
  | _ => ("ForcedChart$Trial", "period", "I", false)
def ty_Ti : Nat → FieldType := fun k => match k with
  | 0 => .array .int
  | 1 => .array .int
  | 2 => .int
  | 3 => .int
  | 4 => .int
  | 5 => .int
  | 6 => .int
  | 7 => .int
  | 8 => .int
  | 9 => .int
  | _ => .int
theorem nm_Ti : ∀ a, a < 11 → ∀ b, b < 11 → a ≠ b → (T_Ti a).2.1 ≠ (T_Ti b).2.1 := by decide +kernel
theorem tk_Ti : ∀ k, k < 11 → parseFieldDescriptor (T_Ti k).2.2.1 = some (ty_Ti k) := by decide +kernel
set_option maxRecDepth 20000 in
theorem in_Ti : ∀ w ∈ u_ws R_Ti T_Ti 11, w ∈ TB := tb_of [195, 197, 199, 201, 203, 205, 207, 209, 211, 213, 215] (by decide +kernel) (by decide +kernel)
def R_Md : String := "ForcedChartModel"
def T_Md : u_T := fun k => match k with
  | 0 => ("ForcedChartModel", "steps", "I", false)
  | 1 => ("ForcedChartModel", "partOf", "[I", false)
  | 2 => ("ForcedChartModel", "initial", "[Z", false)
  | 3 => ("ForcedChartModel", "expressions", "I", false)
  | 4 => ("ForcedChartModel", "kind", "[I", false)
  | 5 => ("ForcedChartModel", "first", "[I", false)
  | 6 => ("ForcedChartModel", "second", "[I", false)
  | 7 => ("ForcedChartModel", "deep", "[I", false)
  | 8 => ("ForcedChartModel", "holds", "[Z", false)
  | 9 => ("ForcedChartModel", "transitions", "I", false)
  | 10 => ("ForcedChartModel", "from", "[I", false)
  | 11 => ("ForcedChartModel", "to", "[I", false)
  | 12 => ("ForcedChartModel", "condition", "[I", false)
  | 13 => ("ForcedChartModel", "orders", "I", false)
  | 14 => ("ForcedChartModel", "orderStep", "[I", false)
  | 15 => ("ForcedChartModel", "orderPart", "[I", false)
  | 16 => ("ForcedChartModel", "orderFixed", "[I", false)
  | 17 => ("ForcedChartModel", "actions", "I", false)
  | 18 => ("ForcedChartModel", "actionStep", "[I", false)
  | 19 => ("ForcedChartModel", "qualifier", "[I", false)
  | 20 => ("ForcedChartModel", "variable", "[I", false)
  | 21 => ("ForcedChartModel", "duration", "[I", false)
  | 22 => ("ForcedChartModel", "kept", "[Z", false)
  | 23 => ("ForcedChartModel", "age", "[I", false)
  | 24 => ("ForcedChartModel", "runs", "Z", false)
  | 25 => ("ForcedChartModel", "settling", "Z", false)
  | 26 => ("ForcedChartModel", "situation", "I", false)
  | 27 => ("ForcedChartModel", "passed", "[I", false)
  | 28 => ("ForcedChartModel", "earlier", "I", false)
  | 29 => ("ForcedChartModel", "given", "I", false)
  | 30 => ("ForcedChartModel", "on", "I", false)
  | 31 => ("ForcedChartModel", "made", "I", false)
  | 32 => ("ForcedChartModel", "done", "I", false)
  | 33 => ("ForcedChartModel", "lead", "I", false)
  | 34 => ("ForcedChartModel", "period", "I", false)
  | 35 => ("ForcedChartModel", "oldSituation", "I", false)
  | 36 => ("ForcedChartModel", "oldPassed", "[I", false)
  | 37 => ("ForcedChartModel", "inputs", "I", false)
  | 38 => ("ForcedChartModel", "rising", "I", false)
  | 39 => ("ForcedChartModel", "falling", "I", false)
  | 40 => ("ForcedChartModel", "next", "I", false)
  | 41 => ("ForcedChartModel", "clearedNow", "I", false)
  | _ => ("ForcedChartModel", "seen", "[I", false)
def ty_Md : Nat → FieldType := fun k => match k with
  | 0 => .int
  | 1 => .array .int
  | 2 => .array .boolean
  | 3 => .int
  | 4 => .array .int
  | 5 => .array .int
  | 6 => .array .int
  | 7 => .array .int
  | 8 => .array .boolean
  | 9 => .int
  | 10 => .array .int
  | 11 => .array .int
  | 12 => .array .int
  | 13 => .int
  | 14 => .array .int
  | 15 => .array .int
  | 16 => .array .int
  | 17 => .int
  | 18 => .array .int
  | 19 => .array .int
  | 20 => .array .int
  | 21 => .array .int
  | 22 => .array .boolean
  | 23 => .array .int
  | 24 => .boolean
  | 25 => .boolean
  | 26 => .int
  | 27 => .array .int
  | 28 => .int
  | 29 => .int
  | 30 => .int
  | 31 => .int
  | 32 => .int
  | 33 => .int
  | 34 => .int
  | 35 => .int
  | 36 => .array .int
  | 37 => .int
  | 38 => .int
  | 39 => .int
  | 40 => .int
  | 41 => .int
  | _ => .array .int
theorem nm_Md : ∀ a, a < 43 → ∀ b, b < 43 → a ≠ b → (T_Md a).2.1 ≠ (T_Md b).2.1 := by decide +kernel
theorem tk_Md : ∀ k, k < 43 → parseFieldDescriptor (T_Md k).2.2.1 = some (ty_Md k) := by decide +kernel
set_option maxRecDepth 20000 in
theorem in_Md : ∀ w ∈ u_ws R_Md T_Md 43, w ∈ TB := tb_of [582, 584, 586, 588, 590, 592, 594, 596, 598, 600, 602, 604, 606, 608, 610, 612, 614, 616, 618, 620, 622, 624, 626, 628, 630, 632, 634, 636, 638, 640, 642, 644, 646, 648, 650, 652, 654, 656, 658, 660, 662, 664, 666] (by decide +kernel) (by decide +kernel)
abbrev vwCl : List vw_C := [(R_Fc, T_Fc, 17), (R_St, T_St, 4), (R_Ex, T_Ex, 5), (R_Tr, T_Tr, 5), (R_Or, T_Or, 4), (R_Ac, T_Ac, 7), (R_Ti, T_Ti, 11), (R_Md, T_Md, 43)]
/- cell 0: ForcedChart: 0 steps, 1 expressions, 2 transitions, 3 orders, 4 actions, 5 trial, 6 times, 7 running, 8 settling, 9 situation, 10 situationAtLastScan, 11 inputs, 12 outputs, 13 evolutions, 14 cleared, 15 lead, 16 period
cell 1: ForcedChart$Steps: 0 partOf, 1 inPart, 2 count, 3 initial
cell 2: ForcedChart$Expressions: 0 kinds, 1 firsts, 2 seconds, 3 depths, 4 count
cell 3: ForcedChart$Transitions: 0 befores, 1 afters, 2 conditions, 3 inPart, 4 count
cell 4: ForcedChart$Orders: 0 givers, 1 parts, 2 fixedSets, 3 count
cell 5: ForcedChart$Actions: 0 owners, 1 qualifiers, 2 variables, 3 durations, 4 ages, 5 count, 6 storedSet
cell 6: ForcedChart$Trial: 0 timesAtBegin, 1 states, 2 inputs, 3 rising, 4 falling, 5 situation, 6 timed, 7 cleared, 8 made, 9 lead, 10 period
cell 7: ForcedChart.times[8]
cell 8: ForcedChart$Steps.partOf[8]
cell 9: ForcedChart$Steps.inPart[3]
cell 10: ForcedChart$Expressions.kinds[24]
cell 11: ForcedChart$Expressions.firsts[24]
cell 12: ForcedChart$Expressions.seconds[24]
cell 13: ForcedChart$Expressions.depths[24]
cell 14: ForcedChart$Transitions.befores[12]
cell 15: ForcedChart$Transitions.afters[12]
cell 16: ForcedChart$Transitions.conditions[12]
cell 17: ForcedChart$Transitions.inPart[3]
cell 18: ForcedChart$Orders.givers[4]
cell 19: ForcedChart$Orders.parts[4]
cell 20: ForcedChart$Orders.fixedSets[4]
cell 21: ForcedChart$Actions.owners[12]
cell 22: ForcedChart$Actions.qualifiers[12]
cell 23: ForcedChart$Actions.variables[12]
cell 24: ForcedChart$Actions.durations[12]
cell 25: ForcedChart$Actions.ages[12]
cell 26: ForcedChart$Trial.timesAtBegin[8]
cell 27: ForcedChart$Trial.states[513] -/
abbrev lyX : fx_L := [.inr (0, [some 1, some 2, some 3, some 4, some 5, some 6, some 7, none, none, none, none, none, none, none, none, none, none]), .inr (1, [some 8, some 9, none, none]), .inr (2, [some 10, some 11, some 12, some 13, none]), .inr (3, [some 14, some 15, some 16, some 17, none]), .inr (4, [some 18, some 19, some 20, none]), .inr (5, [some 21, some 22, some 23, some 24, some 25, none, none]), .inr (6, [some 26, some 27, none, none, none, none, none, none, none, none, none]), .inl (0, 8), .inl (0, 8), .inl (0, 3), .inl (0, 24), .inl (0, 24), .inl (0, 24), .inl (0, 24), .inl (0, 12), .inl (0, 12), .inl (0, 12), .inl (0, 3), .inl (0, 4), .inl (0, 4), .inl (0, 4), .inl (0, 12), .inl (0, 12), .inl (0, 12), .inl (0, 12), .inl (0, 12), .inl (0, 8), .inl (0, 513)]
abbrev lnXI : List (Nat × Nat) := [(7, 8), (8, 8), (9, 3), (10, 24), (11, 24), (12, 24), (13, 24), (14, 12), (15, 12), (16, 12), (17, 3), (18, 4), (19, 4), (20, 4), (21, 12), (22, 12), (23, 12), (24, 12), (25, 12), (26, 8), (27, 513)]
theorem lkXI : ∀ x ∈ lnXI, lyX[x.1]? = some (.inl (0, x.2)) := by decide +kernel
abbrev lnXZ : List (Nat × Nat) := []
theorem lkXZ : ∀ x ∈ lnXZ, lyX[x.1]? = some (.inl (1, x.2)) := by decide +kernel
/- cell 0: ForcedChartModel: 0 steps, 1 partOf, 2 initial, 3 expressions, 4 kind, 5 first, 6 second, 7 deep, 8 holds, 9 transitions, 10 from, 11 to, 12 condition, 13 orders, 14 orderStep, 15 orderPart, 16 orderFixed, 17 actions, 18 actionStep, 19 qualifier, 20 variable, 21 duration, 22 kept, 23 age, 24 runs, 25 settling, 26 situation, 27 passed, 28 earlier, 29 given, 30 on, 31 made, 32 done, 33 lead, 34 period, 35 oldSituation, 36 oldPassed, 37 inputs, 38 rising, 39 falling, 40 next, 41 clearedNow, 42 seen
cell 1: ForcedChartModel.partOf[8]
cell 2: ForcedChartModel.initial[8] boolean
cell 3: ForcedChartModel.kind[24]
cell 4: ForcedChartModel.first[24]
cell 5: ForcedChartModel.second[24]
cell 6: ForcedChartModel.deep[24]
cell 7: ForcedChartModel.holds[24] boolean
cell 8: ForcedChartModel.from[12]
cell 9: ForcedChartModel.to[12]
cell 10: ForcedChartModel.condition[12]
cell 11: ForcedChartModel.orderStep[4]
cell 12: ForcedChartModel.orderPart[4]
cell 13: ForcedChartModel.orderFixed[4]
cell 14: ForcedChartModel.actionStep[12]
cell 15: ForcedChartModel.qualifier[12]
cell 16: ForcedChartModel.variable[12]
cell 17: ForcedChartModel.duration[12]
cell 18: ForcedChartModel.kept[12] boolean
cell 19: ForcedChartModel.age[12]
cell 20: ForcedChartModel.passed[8]
cell 21: ForcedChartModel.oldPassed[8]
cell 22: ForcedChartModel.seen[6561] -/
abbrev lyM : fx_L := [.inr (7, [none, some 1, some 2, none, some 3, some 4, some 5, some 6, some 7, none, some 8, some 9, some 10, none, some 11, some 12, some 13, none, some 14, some 15, some 16, some 17, some 18, some 19, none, none, none, some 20, none, none, none, none, none, none, none, none, some 21, none, none, none, none, none, some 22]), .inl (0, 8), .inl (1, 8), .inl (0, 24), .inl (0, 24), .inl (0, 24), .inl (0, 24), .inl (1, 24), .inl (0, 12), .inl (0, 12), .inl (0, 12), .inl (0, 4), .inl (0, 4), .inl (0, 4), .inl (0, 12), .inl (0, 12), .inl (0, 12), .inl (0, 12), .inl (1, 12), .inl (0, 12), .inl (0, 8), .inl (0, 8), .inl (0, 6561)]
abbrev lnMI : List (Nat × Nat) := [(1, 8), (3, 24), (4, 24), (5, 24), (6, 24), (8, 12), (9, 12), (10, 12), (11, 4), (12, 4), (13, 4), (14, 12), (15, 12), (16, 12), (17, 12), (19, 12), (20, 8), (21, 8), (22, 6561)]
theorem lkMI : ∀ x ∈ lnMI, lyM[x.1]? = some (.inl (0, x.2)) := by decide +kernel
abbrev lnMZ : List (Nat × Nat) := [(2, 8), (7, 24), (18, 12)]
theorem lkMZ : ∀ x ∈ lnMZ, lyM[x.1]? = some (.inl (1, x.2)) := by decide +kernel
abbrev c_Fc_init : ByteArray := prog_1_method_1_code
def y_Fc_init : MethodName := ⟨R_Fc, "<init>", "()V"⟩
abbrev c_Fc_step : ByteArray := prog_1_method_2_code
def y_Fc_step : MethodName := ⟨R_Fc, "step", "(IZ)I"⟩
abbrev c_Fc_expression : ByteArray := prog_1_method_3_code
def y_Fc_expression : MethodName := ⟨R_Fc, "expression", "(III)I"⟩
abbrev c_Fc_transition : ByteArray := prog_1_method_4_code
def y_Fc_transition : MethodName := ⟨R_Fc, "transition", "(III)I"⟩
abbrev c_Fc_order : ByteArray := prog_1_method_5_code
def y_Fc_order : MethodName := ⟨R_Fc, "order", "(III)I"⟩
abbrev c_Fc_action : ByteArray := prog_1_method_6_code
def y_Fc_action : MethodName := ⟨R_Fc, "action", "(IIII)I"⟩
abbrev c_Fc_unreached : ByteArray := prog_1_method_7_code
def y_Fc_unreached : MethodName := ⟨R_Fc, "unreached", "()I"⟩
abbrev c_Fc_start : ByteArray := prog_1_method_8_code
def y_Fc_start : MethodName := ⟨R_Fc, "start", "(Z)Z"⟩
abbrev c_Fc_stop : ByteArray := prog_1_method_9_code
def y_Fc_stop : MethodName := ⟨R_Fc, "stop", "()V"⟩
abbrev c_Fc_scan : ByteArray := prog_1_method_10_code
def y_Fc_scan : MethodName := ⟨R_Fc, "scan", "(II)I"⟩
abbrev c_Fc_active : ByteArray := prog_1_method_11_code
def y_Fc_active : MethodName := ⟨R_Fc, "active", "()I"⟩
abbrev c_Fc_time : ByteArray := prog_1_method_12_code
def y_Fc_time : MethodName := ⟨R_Fc, "time", "(I)I"⟩
abbrev c_Fc_enabled : ByteArray := prog_1_method_13_code
def y_Fc_enabled : MethodName := ⟨R_Fc, "enabled", "()I"⟩
abbrev c_Fc_outputs : ByteArray := prog_1_method_14_code
def y_Fc_outputs : MethodName := ⟨R_Fc, "outputs", "()I"⟩
abbrev c_Fc_stored : ByteArray := prog_1_method_15_code
def y_Fc_stored : MethodName := ⟨R_Fc, "stored", "(I)Z"⟩
abbrev c_Fc_evolutions : ByteArray := prog_1_method_16_code
def y_Fc_evolutions : MethodName := ⟨R_Fc, "evolutions", "()I"⟩
abbrev c_Fc_cleared : ByteArray := prog_1_method_17_code
def y_Fc_cleared : MethodName := ⟨R_Fc, "cleared", "()I"⟩
abbrev c_Fc_lead : ByteArray := prog_1_method_18_code
def y_Fc_lead : MethodName := ⟨R_Fc, "lead", "()I"⟩
abbrev c_Fc_period : ByteArray := prog_1_method_19_code
def y_Fc_period : MethodName := ⟨R_Fc, "period", "()I"⟩
abbrev c_Fc_forgetRun : ByteArray := prog_1_method_20_code
def y_Fc_forgetRun : MethodName := ⟨R_Fc, "forgetRun", "()V"⟩
abbrev c_Fc_comesToAnEnd : ByteArray := prog_1_method_21_code
def y_Fc_comesToAnEnd : MethodName := ⟨R_Fc, "comesToAnEnd", "()Z"⟩
abbrev c_Fc_evolve : ByteArray := prog_1_method_22_code
def y_Fc_evolve : MethodName := ⟨R_Fc, "evolve", "()Z"⟩
abbrev c_Fc_keepTrial : ByteArray := prog_1_method_23_code
def y_Fc_keepTrial : MethodName := ⟨R_Fc, "keepTrial", "(I)V"⟩
abbrev c_Fc_isIn : ByteArray := prog_1_method_24_code
def y_Fc_isIn : MethodName := ⟨R_Fc, "isIn", "(II)Z"⟩
abbrev c_Fc_isLine : ByteArray := prog_1_method_25_code
def y_Fc_isLine : MethodName := ⟨R_Fc, "isLine", "(I)Z"⟩
abbrev c_Fc_isSpan : ByteArray := prog_1_method_26_code
def y_Fc_isSpan : MethodName := ⟨R_Fc, "isSpan", "(I)Z"⟩
abbrev c_St_init : ByteArray := prog_5_method_1_code
def y_St_init : MethodName := ⟨R_St, "<init>", "()V"⟩
abbrev c_St_add : ByteArray := prog_5_method_2_code
def y_St_add : MethodName := ⟨R_St, "add", "(IZ)I"⟩
abbrev c_St_has : ByteArray := prog_5_method_3_code
def y_St_has : MethodName := ⟨R_St, "has", "(I)Z"⟩
abbrev c_St_all : ByteArray := prog_5_method_4_code
def y_St_all : MethodName := ⟨R_St, "all", "()I"⟩
abbrev c_St_partWithAll : ByteArray := prog_5_method_5_code
def y_St_partWithAll : MethodName := ⟨R_St, "partWithAll", "(I)I"⟩
abbrev c_Ex_init : ByteArray := prog_3_method_1_code
def y_Ex_init : MethodName := ⟨R_Ex, "<init>", "()V"⟩
abbrev c_Ex_has : ByteArray := prog_3_method_2_code
def y_Ex_has : MethodName := ⟨R_Ex, "has", "(I)Z"⟩
abbrev c_Ex_allow : ByteArray := prog_3_method_3_code
def y_Ex_allow : MethodName := ⟨R_Ex, "allow", "(IIILForcedChart$Steps;)Z"⟩
abbrev c_Ex_canBePart : ByteArray := prog_3_method_4_code
def y_Ex_canBePart : MethodName := ⟨R_Ex, "canBePart", "(I)Z"⟩
abbrev c_Ex_add : ByteArray := prog_3_method_5_code
def y_Ex_add : MethodName := ⟨R_Ex, "add", "(III)I"⟩
abbrev c_Ex_depthFor : ByteArray := prog_3_method_6_code
def y_Ex_depthFor : MethodName := ⟨R_Ex, "depthFor", "(III)I"⟩
abbrev c_Ex_trueIn : ByteArray := prog_3_method_7_code
def y_Ex_trueIn : MethodName := ⟨R_Ex, "trueIn", "(LForcedChart$Trial;)I"⟩
abbrev c_Ex_holds : ByteArray := prog_3_method_8_code
def y_Ex_holds : MethodName := ⟨R_Ex, "holds", "(IILForcedChart$Trial;)Z"⟩
abbrev c_Tr_init : ByteArray := prog_6_method_1_code
def y_Tr_init : MethodName := ⟨R_Tr, "<init>", "()V"⟩
abbrev c_Tr_add : ByteArray := prog_6_method_2_code
def y_Tr_add : MethodName := ⟨R_Tr, "add", "(IIII)I"⟩
abbrev c_Tr_enabledIn : ByteArray := prog_6_method_3_code
def y_Tr_enabledIn : MethodName := ⟨R_Tr, "enabledIn", "(I)I"⟩
abbrev c_Tr_dueIn : ByteArray := prog_6_method_4_code
def y_Tr_dueIn : MethodName := ⟨R_Tr, "dueIn", "(II)I"⟩
abbrev c_Tr_withoutRivals : ByteArray := prog_6_method_5_code
def y_Tr_withoutRivals : MethodName := ⟨R_Tr, "withoutRivals", "(I)I"⟩
abbrev c_Tr_preceding : ByteArray := prog_6_method_6_code
def y_Tr_preceding : MethodName := ⟨R_Tr, "preceding", "(I)I"⟩
abbrev c_Tr_succeeding : ByteArray := prog_6_method_7_code
def y_Tr_succeeding : MethodName := ⟨R_Tr, "succeeding", "(I)I"⟩
abbrev c_Tr_union : ByteArray := prog_6_method_8_code
def y_Tr_union : MethodName := ⟨R_Tr, "union", "([II)I"⟩
abbrev c_Or_init : ByteArray := prog_4_method_1_code
def y_Or_init : MethodName := ⟨R_Or, "<init>", "()V"⟩
abbrev c_Or_add : ByteArray := prog_4_method_2_code
def y_Or_add : MethodName := ⟨R_Or, "add", "(III)I"⟩
abbrev c_Or_rulingOver : ByteArray := prog_4_method_3_code
def y_Or_rulingOver : MethodName := ⟨R_Or, "rulingOver", "(II)I"⟩
abbrev c_Or_forcedSteps : ByteArray := prog_4_method_4_code
def y_Or_forcedSteps : MethodName := ⟨R_Or, "forcedSteps", "(II)I"⟩
abbrev c_Or_fixedBy : ByteArray := prog_4_method_5_code
def y_Or_fixedBy : MethodName := ⟨R_Or, "fixedBy", "(I)I"⟩
abbrev c_Ac_init : ByteArray := prog_2_method_1_code
def y_Ac_init : MethodName := ⟨R_Ac, "<init>", "()V"⟩
abbrev c_Ac_isQualifier : ByteArray := prog_2_method_2_code
def y_Ac_isQualifier : MethodName := ⟨R_Ac, "isQualifier", "(I)Z"⟩
abbrev c_Ac_add : ByteArray := prog_2_method_3_code
def y_Ac_add : MethodName := ⟨R_Ac, "add", "(IIII)I"⟩
abbrev c_Ac_isStored : ByteArray := prog_2_method_4_code
def y_Ac_isStored : MethodName := ⟨R_Ac, "isStored", "(I)Z"⟩
abbrev c_Ac_forgetStored : ByteArray := prog_2_method_5_code
def y_Ac_forgetStored : MethodName := ⟨R_Ac, "forgetStored", "()V"⟩
abbrev c_Ac_grow : ByteArray := prog_2_method_6_code
def y_Ac_grow : MethodName := ⟨R_Ac, "grow", "(I)V"⟩
abbrev c_Ac_workOut : ByteArray := prog_2_method_7_code
def y_Ac_workOut : MethodName := ⟨R_Ac, "workOut", "(II[I)I"⟩
abbrev c_Ac_resetVariables : ByteArray := prog_2_method_8_code
def y_Ac_resetVariables : MethodName := ⟨R_Ac, "resetVariables", "(I)I"⟩
abbrev c_Ac_store : ByteArray := prog_2_method_9_code
def y_Ac_store : MethodName := ⟨R_Ac, "store", "(IZZI)V"⟩
abbrev c_Ac_storesAt : ByteArray := prog_2_method_10_code
def y_Ac_storesAt : MethodName := ⟨R_Ac, "storesAt", "(II)Z"⟩
abbrev c_Ac_isOn : ByteArray := prog_2_method_11_code
def y_Ac_isOn : MethodName := ⟨R_Ac, "isOn", "(IZZI)Z"⟩
abbrev c_Ti_init : ByteArray := prog_7_method_1_code
def y_Ti_init : MethodName := ⟨R_Ti, "<init>", "()V"⟩
abbrev c_Ti_begin : ByteArray := prog_7_method_2_code
def y_Ti_begin : MethodName := ⟨R_Ti, "begin", "(I[II)V"⟩
abbrev c_Ti_sense : ByteArray := prog_7_method_3_code
def y_Ti_sense : MethodName := ⟨R_Ti, "sense", "(II)V"⟩
abbrev c_Ti_timeOf : ByteArray := prog_7_method_4_code
def y_Ti_timeOf : MethodName := ⟨R_Ti, "timeOf", "(I)I"⟩
abbrev c_Ti_endEdges : ByteArray := prog_7_method_5_code
def y_Ti_endEdges : MethodName := ⟨R_Ti, "endEdges", "()V"⟩
abbrev c_Ti_moveTo : ByteArray := prog_7_method_6_code
def y_Ti_moveTo : MethodName := ⟨R_Ti, "moveTo", "(II)Z"⟩
abbrev c_Ti_findsCycle : ByteArray := prog_7_method_7_code
def y_Ti_findsCycle : MethodName := ⟨R_Ti, "findsCycle", "()Z"⟩
abbrev c_Md_init : ByteArray := prog_9_method_1_code
def y_Md_init : MethodName := ⟨R_Md, "<init>", "()V"⟩
abbrev c_Md_in : ByteArray := prog_9_method_2_code
def y_Md_in : MethodName := ⟨R_Md, "in", "(II)Z"⟩
abbrev c_Md_isStep : ByteArray := prog_9_method_3_code
def y_Md_isStep : MethodName := ⟨R_Md, "isStep", "(I)Z"⟩
abbrev c_Md_isExpression : ByteArray := prog_9_method_4_code
def y_Md_isExpression : MethodName := ⟨R_Md, "isExpression", "(I)Z"⟩
abbrev c_Md_stepsOf : ByteArray := prog_9_method_5_code
def y_Md_stepsOf : MethodName := ⟨R_Md, "stepsOf", "(I)I"⟩
abbrev c_Md_step : ByteArray := prog_9_method_6_code
def y_Md_step : MethodName := ⟨R_Md, "step", "(IZ)I"⟩
abbrev c_Md_fits : ByteArray := prog_9_method_7_code
def y_Md_fits : MethodName := ⟨R_Md, "fits", "(III)Z"⟩
abbrev c_Md_expression : ByteArray := prog_9_method_8_code
def y_Md_expression : MethodName := ⟨R_Md, "expression", "(III)I"⟩
abbrev c_Md_transition : ByteArray := prog_9_method_9_code
def y_Md_transition : MethodName := ⟨R_Md, "transition", "(III)I"⟩
abbrev c_Md_order : ByteArray := prog_9_method_10_code
def y_Md_order : MethodName := ⟨R_Md, "order", "(III)I"⟩
abbrev c_Md_action : ByteArray := prog_9_method_11_code
def y_Md_action : MethodName := ⟨R_Md, "action", "(IIII)I"⟩
abbrev c_Md_unreached : ByteArray := prog_9_method_12_code
def y_Md_unreached : MethodName := ⟨R_Md, "unreached", "()I"⟩
abbrev c_Md_initials : ByteArray := prog_9_method_13_code
def y_Md_initials : MethodName := ⟨R_Md, "initials", "()I"⟩
abbrev c_Md_blank : ByteArray := prog_9_method_14_code
def y_Md_blank : MethodName := ⟨R_Md, "blank", "()V"⟩
abbrev c_Md_start : ByteArray := prog_9_method_15_code
def y_Md_start : MethodName := ⟨R_Md, "start", "(Z)Z"⟩
abbrev c_Md_stop : ByteArray := prog_9_method_16_code
def y_Md_stop : MethodName := ⟨R_Md, "stop", "()V"⟩
abbrev c_Md_judge : ByteArray := prog_9_method_17_code
def y_Md_judge : MethodName := ⟨R_Md, "judge", "()V"⟩
abbrev c_Md_isEnabled : ByteArray := prog_9_method_18_code
def y_Md_isEnabled : MethodName := ⟨R_Md, "isEnabled", "(I)Z"⟩
abbrev c_Md_ruling : ByteArray := prog_9_method_19_code
def y_Md_ruling : MethodName := ⟨R_Md, "ruling", "(I)I"⟩
abbrev c_Md_evolve : ByteArray := prog_9_method_20_code
def y_Md_evolve : MethodName := ⟨R_Md, "evolve", "()V"⟩
abbrev c_Md_move : ByteArray := prog_9_method_21_code
def y_Md_move : MethodName := ⟨R_Md, "move", "(I)V"⟩
abbrev c_Md_take : ByteArray := prog_9_method_22_code
def y_Md_take : MethodName := ⟨R_Md, "take", "()V"⟩
abbrev c_Md_code : ByteArray := prog_9_method_23_code
def y_Md_code : MethodName := ⟨R_Md, "code", "()I"⟩
abbrev c_Md_scan : ByteArray := prog_9_method_24_code
def y_Md_scan : MethodName := ⟨R_Md, "scan", "(II)I"⟩
abbrev c_Md_single : ByteArray := prog_9_method_25_code
def y_Md_single : MethodName := ⟨R_Md, "single", "()I"⟩
abbrev c_Md_settle : ByteArray := prog_9_method_26_code
def y_Md_settle : MethodName := ⟨R_Md, "settle", "()I"⟩
abbrev c_Md_reset : ByteArray := prog_9_method_27_code
def y_Md_reset : MethodName := ⟨R_Md, "reset", "(I)Z"⟩
abbrev c_Md_act : ByteArray := prog_9_method_28_code
def y_Md_act : MethodName := ⟨R_Md, "act", "(I)V"⟩
abbrev c_Md_store : ByteArray := prog_9_method_29_code
def y_Md_store : MethodName := ⟨R_Md, "store", "(IZ)V"⟩
abbrev c_Md_acts : ByteArray := prog_9_method_30_code
def y_Md_acts : MethodName := ⟨R_Md, "acts", "(I)Z"⟩
abbrev c_Md_active : ByteArray := prog_9_method_31_code
def y_Md_active : MethodName := ⟨R_Md, "active", "()I"⟩
abbrev c_Md_time : ByteArray := prog_9_method_32_code
def y_Md_time : MethodName := ⟨R_Md, "time", "(I)I"⟩
abbrev c_Md_enabled : ByteArray := prog_9_method_33_code
def y_Md_enabled : MethodName := ⟨R_Md, "enabled", "()I"⟩
abbrev c_Md_outputs : ByteArray := prog_9_method_34_code
def y_Md_outputs : MethodName := ⟨R_Md, "outputs", "()I"⟩
abbrev c_Md_stored : ByteArray := prog_9_method_35_code
def y_Md_stored : MethodName := ⟨R_Md, "stored", "(I)Z"⟩
abbrev c_Md_evolutions : ByteArray := prog_9_method_36_code
def y_Md_evolutions : MethodName := ⟨R_Md, "evolutions", "()I"⟩
abbrev c_Md_cleared : ByteArray := prog_9_method_37_code
def y_Md_cleared : MethodName := ⟨R_Md, "cleared", "()I"⟩
abbrev c_Md_lead : ByteArray := prog_9_method_38_code
def y_Md_lead : MethodName := ⟨R_Md, "lead", "()I"⟩
abbrev c_Md_period : ByteArray := prog_9_method_39_code
def y_Md_period : MethodName := ⟨R_Md, "period", "()I"⟩
/-! links to a nest mate's own members: they are no words of the tables' kept kind -/
def nwl : List Cond := [
  .methodLinkNest "ForcedChart" 9 ⟨"ForcedChart$Steps", "<init>", "()V"⟩ "ForcedChart",
  .fieldLinkNest "ForcedChart" 89 "ForcedChart$Steps" "partOf" "[I" "ForcedChart",
  .fieldLinkNest "ForcedChart" 92 "ForcedChart$Steps" "inPart" "[I" "ForcedChart",
  .fieldLinkNest "ForcedChart" 59 "ForcedChart$Steps" "count" "I" "ForcedChart",
  .fieldLinkNest "ForcedChart" 107 "ForcedChart$Steps" "initial" "I" "ForcedChart",
  .methodLinkNest "ForcedChart" 18 ⟨"ForcedChart$Expressions", "<init>", "()V"⟩ "ForcedChart",
  .fieldLinkNest "ForcedChart" 67 "ForcedChart$Expressions" "count" "I" "ForcedChart",
  .methodLinkNest "ForcedChart" 25 ⟨"ForcedChart$Transitions", "<init>", "()V"⟩ "ForcedChart",
  .fieldLinkNest "ForcedChart" 201 "ForcedChart$Transitions" "inPart" "[I" "ForcedChart",
  .fieldLinkNest "ForcedChart" 75 "ForcedChart$Transitions" "count" "I" "ForcedChart",
  .methodLinkNest "ForcedChart" 32 ⟨"ForcedChart$Orders", "<init>", "()V"⟩ "ForcedChart",
  .fieldLinkNest "ForcedChart" 87 "ForcedChart$Orders" "count" "I" "ForcedChart",
  .methodLinkNest "ForcedChart" 39 ⟨"ForcedChart$Actions", "<init>", "()V"⟩ "ForcedChart",
  .fieldLinkNest "ForcedChart" 96 "ForcedChart$Actions" "count" "I" "ForcedChart",
  .methodLinkNest "ForcedChart" 46 ⟨"ForcedChart$Trial", "<init>", "()V"⟩ "ForcedChart",
  .fieldLinkNest "ForcedChart$Expressions" 58 "ForcedChart$Trial" "inputs" "I" "ForcedChart",
  .fieldLinkNest "ForcedChart$Expressions" 67 "ForcedChart$Trial" "rising" "I" "ForcedChart",
  .fieldLinkNest "ForcedChart$Expressions" 70 "ForcedChart$Trial" "falling" "I" "ForcedChart",
  .fieldLinkNest "ForcedChart$Expressions" 73 "ForcedChart$Trial" "situation" "I" "ForcedChart",
  .fieldLinkNest "ForcedChart" 186 "ForcedChart$Trial" "situation" "I" "ForcedChart",
  .fieldLinkNest "ForcedChart" 218 "ForcedChart$Trial" "cleared" "I" "ForcedChart",
  .fieldLinkNest "ForcedChart" 215 "ForcedChart$Trial" "made" "I" "ForcedChart",
  .fieldLinkNest "ForcedChart" 147 "ForcedChart$Trial" "lead" "I" "ForcedChart",
  .fieldLinkNest "ForcedChart" 151 "ForcedChart$Trial" "period" "I" "ForcedChart",
  .methodLinkNest "ForcedChart$Expressions" 28 ⟨"ForcedChart", "isLine", "(I)Z"⟩ "ForcedChart",
  .methodLinkNest "ForcedChart$Expressions" 37 ⟨"ForcedChart", "isSpan", "(I)Z"⟩ "ForcedChart",
  .methodLinkNest "ForcedChart$Transitions" 32 ⟨"ForcedChart", "isIn", "(II)Z"⟩ "ForcedChart",
  .methodLinkNest "ForcedChart$Orders" 25 ⟨"ForcedChart", "isIn", "(II)Z"⟩ "ForcedChart",
  .methodLinkNest "ForcedChart$Trial" 25 ⟨"ForcedChart", "isIn", "(II)Z"⟩ "ForcedChart",
  .methodLinkNest "ForcedChart$Expressions" 63 ⟨"ForcedChart", "isIn", "(II)Z"⟩ "ForcedChart",
  .methodLinkNest "ForcedChart$Actions" 34 ⟨"ForcedChart", "isIn", "(II)Z"⟩ "ForcedChart"]
theorem nwl_ok : fx_N nwl := by
  unfold nwl
  refine List.forall_mem_cons.mpr ⟨⟨rfl, fun s U hW hZ => va_Nw.warmM hW hZ⟩, ?_⟩
  refine List.forall_mem_cons.mpr ⟨⟨rfl, fun s U hW hZ => va_Nw.warmF hW hZ⟩, ?_⟩
  refine List.forall_mem_cons.mpr ⟨⟨rfl, fun s U hW hZ => va_Nw.warmF hW hZ⟩, ?_⟩
  refine List.forall_mem_cons.mpr ⟨⟨rfl, fun s U hW hZ => va_Nw.warmF hW hZ⟩, ?_⟩
  refine List.forall_mem_cons.mpr ⟨⟨rfl, fun s U hW hZ => va_Nw.warmF hW hZ⟩, ?_⟩
  refine List.forall_mem_cons.mpr ⟨⟨rfl, fun s U hW hZ => va_Nw.warmM hW hZ⟩, ?_⟩
  refine List.forall_mem_cons.mpr ⟨⟨rfl, fun s U hW hZ => va_Nw.warmF hW hZ⟩, ?_⟩
  refine List.forall_mem_cons.mpr ⟨⟨rfl, fun s U hW hZ => va_Nw.warmM hW hZ⟩, ?_⟩
  refine List.forall_mem_cons.mpr ⟨⟨rfl, fun s U hW hZ => va_Nw.warmF hW hZ⟩, ?_⟩
  refine List.forall_mem_cons.mpr ⟨⟨rfl, fun s U hW hZ => va_Nw.warmF hW hZ⟩, ?_⟩
  refine List.forall_mem_cons.mpr ⟨⟨rfl, fun s U hW hZ => va_Nw.warmM hW hZ⟩, ?_⟩
  refine List.forall_mem_cons.mpr ⟨⟨rfl, fun s U hW hZ => va_Nw.warmF hW hZ⟩, ?_⟩
  refine List.forall_mem_cons.mpr ⟨⟨rfl, fun s U hW hZ => va_Nw.warmM hW hZ⟩, ?_⟩
  refine List.forall_mem_cons.mpr ⟨⟨rfl, fun s U hW hZ => va_Nw.warmF hW hZ⟩, ?_⟩
  refine List.forall_mem_cons.mpr ⟨⟨rfl, fun s U hW hZ => va_Nw.warmM hW hZ⟩, ?_⟩
  refine List.forall_mem_cons.mpr ⟨⟨rfl, fun s U hW hZ => va_Nw.warmF hW hZ⟩, ?_⟩
  refine List.forall_mem_cons.mpr ⟨⟨rfl, fun s U hW hZ => va_Nw.warmF hW hZ⟩, ?_⟩
  refine List.forall_mem_cons.mpr ⟨⟨rfl, fun s U hW hZ => va_Nw.warmF hW hZ⟩, ?_⟩
  refine List.forall_mem_cons.mpr ⟨⟨rfl, fun s U hW hZ => va_Nw.warmF hW hZ⟩, ?_⟩
  refine List.forall_mem_cons.mpr ⟨⟨rfl, fun s U hW hZ => va_Nw.warmF hW hZ⟩, ?_⟩
  refine List.forall_mem_cons.mpr ⟨⟨rfl, fun s U hW hZ => va_Nw.warmF hW hZ⟩, ?_⟩
  refine List.forall_mem_cons.mpr ⟨⟨rfl, fun s U hW hZ => va_Nw.warmF hW hZ⟩, ?_⟩
  refine List.forall_mem_cons.mpr ⟨⟨rfl, fun s U hW hZ => va_Nw.warmF hW hZ⟩, ?_⟩
  refine List.forall_mem_cons.mpr ⟨⟨rfl, fun s U hW hZ => va_Nw.warmF hW hZ⟩, ?_⟩
  refine List.forall_mem_cons.mpr ⟨⟨rfl, fun s U hW hZ => va_Nw.warmM hW hZ⟩, ?_⟩
  refine List.forall_mem_cons.mpr ⟨⟨rfl, fun s U hW hZ => va_Nw.warmM hW hZ⟩, ?_⟩
  refine List.forall_mem_cons.mpr ⟨⟨rfl, fun s U hW hZ => va_Nw.warmM hW hZ⟩, ?_⟩
  refine List.forall_mem_cons.mpr ⟨⟨rfl, fun s U hW hZ => va_Nw.warmM hW hZ⟩, ?_⟩
  refine List.forall_mem_cons.mpr ⟨⟨rfl, fun s U hW hZ => va_Nw.warmM hW hZ⟩, ?_⟩
  refine List.forall_mem_cons.mpr ⟨⟨rfl, fun s U hW hZ => va_Nw.warmM hW hZ⟩, ?_⟩
  refine List.forall_mem_cons.mpr ⟨⟨rfl, fun s U hW hZ => va_Nw.warmM hW hZ⟩, ?_⟩
  exact fun _ h => absurd h List.not_mem_nil
abbrev fx_K : Type := Launch × va_G × (Nat → ClassId) × (Nat → Nat)
def fx_I (κ : fx_K) (n : Nat) : Prop := ∀ i j, i < n → j < n → κ.2.2.2 i = κ.2.2.2 j → i = j
end
section
/-! words of the tables, by their places -/
theorem wd_0 : Cond.selects "ForcedChart$Expressions" ⟨"ForcedChart$Expressions", "canBePart", "(I)Z"⟩ ⟨"ForcedChart$Expressions", "canBePart", "(I)Z"⟩ ∈ TB := tb_1 0 (by decide +kernel) (by decide +kernel)
theorem wd_1 : Cond.selects "ForcedChart$Expressions" ⟨"ForcedChart$Expressions", "depthFor", "(III)I"⟩ ⟨"ForcedChart$Expressions", "depthFor", "(III)I"⟩ ∈ TB := tb_1 1 (by decide +kernel) (by decide +kernel)
theorem wd_2 : Cond.selects "ForcedChart$Transitions" ⟨"ForcedChart$Transitions", "union", "([II)I"⟩ ⟨"ForcedChart$Transitions", "union", "([II)I"⟩ ∈ TB := tb_1 2 (by decide +kernel) (by decide +kernel)
theorem wd_3 : Cond.selects "ForcedChart" ⟨"ForcedChart", "forgetRun", "()V"⟩ ⟨"ForcedChart", "forgetRun", "()V"⟩ ∈ TB := tb_1 3 (by decide +kernel) (by decide +kernel)
theorem wd_4 : Cond.selects "ForcedChart" ⟨"ForcedChart", "comesToAnEnd", "()Z"⟩ ⟨"ForcedChart", "comesToAnEnd", "()Z"⟩ ∈ TB := tb_1 4 (by decide +kernel) (by decide +kernel)
theorem wd_5 : Cond.selects "ForcedChart" ⟨"ForcedChart", "evolve", "()Z"⟩ ⟨"ForcedChart", "evolve", "()Z"⟩ ∈ TB := tb_1 5 (by decide +kernel) (by decide +kernel)
theorem wd_6 : Cond.selects "ForcedChart$Expressions" ⟨"ForcedChart$Expressions", "holds", "(IILForcedChart$Trial;)Z"⟩ ⟨"ForcedChart$Expressions", "holds", "(IILForcedChart$Trial;)Z"⟩ ∈ TB := tb_1 6 (by decide +kernel) (by decide +kernel)
theorem wd_7 : Cond.selects "ForcedChart" ⟨"ForcedChart", "keepTrial", "(I)V"⟩ ⟨"ForcedChart", "keepTrial", "(I)V"⟩ ∈ TB := tb_1 7 (by decide +kernel) (by decide +kernel)
theorem wd_8 : Cond.selects "ForcedChart$Actions" ⟨"ForcedChart$Actions", "resetVariables", "(I)I"⟩ ⟨"ForcedChart$Actions", "resetVariables", "(I)I"⟩ ∈ TB := tb_1 8 (by decide +kernel) (by decide +kernel)
theorem wd_9 : Cond.selects "ForcedChart$Actions" ⟨"ForcedChart$Actions", "store", "(IZZI)V"⟩ ⟨"ForcedChart$Actions", "store", "(IZZI)V"⟩ ∈ TB := tb_1 9 (by decide +kernel) (by decide +kernel)
theorem wd_10 : Cond.selects "ForcedChart$Actions" ⟨"ForcedChart$Actions", "storesAt", "(II)Z"⟩ ⟨"ForcedChart$Actions", "storesAt", "(II)Z"⟩ ∈ TB := tb_1 10 (by decide +kernel) (by decide +kernel)
theorem wd_11 : Cond.selects "ForcedChart$Actions" ⟨"ForcedChart$Actions", "isOn", "(IZZI)Z"⟩ ⟨"ForcedChart$Actions", "isOn", "(IZZI)Z"⟩ ∈ TB := tb_1 11 (by decide +kernel) (by decide +kernel)
theorem wd_12 : Cond.selects "ForcedChartModel" ⟨"ForcedChartModel", "fits", "(III)Z"⟩ ⟨"ForcedChartModel", "fits", "(III)Z"⟩ ∈ TB := tb_1 12 (by decide +kernel) (by decide +kernel)
theorem wd_13 : Cond.selects "ForcedChartModel" ⟨"ForcedChartModel", "isStep", "(I)Z"⟩ ⟨"ForcedChartModel", "isStep", "(I)Z"⟩ ∈ TB := tb_1 13 (by decide +kernel) (by decide +kernel)
theorem wd_14 : Cond.selects "ForcedChartModel" ⟨"ForcedChartModel", "isExpression", "(I)Z"⟩ ⟨"ForcedChartModel", "isExpression", "(I)Z"⟩ ∈ TB := tb_1 14 (by decide +kernel) (by decide +kernel)
theorem wd_15 : Cond.selects "ForcedChartModel" ⟨"ForcedChartModel", "stepsOf", "(I)I"⟩ ⟨"ForcedChartModel", "stepsOf", "(I)I"⟩ ∈ TB := tb_1 15 (by decide +kernel) (by decide +kernel)
theorem wd_16 : Cond.selects "ForcedChartModel" ⟨"ForcedChartModel", "initials", "()I"⟩ ⟨"ForcedChartModel", "initials", "()I"⟩ ∈ TB := tb_1 16 (by decide +kernel) (by decide +kernel)
theorem wd_17 : Cond.selects "ForcedChartModel" ⟨"ForcedChartModel", "blank", "()V"⟩ ⟨"ForcedChartModel", "blank", "()V"⟩ ∈ TB := tb_1 17 (by decide +kernel) (by decide +kernel)
theorem wd_18 : Cond.selects "ForcedChartModel" ⟨"ForcedChartModel", "settle", "()I"⟩ ⟨"ForcedChartModel", "settle", "()I"⟩ ∈ TB := tb_1 18 (by decide +kernel) (by decide +kernel)
theorem wd_19 : Cond.selects "ForcedChartModel" ⟨"ForcedChartModel", "evolve", "()V"⟩ ⟨"ForcedChartModel", "evolve", "()V"⟩ ∈ TB := tb_1 19 (by decide +kernel) (by decide +kernel)
theorem wd_20 : Cond.selects "ForcedChartModel" ⟨"ForcedChartModel", "judge", "()V"⟩ ⟨"ForcedChartModel", "judge", "()V"⟩ ∈ TB := tb_1 20 (by decide +kernel) (by decide +kernel)
theorem wd_21 : Cond.selects "ForcedChartModel" ⟨"ForcedChartModel", "ruling", "(I)I"⟩ ⟨"ForcedChartModel", "ruling", "(I)I"⟩ ∈ TB := tb_1 21 (by decide +kernel) (by decide +kernel)
theorem wd_22 : Cond.selects "ForcedChartModel" ⟨"ForcedChartModel", "move", "(I)V"⟩ ⟨"ForcedChartModel", "move", "(I)V"⟩ ∈ TB := tb_1 22 (by decide +kernel) (by decide +kernel)
theorem wd_23 : Cond.selects "ForcedChartModel" ⟨"ForcedChartModel", "isEnabled", "(I)Z"⟩ ⟨"ForcedChartModel", "isEnabled", "(I)Z"⟩ ∈ TB := tb_1 23 (by decide +kernel) (by decide +kernel)
theorem wd_24 : Cond.selects "ForcedChartModel" ⟨"ForcedChartModel", "take", "()V"⟩ ⟨"ForcedChartModel", "take", "()V"⟩ ∈ TB := tb_1 24 (by decide +kernel) (by decide +kernel)
theorem wd_25 : Cond.selects "ForcedChartModel" ⟨"ForcedChartModel", "code", "()I"⟩ ⟨"ForcedChartModel", "code", "()I"⟩ ∈ TB := tb_1 25 (by decide +kernel) (by decide +kernel)
theorem wd_26 : Cond.selects "ForcedChartModel" ⟨"ForcedChartModel", "single", "()I"⟩ ⟨"ForcedChartModel", "single", "()I"⟩ ∈ TB := tb_1 26 (by decide +kernel) (by decide +kernel)
theorem wd_27 : Cond.selects "ForcedChartModel" ⟨"ForcedChartModel", "act", "(I)V"⟩ ⟨"ForcedChartModel", "act", "(I)V"⟩ ∈ TB := tb_1 27 (by decide +kernel) (by decide +kernel)
theorem wd_28 : Cond.selects "ForcedChartModel" ⟨"ForcedChartModel", "reset", "(I)Z"⟩ ⟨"ForcedChartModel", "reset", "(I)Z"⟩ ∈ TB := tb_1 28 (by decide +kernel) (by decide +kernel)
theorem wd_29 : Cond.selects "ForcedChartModel" ⟨"ForcedChartModel", "store", "(IZ)V"⟩ ⟨"ForcedChartModel", "store", "(IZ)V"⟩ ∈ TB := tb_1 29 (by decide +kernel) (by decide +kernel)
theorem wd_30 : Cond.selects "ForcedChartModel" ⟨"ForcedChartModel", "acts", "(I)Z"⟩ ⟨"ForcedChartModel", "acts", "(I)Z"⟩ ∈ TB := tb_1 30 (by decide +kernel) (by decide +kernel)
theorem wd_32 : Cond.initialized "ForcedChart" ∈ TB := tb_1 32 (by decide +kernel) (by decide +kernel)
theorem wd_33 : Cond.initialized "ForcedChart$Steps" ∈ TB := tb_1 33 (by decide +kernel) (by decide +kernel)
theorem wd_34 : Cond.initialized "ForcedChart$Expressions" ∈ TB := tb_1 34 (by decide +kernel) (by decide +kernel)
theorem wd_35 : Cond.initialized "ForcedChart$Transitions" ∈ TB := tb_1 35 (by decide +kernel) (by decide +kernel)
theorem wd_36 : Cond.initialized "ForcedChart$Orders" ∈ TB := tb_1 36 (by decide +kernel) (by decide +kernel)
theorem wd_37 : Cond.initialized "ForcedChart$Actions" ∈ TB := tb_1 37 (by decide +kernel) (by decide +kernel)
theorem wd_38 : Cond.initialized "ForcedChart$Trial" ∈ TB := tb_1 38 (by decide +kernel) (by decide +kernel)
theorem wd_39 : Cond.initialized "ForcedChartModel" ∈ TB := tb_1 39 (by decide +kernel) (by decide +kernel)
theorem wd_40 : Cond.initialized "java/lang/Math" ∈ TB := tb_1 40 (by decide +kernel) (by decide +kernel)
theorem wd_55 : Cond.fieldLink "ForcedChart$Steps" 9 "ForcedChart$Steps" "partOf" "[I" ∈ TB := tb_1 55 (by decide +kernel) (by decide +kernel)
theorem wd_57 : Cond.fieldLink "ForcedChart$Steps" 15 "ForcedChart$Steps" "inPart" "[I" ∈ TB := tb_1 57 (by decide +kernel) (by decide +kernel)
theorem wd_59 : Cond.fieldLink "ForcedChart$Steps" 18 "ForcedChart$Steps" "count" "I" ∈ TB := tb_1 59 (by decide +kernel) (by decide +kernel)
theorem wd_61 : Cond.fieldLink "ForcedChart$Steps" 22 "ForcedChart$Steps" "initial" "I" ∈ TB := tb_1 61 (by decide +kernel) (by decide +kernel)
theorem wd_79 : Cond.fieldLink "ForcedChart$Expressions" 9 "ForcedChart$Expressions" "kinds" "[I" ∈ TB := tb_1 79 (by decide +kernel) (by decide +kernel)
theorem wd_80 : Cond.fieldLink "ForcedChart$Expressions" 15 "ForcedChart$Expressions" "firsts" "[I" ∈ TB := tb_1 80 (by decide +kernel) (by decide +kernel)
theorem wd_81 : Cond.fieldLink "ForcedChart$Expressions" 18 "ForcedChart$Expressions" "seconds" "[I" ∈ TB := tb_1 81 (by decide +kernel) (by decide +kernel)
theorem wd_82 : Cond.fieldLink "ForcedChart$Expressions" 21 "ForcedChart$Expressions" "depths" "[I" ∈ TB := tb_1 82 (by decide +kernel) (by decide +kernel)
theorem wd_83 : Cond.fieldLink "ForcedChart$Expressions" 24 "ForcedChart$Expressions" "count" "I" ∈ TB := tb_1 83 (by decide +kernel) (by decide +kernel)
theorem wd_102 : Cond.fieldLink "ForcedChart$Transitions" 9 "ForcedChart$Transitions" "befores" "[I" ∈ TB := tb_1 102 (by decide +kernel) (by decide +kernel)
theorem wd_103 : Cond.fieldLink "ForcedChart$Transitions" 15 "ForcedChart$Transitions" "afters" "[I" ∈ TB := tb_1 103 (by decide +kernel) (by decide +kernel)
theorem wd_104 : Cond.fieldLink "ForcedChart$Transitions" 18 "ForcedChart$Transitions" "conditions" "[I" ∈ TB := tb_1 104 (by decide +kernel) (by decide +kernel)
theorem wd_105 : Cond.fieldLink "ForcedChart$Transitions" 21 "ForcedChart$Transitions" "inPart" "[I" ∈ TB := tb_1 105 (by decide +kernel) (by decide +kernel)
theorem wd_107 : Cond.fieldLink "ForcedChart$Transitions" 24 "ForcedChart$Transitions" "count" "I" ∈ TB := tb_1 107 (by decide +kernel) (by decide +kernel)
theorem wd_126 : Cond.fieldLink "ForcedChart$Orders" 9 "ForcedChart$Orders" "givers" "[I" ∈ TB := tb_1 126 (by decide +kernel) (by decide +kernel)
theorem wd_127 : Cond.fieldLink "ForcedChart$Orders" 15 "ForcedChart$Orders" "parts" "[I" ∈ TB := tb_1 127 (by decide +kernel) (by decide +kernel)
theorem wd_128 : Cond.fieldLink "ForcedChart$Orders" 18 "ForcedChart$Orders" "fixedSets" "[I" ∈ TB := tb_1 128 (by decide +kernel) (by decide +kernel)
theorem wd_129 : Cond.fieldLink "ForcedChart$Orders" 21 "ForcedChart$Orders" "count" "I" ∈ TB := tb_1 129 (by decide +kernel) (by decide +kernel)
theorem wd_146 : Cond.fieldLink "ForcedChart$Actions" 9 "ForcedChart$Actions" "owners" "[I" ∈ TB := tb_1 146 (by decide +kernel) (by decide +kernel)
theorem wd_147 : Cond.fieldLink "ForcedChart$Actions" 15 "ForcedChart$Actions" "qualifiers" "[I" ∈ TB := tb_1 147 (by decide +kernel) (by decide +kernel)
theorem wd_148 : Cond.fieldLink "ForcedChart$Actions" 18 "ForcedChart$Actions" "variables" "[I" ∈ TB := tb_1 148 (by decide +kernel) (by decide +kernel)
theorem wd_149 : Cond.fieldLink "ForcedChart$Actions" 21 "ForcedChart$Actions" "durations" "[I" ∈ TB := tb_1 149 (by decide +kernel) (by decide +kernel)
theorem wd_150 : Cond.fieldLink "ForcedChart$Actions" 24 "ForcedChart$Actions" "ages" "[I" ∈ TB := tb_1 150 (by decide +kernel) (by decide +kernel)
theorem wd_151 : Cond.fieldLink "ForcedChart$Actions" 27 "ForcedChart$Actions" "count" "I" ∈ TB := tb_1 151 (by decide +kernel) (by decide +kernel)
theorem wd_153 : Cond.fieldLink "ForcedChart$Actions" 31 "ForcedChart$Actions" "storedSet" "I" ∈ TB := tb_1 153 (by decide +kernel) (by decide +kernel)
theorem wd_175 : Cond.fieldLink "ForcedChart$Trial" 9 "ForcedChart$Trial" "timesAtBegin" "[I" ∈ TB := tb_1 175 (by decide +kernel) (by decide +kernel)
theorem wd_176 : Cond.fieldLink "ForcedChart$Trial" 15 "ForcedChart$Trial" "states" "[I" ∈ TB := tb_1 176 (by decide +kernel) (by decide +kernel)
theorem wd_177 : Cond.fieldLink "ForcedChart$Trial" 41 "ForcedChart$Trial" "inputs" "I" ∈ TB := tb_1 177 (by decide +kernel) (by decide +kernel)
theorem wd_179 : Cond.fieldLink "ForcedChart$Trial" 44 "ForcedChart$Trial" "rising" "I" ∈ TB := tb_1 179 (by decide +kernel) (by decide +kernel)
theorem wd_181 : Cond.fieldLink "ForcedChart$Trial" 47 "ForcedChart$Trial" "falling" "I" ∈ TB := tb_1 181 (by decide +kernel) (by decide +kernel)
theorem wd_183 : Cond.fieldLink "ForcedChart$Trial" 18 "ForcedChart$Trial" "situation" "I" ∈ TB := tb_1 183 (by decide +kernel) (by decide +kernel)
theorem wd_186 : Cond.fieldLink "ForcedChart$Trial" 22 "ForcedChart$Trial" "timed" "I" ∈ TB := tb_1 186 (by decide +kernel) (by decide +kernel)
theorem wd_187 : Cond.fieldLink "ForcedChart$Trial" 29 "ForcedChart$Trial" "cleared" "I" ∈ TB := tb_1 187 (by decide +kernel) (by decide +kernel)
theorem wd_189 : Cond.fieldLink "ForcedChart$Trial" 32 "ForcedChart$Trial" "made" "I" ∈ TB := tb_1 189 (by decide +kernel) (by decide +kernel)
theorem wd_191 : Cond.fieldLink "ForcedChart$Trial" 35 "ForcedChart$Trial" "lead" "I" ∈ TB := tb_1 191 (by decide +kernel) (by decide +kernel)
theorem wd_193 : Cond.fieldLink "ForcedChart$Trial" 38 "ForcedChart$Trial" "period" "I" ∈ TB := tb_1 193 (by decide +kernel) (by decide +kernel)
theorem wd_218 : Cond.fieldLink "ForcedChart" 10 "ForcedChart" "steps" "LForcedChart$Steps;" ∈ TB := tb_1 218 (by decide +kernel) (by decide +kernel)
theorem wd_219 : Cond.fieldLink "ForcedChart" 19 "ForcedChart" "expressions" "LForcedChart$Expressions;" ∈ TB := tb_1 219 (by decide +kernel) (by decide +kernel)
theorem wd_220 : Cond.fieldLink "ForcedChart" 26 "ForcedChart" "transitions" "LForcedChart$Transitions;" ∈ TB := tb_1 220 (by decide +kernel) (by decide +kernel)
theorem wd_221 : Cond.fieldLink "ForcedChart" 33 "ForcedChart" "orders" "LForcedChart$Orders;" ∈ TB := tb_1 221 (by decide +kernel) (by decide +kernel)
theorem wd_222 : Cond.fieldLink "ForcedChart" 40 "ForcedChart" "actions" "LForcedChart$Actions;" ∈ TB := tb_1 222 (by decide +kernel) (by decide +kernel)
theorem wd_223 : Cond.fieldLink "ForcedChart" 47 "ForcedChart" "trial" "LForcedChart$Trial;" ∈ TB := tb_1 223 (by decide +kernel) (by decide +kernel)
theorem wd_224 : Cond.fieldLink "ForcedChart" 51 "ForcedChart" "times" "[I" ∈ TB := tb_1 224 (by decide +kernel) (by decide +kernel)
theorem wd_225 : Cond.fieldLink "ForcedChart" 55 "ForcedChart" "running" "Z" ∈ TB := tb_1 225 (by decide +kernel) (by decide +kernel)
theorem wd_226 : Cond.fieldLink "ForcedChart" 126 "ForcedChart" "settling" "Z" ∈ TB := tb_1 226 (by decide +kernel) (by decide +kernel)
theorem wd_227 : Cond.fieldLink "ForcedChart" 129 "ForcedChart" "situation" "I" ∈ TB := tb_1 227 (by decide +kernel) (by decide +kernel)
theorem wd_228 : Cond.fieldLink "ForcedChart" 174 "ForcedChart" "situationAtLastScan" "I" ∈ TB := tb_1 228 (by decide +kernel) (by decide +kernel)
theorem wd_229 : Cond.fieldLink "ForcedChart" 136 "ForcedChart" "inputs" "I" ∈ TB := tb_1 229 (by decide +kernel) (by decide +kernel)
theorem wd_230 : Cond.fieldLink "ForcedChart" 162 "ForcedChart" "outputs" "I" ∈ TB := tb_1 230 (by decide +kernel) (by decide +kernel)
theorem wd_231 : Cond.fieldLink "ForcedChart" 159 "ForcedChart" "evolutions" "I" ∈ TB := tb_1 231 (by decide +kernel) (by decide +kernel)
theorem wd_232 : Cond.fieldLink "ForcedChart" 168 "ForcedChart" "cleared" "I" ∈ TB := tb_1 232 (by decide +kernel) (by decide +kernel)
theorem wd_233 : Cond.fieldLink "ForcedChart" 150 "ForcedChart" "lead" "I" ∈ TB := tb_1 233 (by decide +kernel) (by decide +kernel)
theorem wd_234 : Cond.fieldLink "ForcedChart" 154 "ForcedChart" "period" "I" ∈ TB := tb_1 234 (by decide +kernel) (by decide +kernel)
theorem wd_273 : Cond.code y_Fc_step c_Fc_step 3 (some .int) ∈ TB := tb_1 273 (by decide +kernel) (by decide +kernel)
theorem wd_274 : Cond.methodLink "ForcedChart" 63 ⟨"ForcedChart$Steps", "add", "(IZ)I"⟩ ∈ TB := tb_1 274 (by decide +kernel) (by decide +kernel)
theorem wd_275 : Cond.instanceMethod ⟨"ForcedChart$Steps", "add", "(IZ)I"⟩ ∈ TB := tb_1 275 (by decide +kernel) (by decide +kernel)
theorem wd_276 : Cond.selects "ForcedChart$Steps" ⟨"ForcedChart$Steps", "add", "(IZ)I"⟩ ⟨"ForcedChart$Steps", "add", "(IZ)I"⟩ ∈ TB := tb_1 276 (by decide +kernel) (by decide +kernel)
theorem wd_277 : Cond.code y_St_add c_St_add 4 (some .int) ∈ TB := tb_1 277 (by decide +kernel) (by decide +kernel)
theorem wd_281 : Cond.code y_Fc_expression c_Fc_expression 4 (some .int) ∈ TB := tb_1 281 (by decide +kernel) (by decide +kernel)
theorem wd_282 : Cond.methodLink "ForcedChart" 68 ⟨"ForcedChart$Expressions", "allow", "(IIILForcedChart$Steps;)Z"⟩ ∈ TB := tb_1 282 (by decide +kernel) (by decide +kernel)
theorem wd_283 : Cond.instanceMethod ⟨"ForcedChart$Expressions", "allow", "(IIILForcedChart$Steps;)Z"⟩ ∈ TB := tb_1 283 (by decide +kernel) (by decide +kernel)
theorem wd_284 : Cond.selects "ForcedChart$Expressions" ⟨"ForcedChart$Expressions", "allow", "(IIILForcedChart$Steps;)Z"⟩ ⟨"ForcedChart$Expressions", "allow", "(IIILForcedChart$Steps;)Z"⟩ ∈ TB := tb_1 284 (by decide +kernel) (by decide +kernel)
theorem wd_285 : Cond.code y_Ex_allow c_Ex_allow 5 (some .boolean) ∈ TB := tb_1 285 (by decide +kernel) (by decide +kernel)
theorem wd_287 : Cond.static ⟨"ForcedChart", "isLine", "(I)Z"⟩ ∈ TB := tb_1 287 (by decide +kernel) (by decide +kernel)
theorem wd_288 : Cond.code y_Fc_isLine c_Fc_isLine 1 (some .boolean) ∈ TB := tb_1 288 (by decide +kernel) (by decide +kernel)
theorem wd_289 : Cond.methodLink "ForcedChart$Expressions" 32 ⟨"ForcedChart$Steps", "has", "(I)Z"⟩ ∈ TB := tb_1 289 (by decide +kernel) (by decide +kernel)
theorem wd_290 : Cond.instanceMethod ⟨"ForcedChart$Steps", "has", "(I)Z"⟩ ∈ TB := tb_1 290 (by decide +kernel) (by decide +kernel)
theorem wd_291 : Cond.selects "ForcedChart$Steps" ⟨"ForcedChart$Steps", "has", "(I)Z"⟩ ⟨"ForcedChart$Steps", "has", "(I)Z"⟩ ∈ TB := tb_1 291 (by decide +kernel) (by decide +kernel)
theorem wd_292 : Cond.code y_St_has c_St_has 2 (some .boolean) ∈ TB := tb_1 292 (by decide +kernel) (by decide +kernel)
theorem wd_294 : Cond.static ⟨"ForcedChart", "isSpan", "(I)Z"⟩ ∈ TB := tb_1 294 (by decide +kernel) (by decide +kernel)
theorem wd_295 : Cond.code y_Fc_isSpan c_Fc_isSpan 1 (some .boolean) ∈ TB := tb_1 295 (by decide +kernel) (by decide +kernel)
theorem wd_296 : Cond.constant "ForcedChart" 226 1000000 ∈ TB := tb_1 296 (by decide +kernel) (by decide +kernel)
theorem wd_297 : Cond.methodLink "ForcedChart$Expressions" 40 ⟨"ForcedChart$Expressions", "canBePart", "(I)Z"⟩ ∈ TB := tb_1 297 (by decide +kernel) (by decide +kernel)
theorem wd_299 : Cond.instanceMethod ⟨"ForcedChart$Expressions", "canBePart", "(I)Z"⟩ ∈ TB := tb_1 299 (by decide +kernel) (by decide +kernel)
theorem wd_300 : Cond.code y_Ex_canBePart c_Ex_canBePart 2 (some .boolean) ∈ TB := tb_1 300 (by decide +kernel) (by decide +kernel)
theorem wd_301 : Cond.methodLink "ForcedChart$Expressions" 43 ⟨"ForcedChart$Expressions", "has", "(I)Z"⟩ ∈ TB := tb_1 301 (by decide +kernel) (by decide +kernel)
theorem wd_302 : Cond.instanceMethod ⟨"ForcedChart$Expressions", "has", "(I)Z"⟩ ∈ TB := tb_1 302 (by decide +kernel) (by decide +kernel)
theorem wd_303 : Cond.selects "ForcedChart$Expressions" ⟨"ForcedChart$Expressions", "has", "(I)Z"⟩ ⟨"ForcedChart$Expressions", "has", "(I)Z"⟩ ∈ TB := tb_1 303 (by decide +kernel) (by decide +kernel)
theorem wd_304 : Cond.code y_Ex_has c_Ex_has 2 (some .boolean) ∈ TB := tb_1 304 (by decide +kernel) (by decide +kernel)
theorem wd_305 : Cond.methodLink "ForcedChart" 72 ⟨"ForcedChart$Expressions", "add", "(III)I"⟩ ∈ TB := tb_1 305 (by decide +kernel) (by decide +kernel)
theorem wd_306 : Cond.instanceMethod ⟨"ForcedChart$Expressions", "add", "(III)I"⟩ ∈ TB := tb_1 306 (by decide +kernel) (by decide +kernel)
theorem wd_307 : Cond.selects "ForcedChart$Expressions" ⟨"ForcedChart$Expressions", "add", "(III)I"⟩ ⟨"ForcedChart$Expressions", "add", "(III)I"⟩ ∈ TB := tb_1 307 (by decide +kernel) (by decide +kernel)
theorem wd_308 : Cond.code y_Ex_add c_Ex_add 5 (some .int) ∈ TB := tb_1 308 (by decide +kernel) (by decide +kernel)
theorem wd_309 : Cond.methodLink "ForcedChart$Expressions" 44 ⟨"ForcedChart$Expressions", "depthFor", "(III)I"⟩ ∈ TB := tb_1 309 (by decide +kernel) (by decide +kernel)
theorem wd_311 : Cond.instanceMethod ⟨"ForcedChart$Expressions", "depthFor", "(III)I"⟩ ∈ TB := tb_1 311 (by decide +kernel) (by decide +kernel)
theorem wd_312 : Cond.code y_Ex_depthFor c_Ex_depthFor 4 (some .int) ∈ TB := tb_1 312 (by decide +kernel) (by decide +kernel)
theorem wd_313 : Cond.methodLink "ForcedChart$Expressions" 48 Lib.Math.max.name ∈ TB := tb_1 313 (by decide +kernel) (by decide +kernel)
theorem wd_314 : Cond.static ⟨"java/lang/Math", "max", "(II)I"⟩ ∈ TB := tb_1 314 (by decide +kernel) (by decide +kernel)
theorem wd_315 : Cond.code Lib.Math.max.name Lib.Math.max.code 2 (some .int) ∈ TB := tb_1 315 (by decide +kernel) (by decide +kernel)
theorem wd_319 : Cond.code y_Fc_transition c_Fc_transition 5 (some .int) ∈ TB := tb_1 319 (by decide +kernel) (by decide +kernel)
theorem wd_320 : Cond.methodLink "ForcedChart" 76 ⟨"ForcedChart$Steps", "partWithAll", "(I)I"⟩ ∈ TB := tb_1 320 (by decide +kernel) (by decide +kernel)
theorem wd_321 : Cond.instanceMethod ⟨"ForcedChart$Steps", "partWithAll", "(I)I"⟩ ∈ TB := tb_1 321 (by decide +kernel) (by decide +kernel)
theorem wd_322 : Cond.selects "ForcedChart$Steps" ⟨"ForcedChart$Steps", "partWithAll", "(I)I"⟩ ⟨"ForcedChart$Steps", "partWithAll", "(I)I"⟩ ∈ TB := tb_1 322 (by decide +kernel) (by decide +kernel)
theorem wd_323 : Cond.code y_St_partWithAll c_St_partWithAll 3 (some .int) ∈ TB := tb_1 323 (by decide +kernel) (by decide +kernel)
theorem wd_324 : Cond.methodLink "ForcedChart" 80 ⟨"ForcedChart$Expressions", "has", "(I)Z"⟩ ∈ TB := tb_1 324 (by decide +kernel) (by decide +kernel)
theorem wd_325 : Cond.methodLink "ForcedChart" 84 ⟨"ForcedChart$Transitions", "add", "(IIII)I"⟩ ∈ TB := tb_1 325 (by decide +kernel) (by decide +kernel)
theorem wd_326 : Cond.instanceMethod ⟨"ForcedChart$Transitions", "add", "(IIII)I"⟩ ∈ TB := tb_1 326 (by decide +kernel) (by decide +kernel)
theorem wd_327 : Cond.selects "ForcedChart$Transitions" ⟨"ForcedChart$Transitions", "add", "(IIII)I"⟩ ⟨"ForcedChart$Transitions", "add", "(IIII)I"⟩ ∈ TB := tb_1 327 (by decide +kernel) (by decide +kernel)
theorem wd_328 : Cond.code y_Tr_add c_Tr_add 6 (some .int) ∈ TB := tb_1 328 (by decide +kernel) (by decide +kernel)
theorem wd_332 : Cond.code y_Fc_order c_Fc_order 4 (some .int) ∈ TB := tb_1 332 (by decide +kernel) (by decide +kernel)
theorem wd_333 : Cond.methodLink "ForcedChart" 88 ⟨"ForcedChart$Steps", "has", "(I)Z"⟩ ∈ TB := tb_1 333 (by decide +kernel) (by decide +kernel)
theorem wd_334 : Cond.methodLink "ForcedChart" 95 ⟨"ForcedChart$Orders", "add", "(III)I"⟩ ∈ TB := tb_1 334 (by decide +kernel) (by decide +kernel)
theorem wd_335 : Cond.instanceMethod ⟨"ForcedChart$Orders", "add", "(III)I"⟩ ∈ TB := tb_1 335 (by decide +kernel) (by decide +kernel)
theorem wd_336 : Cond.selects "ForcedChart$Orders" ⟨"ForcedChart$Orders", "add", "(III)I"⟩ ⟨"ForcedChart$Orders", "add", "(III)I"⟩ ∈ TB := tb_1 336 (by decide +kernel) (by decide +kernel)
theorem wd_337 : Cond.code y_Or_add c_Or_add 5 (some .int) ∈ TB := tb_1 337 (by decide +kernel) (by decide +kernel)
theorem wd_341 : Cond.code y_Fc_action c_Fc_action 5 (some .int) ∈ TB := tb_1 341 (by decide +kernel) (by decide +kernel)
theorem wd_342 : Cond.methodLink "ForcedChart" 97 ⟨"ForcedChart$Actions", "isQualifier", "(I)Z"⟩ ∈ TB := tb_1 342 (by decide +kernel) (by decide +kernel)
theorem wd_343 : Cond.static ⟨"ForcedChart$Actions", "isQualifier", "(I)Z"⟩ ∈ TB := tb_1 343 (by decide +kernel) (by decide +kernel)
theorem wd_344 : Cond.code y_Ac_isQualifier c_Ac_isQualifier 1 (some .boolean) ∈ TB := tb_1 344 (by decide +kernel) (by decide +kernel)
theorem wd_345 : Cond.methodLink "ForcedChart" 100 ⟨"ForcedChart", "isLine", "(I)Z"⟩ ∈ TB := tb_1 345 (by decide +kernel) (by decide +kernel)
theorem wd_346 : Cond.methodLink "ForcedChart" 103 ⟨"ForcedChart", "isSpan", "(I)Z"⟩ ∈ TB := tb_1 346 (by decide +kernel) (by decide +kernel)
theorem wd_347 : Cond.methodLink "ForcedChart" 106 ⟨"ForcedChart$Actions", "add", "(IIII)I"⟩ ∈ TB := tb_1 347 (by decide +kernel) (by decide +kernel)
theorem wd_348 : Cond.instanceMethod ⟨"ForcedChart$Actions", "add", "(IIII)I"⟩ ∈ TB := tb_1 348 (by decide +kernel) (by decide +kernel)
theorem wd_349 : Cond.selects "ForcedChart$Actions" ⟨"ForcedChart$Actions", "add", "(IIII)I"⟩ ⟨"ForcedChart$Actions", "add", "(IIII)I"⟩ ∈ TB := tb_1 349 (by decide +kernel) (by decide +kernel)
theorem wd_350 : Cond.code y_Ac_add c_Ac_add 6 (some .int) ∈ TB := tb_1 350 (by decide +kernel) (by decide +kernel)
theorem wd_354 : Cond.code y_Fc_unreached c_Fc_unreached 3 (some .int) ∈ TB := tb_1 354 (by decide +kernel) (by decide +kernel)
theorem wd_355 : Cond.methodLink "ForcedChart" 110 ⟨"ForcedChart$Transitions", "enabledIn", "(I)I"⟩ ∈ TB := tb_1 355 (by decide +kernel) (by decide +kernel)
theorem wd_356 : Cond.instanceMethod ⟨"ForcedChart$Transitions", "enabledIn", "(I)I"⟩ ∈ TB := tb_1 356 (by decide +kernel) (by decide +kernel)
theorem wd_357 : Cond.selects "ForcedChart$Transitions" ⟨"ForcedChart$Transitions", "enabledIn", "(I)I"⟩ ⟨"ForcedChart$Transitions", "enabledIn", "(I)I"⟩ ∈ TB := tb_1 357 (by decide +kernel) (by decide +kernel)
theorem wd_358 : Cond.code y_Tr_enabledIn c_Tr_enabledIn 4 (some .int) ∈ TB := tb_1 358 (by decide +kernel) (by decide +kernel)
theorem wd_359 : Cond.methodLink "ForcedChart" 113 ⟨"ForcedChart$Transitions", "succeeding", "(I)I"⟩ ∈ TB := tb_1 359 (by decide +kernel) (by decide +kernel)
theorem wd_360 : Cond.instanceMethod ⟨"ForcedChart$Transitions", "succeeding", "(I)I"⟩ ∈ TB := tb_1 360 (by decide +kernel) (by decide +kernel)
theorem wd_361 : Cond.selects "ForcedChart$Transitions" ⟨"ForcedChart$Transitions", "succeeding", "(I)I"⟩ ⟨"ForcedChart$Transitions", "succeeding", "(I)I"⟩ ∈ TB := tb_1 361 (by decide +kernel) (by decide +kernel)
theorem wd_362 : Cond.code y_Tr_succeeding c_Tr_succeeding 2 (some .int) ∈ TB := tb_1 362 (by decide +kernel) (by decide +kernel)
theorem wd_363 : Cond.methodLink "ForcedChart$Transitions" 36 ⟨"ForcedChart$Transitions", "union", "([II)I"⟩ ∈ TB := tb_1 363 (by decide +kernel) (by decide +kernel)
theorem wd_365 : Cond.instanceMethod ⟨"ForcedChart$Transitions", "union", "([II)I"⟩ ∈ TB := tb_1 365 (by decide +kernel) (by decide +kernel)
theorem wd_366 : Cond.code y_Tr_union c_Tr_union 5 (some .int) ∈ TB := tb_1 366 (by decide +kernel) (by decide +kernel)
theorem wd_368 : Cond.static ⟨"ForcedChart", "isIn", "(II)Z"⟩ ∈ TB := tb_1 368 (by decide +kernel) (by decide +kernel)
theorem wd_369 : Cond.code y_Fc_isIn c_Fc_isIn 2 (some .boolean) ∈ TB := tb_1 369 (by decide +kernel) (by decide +kernel)
theorem wd_370 : Cond.methodLink "ForcedChart" 116 ⟨"ForcedChart$Orders", "fixedBy", "(I)I"⟩ ∈ TB := tb_1 370 (by decide +kernel) (by decide +kernel)
theorem wd_371 : Cond.instanceMethod ⟨"ForcedChart$Orders", "fixedBy", "(I)I"⟩ ∈ TB := tb_1 371 (by decide +kernel) (by decide +kernel)
theorem wd_372 : Cond.selects "ForcedChart$Orders" ⟨"ForcedChart$Orders", "fixedBy", "(I)I"⟩ ⟨"ForcedChart$Orders", "fixedBy", "(I)I"⟩ ∈ TB := tb_1 372 (by decide +kernel) (by decide +kernel)
theorem wd_373 : Cond.code y_Or_fixedBy c_Or_fixedBy 4 (some .int) ∈ TB := tb_1 373 (by decide +kernel) (by decide +kernel)
theorem wd_375 : Cond.methodLink "ForcedChart$Orders" 29 ⟨"ForcedChart$Orders", "forcedSteps", "(II)I"⟩ ∈ TB := tb_1 375 (by decide +kernel) (by decide +kernel)
theorem wd_376 : Cond.instanceMethod ⟨"ForcedChart$Orders", "forcedSteps", "(II)I"⟩ ∈ TB := tb_1 376 (by decide +kernel) (by decide +kernel)
theorem wd_377 : Cond.selects "ForcedChart$Orders" ⟨"ForcedChart$Orders", "forcedSteps", "(II)I"⟩ ⟨"ForcedChart$Orders", "forcedSteps", "(II)I"⟩ ∈ TB := tb_1 377 (by decide +kernel) (by decide +kernel)
theorem wd_378 : Cond.code y_Or_forcedSteps c_Or_forcedSteps 3 (some .int) ∈ TB := tb_1 378 (by decide +kernel) (by decide +kernel)
theorem wd_379 : Cond.methodLink "ForcedChart" 119 ⟨"ForcedChart$Steps", "all", "()I"⟩ ∈ TB := tb_1 379 (by decide +kernel) (by decide +kernel)
theorem wd_380 : Cond.instanceMethod ⟨"ForcedChart$Steps", "all", "()I"⟩ ∈ TB := tb_1 380 (by decide +kernel) (by decide +kernel)
theorem wd_381 : Cond.selects "ForcedChart$Steps" ⟨"ForcedChart$Steps", "all", "()I"⟩ ⟨"ForcedChart$Steps", "all", "()I"⟩ ∈ TB := tb_1 381 (by decide +kernel) (by decide +kernel)
theorem wd_382 : Cond.code y_St_all c_St_all 1 (some .int) ∈ TB := tb_1 382 (by decide +kernel) (by decide +kernel)
theorem wd_386 : Cond.code y_Fc_start c_Fc_start 2 (some .boolean) ∈ TB := tb_1 386 (by decide +kernel) (by decide +kernel)
theorem wd_387 : Cond.methodLink "ForcedChart" 123 ⟨"ForcedChart", "forgetRun", "()V"⟩ ∈ TB := tb_1 387 (by decide +kernel) (by decide +kernel)
theorem wd_389 : Cond.instanceMethod ⟨"ForcedChart", "forgetRun", "()V"⟩ ∈ TB := tb_1 389 (by decide +kernel) (by decide +kernel)
theorem wd_390 : Cond.code y_Fc_forgetRun c_Fc_forgetRun 2 none ∈ TB := tb_1 390 (by decide +kernel) (by decide +kernel)
theorem wd_391 : Cond.methodLink "ForcedChart" 171 ⟨"ForcedChart$Actions", "forgetStored", "()V"⟩ ∈ TB := tb_1 391 (by decide +kernel) (by decide +kernel)
theorem wd_392 : Cond.instanceMethod ⟨"ForcedChart$Actions", "forgetStored", "()V"⟩ ∈ TB := tb_1 392 (by decide +kernel) (by decide +kernel)
theorem wd_393 : Cond.selects "ForcedChart$Actions" ⟨"ForcedChart$Actions", "forgetStored", "()V"⟩ ⟨"ForcedChart$Actions", "forgetStored", "()V"⟩ ∈ TB := tb_1 393 (by decide +kernel) (by decide +kernel)
theorem wd_394 : Cond.code y_Ac_forgetStored c_Ac_forgetStored 1 none ∈ TB := tb_1 394 (by decide +kernel) (by decide +kernel)
theorem wd_398 : Cond.code y_Fc_stop c_Fc_stop 1 none ∈ TB := tb_1 398 (by decide +kernel) (by decide +kernel)
theorem wd_402 : Cond.code y_Fc_scan c_Fc_scan 5 (some .int) ∈ TB := tb_1 402 (by decide +kernel) (by decide +kernel)
theorem wd_403 : Cond.methodLink "ForcedChart" 132 ⟨"ForcedChart$Trial", "begin", "(I[II)V"⟩ ∈ TB := tb_1 403 (by decide +kernel) (by decide +kernel)
theorem wd_404 : Cond.instanceMethod ⟨"ForcedChart$Trial", "begin", "(I[II)V"⟩ ∈ TB := tb_1 404 (by decide +kernel) (by decide +kernel)
theorem wd_405 : Cond.selects "ForcedChart$Trial" ⟨"ForcedChart$Trial", "begin", "(I[II)V"⟩ ⟨"ForcedChart$Trial", "begin", "(I[II)V"⟩ ∈ TB := tb_1 405 (by decide +kernel) (by decide +kernel)
theorem wd_406 : Cond.code y_Ti_begin c_Ti_begin 5 none ∈ TB := tb_1 406 (by decide +kernel) (by decide +kernel)
theorem wd_408 : Cond.methodLink "ForcedChart" 139 ⟨"ForcedChart$Trial", "sense", "(II)V"⟩ ∈ TB := tb_1 408 (by decide +kernel) (by decide +kernel)
theorem wd_409 : Cond.instanceMethod ⟨"ForcedChart$Trial", "sense", "(II)V"⟩ ∈ TB := tb_1 409 (by decide +kernel) (by decide +kernel)
theorem wd_410 : Cond.selects "ForcedChart$Trial" ⟨"ForcedChart$Trial", "sense", "(II)V"⟩ ⟨"ForcedChart$Trial", "sense", "(II)V"⟩ ∈ TB := tb_1 410 (by decide +kernel) (by decide +kernel)
theorem wd_411 : Cond.code y_Ti_sense c_Ti_sense 3 none ∈ TB := tb_1 411 (by decide +kernel) (by decide +kernel)
theorem wd_412 : Cond.methodLink "ForcedChart" 143 ⟨"ForcedChart", "comesToAnEnd", "()Z"⟩ ∈ TB := tb_1 412 (by decide +kernel) (by decide +kernel)
theorem wd_414 : Cond.instanceMethod ⟨"ForcedChart", "comesToAnEnd", "()Z"⟩ ∈ TB := tb_1 414 (by decide +kernel) (by decide +kernel)
theorem wd_415 : Cond.code y_Fc_comesToAnEnd c_Fc_comesToAnEnd 2 (some .boolean) ∈ TB := tb_1 415 (by decide +kernel) (by decide +kernel)
theorem wd_416 : Cond.methodLink "ForcedChart" 177 ⟨"ForcedChart", "evolve", "()Z"⟩ ∈ TB := tb_1 416 (by decide +kernel) (by decide +kernel)
theorem wd_418 : Cond.instanceMethod ⟨"ForcedChart", "evolve", "()Z"⟩ ∈ TB := tb_1 418 (by decide +kernel) (by decide +kernel)
theorem wd_419 : Cond.code y_Fc_evolve c_Fc_evolve 9 (some .boolean) ∈ TB := tb_1 419 (by decide +kernel) (by decide +kernel)
theorem wd_420 : Cond.methodLink "ForcedChart" 187 ⟨"ForcedChart$Expressions", "trueIn", "(LForcedChart$Trial;)I"⟩ ∈ TB := tb_1 420 (by decide +kernel) (by decide +kernel)
theorem wd_421 : Cond.instanceMethod ⟨"ForcedChart$Expressions", "trueIn", "(LForcedChart$Trial;)I"⟩ ∈ TB := tb_1 421 (by decide +kernel) (by decide +kernel)
theorem wd_422 : Cond.selects "ForcedChart$Expressions" ⟨"ForcedChart$Expressions", "trueIn", "(LForcedChart$Trial;)I"⟩ ⟨"ForcedChart$Expressions", "trueIn", "(LForcedChart$Trial;)I"⟩ ∈ TB := tb_1 422 (by decide +kernel) (by decide +kernel)
theorem wd_423 : Cond.code y_Ex_trueIn c_Ex_trueIn 4 (some .int) ∈ TB := tb_1 423 (by decide +kernel) (by decide +kernel)
theorem wd_424 : Cond.methodLink "ForcedChart$Expressions" 54 ⟨"ForcedChart$Expressions", "holds", "(IILForcedChart$Trial;)Z"⟩ ∈ TB := tb_1 424 (by decide +kernel) (by decide +kernel)
theorem wd_426 : Cond.instanceMethod ⟨"ForcedChart$Expressions", "holds", "(IILForcedChart$Trial;)Z"⟩ ∈ TB := tb_1 426 (by decide +kernel) (by decide +kernel)
theorem wd_427 : Cond.code y_Ex_holds c_Ex_holds 6 (some .boolean) ∈ TB := tb_1 427 (by decide +kernel) (by decide +kernel)
theorem wd_429 : Cond.methodLink "ForcedChart$Expressions" 76 ⟨"ForcedChart$Trial", "timeOf", "(I)I"⟩ ∈ TB := tb_1 429 (by decide +kernel) (by decide +kernel)
theorem wd_430 : Cond.instanceMethod ⟨"ForcedChart$Trial", "timeOf", "(I)I"⟩ ∈ TB := tb_1 430 (by decide +kernel) (by decide +kernel)
theorem wd_431 : Cond.selects "ForcedChart$Trial" ⟨"ForcedChart$Trial", "timeOf", "(I)I"⟩ ⟨"ForcedChart$Trial", "timeOf", "(I)I"⟩ ∈ TB := tb_1 431 (by decide +kernel) (by decide +kernel)
theorem wd_432 : Cond.code y_Ti_timeOf c_Ti_timeOf 2 (some .int) ∈ TB := tb_1 432 (by decide +kernel) (by decide +kernel)
theorem wd_433 : Cond.methodLink "ForcedChart" 191 ⟨"ForcedChart$Transitions", "dueIn", "(II)I"⟩ ∈ TB := tb_1 433 (by decide +kernel) (by decide +kernel)
theorem wd_434 : Cond.instanceMethod ⟨"ForcedChart$Transitions", "dueIn", "(II)I"⟩ ∈ TB := tb_1 434 (by decide +kernel) (by decide +kernel)
theorem wd_435 : Cond.selects "ForcedChart$Transitions" ⟨"ForcedChart$Transitions", "dueIn", "(II)I"⟩ ⟨"ForcedChart$Transitions", "dueIn", "(II)I"⟩ ∈ TB := tb_1 435 (by decide +kernel) (by decide +kernel)
theorem wd_436 : Cond.code y_Tr_dueIn c_Tr_dueIn 5 (some .int) ∈ TB := tb_1 436 (by decide +kernel) (by decide +kernel)
theorem wd_437 : Cond.methodLink "ForcedChart$Transitions" 28 ⟨"ForcedChart$Transitions", "enabledIn", "(I)I"⟩ ∈ TB := tb_1 437 (by decide +kernel) (by decide +kernel)
theorem wd_438 : Cond.methodLink "ForcedChart" 195 ⟨"ForcedChart$Orders", "rulingOver", "(II)I"⟩ ∈ TB := tb_1 438 (by decide +kernel) (by decide +kernel)
theorem wd_439 : Cond.instanceMethod ⟨"ForcedChart$Orders", "rulingOver", "(II)I"⟩ ∈ TB := tb_1 439 (by decide +kernel) (by decide +kernel)
theorem wd_440 : Cond.selects "ForcedChart$Orders" ⟨"ForcedChart$Orders", "rulingOver", "(II)I"⟩ ⟨"ForcedChart$Orders", "rulingOver", "(II)I"⟩ ∈ TB := tb_1 440 (by decide +kernel) (by decide +kernel)
theorem wd_441 : Cond.code y_Or_rulingOver c_Or_rulingOver 4 (some .int) ∈ TB := tb_1 441 (by decide +kernel) (by decide +kernel)
theorem wd_442 : Cond.methodLink "ForcedChart" 198 ⟨"ForcedChart$Orders", "forcedSteps", "(II)I"⟩ ∈ TB := tb_1 442 (by decide +kernel) (by decide +kernel)
theorem wd_443 : Cond.methodLink "ForcedChart" 202 ⟨"ForcedChart$Transitions", "withoutRivals", "(I)I"⟩ ∈ TB := tb_1 443 (by decide +kernel) (by decide +kernel)
theorem wd_444 : Cond.instanceMethod ⟨"ForcedChart$Transitions", "withoutRivals", "(I)I"⟩ ∈ TB := tb_1 444 (by decide +kernel) (by decide +kernel)
theorem wd_445 : Cond.selects "ForcedChart$Transitions" ⟨"ForcedChart$Transitions", "withoutRivals", "(I)I"⟩ ⟨"ForcedChart$Transitions", "withoutRivals", "(I)I"⟩ ∈ TB := tb_1 445 (by decide +kernel) (by decide +kernel)
theorem wd_446 : Cond.code y_Tr_withoutRivals c_Tr_withoutRivals 5 (some .int) ∈ TB := tb_1 446 (by decide +kernel) (by decide +kernel)
theorem wd_447 : Cond.methodLink "ForcedChart" 205 ⟨"ForcedChart$Transitions", "preceding", "(I)I"⟩ ∈ TB := tb_1 447 (by decide +kernel) (by decide +kernel)
theorem wd_448 : Cond.instanceMethod ⟨"ForcedChart$Transitions", "preceding", "(I)I"⟩ ∈ TB := tb_1 448 (by decide +kernel) (by decide +kernel)
theorem wd_449 : Cond.selects "ForcedChart$Transitions" ⟨"ForcedChart$Transitions", "preceding", "(I)I"⟩ ⟨"ForcedChart$Transitions", "preceding", "(I)I"⟩ ∈ TB := tb_1 449 (by decide +kernel) (by decide +kernel)
theorem wd_450 : Cond.code y_Tr_preceding c_Tr_preceding 2 (some .int) ∈ TB := tb_1 450 (by decide +kernel) (by decide +kernel)
theorem wd_451 : Cond.methodLink "ForcedChart" 208 ⟨"ForcedChart$Trial", "moveTo", "(II)Z"⟩ ∈ TB := tb_1 451 (by decide +kernel) (by decide +kernel)
theorem wd_452 : Cond.instanceMethod ⟨"ForcedChart$Trial", "moveTo", "(II)Z"⟩ ∈ TB := tb_1 452 (by decide +kernel) (by decide +kernel)
theorem wd_453 : Cond.selects "ForcedChart$Trial" ⟨"ForcedChart$Trial", "moveTo", "(II)Z"⟩ ⟨"ForcedChart$Trial", "moveTo", "(II)Z"⟩ ∈ TB := tb_1 453 (by decide +kernel) (by decide +kernel)
theorem wd_454 : Cond.code y_Ti_moveTo c_Ti_moveTo 3 (some .boolean) ∈ TB := tb_1 454 (by decide +kernel) (by decide +kernel)
theorem wd_455 : Cond.methodLink "ForcedChart" 180 ⟨"ForcedChart$Trial", "endEdges", "()V"⟩ ∈ TB := tb_1 455 (by decide +kernel) (by decide +kernel)
theorem wd_456 : Cond.instanceMethod ⟨"ForcedChart$Trial", "endEdges", "()V"⟩ ∈ TB := tb_1 456 (by decide +kernel) (by decide +kernel)
theorem wd_457 : Cond.selects "ForcedChart$Trial" ⟨"ForcedChart$Trial", "endEdges", "()V"⟩ ⟨"ForcedChart$Trial", "endEdges", "()V"⟩ ∈ TB := tb_1 457 (by decide +kernel) (by decide +kernel)
theorem wd_458 : Cond.code y_Ti_endEdges c_Ti_endEdges 1 none ∈ TB := tb_1 458 (by decide +kernel) (by decide +kernel)
theorem wd_459 : Cond.methodLink "ForcedChart" 183 ⟨"ForcedChart$Trial", "findsCycle", "()Z"⟩ ∈ TB := tb_1 459 (by decide +kernel) (by decide +kernel)
theorem wd_460 : Cond.instanceMethod ⟨"ForcedChart$Trial", "findsCycle", "()Z"⟩ ∈ TB := tb_1 460 (by decide +kernel) (by decide +kernel)
theorem wd_461 : Cond.selects "ForcedChart$Trial" ⟨"ForcedChart$Trial", "findsCycle", "()Z"⟩ ⟨"ForcedChart$Trial", "findsCycle", "()Z"⟩ ∈ TB := tb_1 461 (by decide +kernel) (by decide +kernel)
theorem wd_462 : Cond.code y_Ti_findsCycle c_Ti_findsCycle 3 (some .boolean) ∈ TB := tb_1 462 (by decide +kernel) (by decide +kernel)
theorem wd_463 : Cond.methodLink "ForcedChart" 155 ⟨"ForcedChart", "keepTrial", "(I)V"⟩ ∈ TB := tb_1 463 (by decide +kernel) (by decide +kernel)
theorem wd_465 : Cond.instanceMethod ⟨"ForcedChart", "keepTrial", "(I)V"⟩ ∈ TB := tb_1 465 (by decide +kernel) (by decide +kernel)
theorem wd_466 : Cond.code y_Fc_keepTrial c_Fc_keepTrial 3 none ∈ TB := tb_1 466 (by decide +kernel) (by decide +kernel)
theorem wd_467 : Cond.methodLink "ForcedChart" 212 ⟨"ForcedChart$Trial", "timeOf", "(I)I"⟩ ∈ TB := tb_1 467 (by decide +kernel) (by decide +kernel)
theorem wd_468 : Cond.methodLink "ForcedChart" 219 ⟨"ForcedChart$Actions", "grow", "(I)V"⟩ ∈ TB := tb_1 468 (by decide +kernel) (by decide +kernel)
theorem wd_469 : Cond.instanceMethod ⟨"ForcedChart$Actions", "grow", "(I)V"⟩ ∈ TB := tb_1 469 (by decide +kernel) (by decide +kernel)
theorem wd_470 : Cond.selects "ForcedChart$Actions" ⟨"ForcedChart$Actions", "grow", "(I)V"⟩ ⟨"ForcedChart$Actions", "grow", "(I)V"⟩ ∈ TB := tb_1 470 (by decide +kernel) (by decide +kernel)
theorem wd_471 : Cond.code y_Ac_grow c_Ac_grow 3 none ∈ TB := tb_1 471 (by decide +kernel) (by decide +kernel)
theorem wd_473 : Cond.methodLink "ForcedChart" 222 ⟨"ForcedChart$Actions", "workOut", "(II[I)I"⟩ ∈ TB := tb_1 473 (by decide +kernel) (by decide +kernel)
theorem wd_474 : Cond.instanceMethod ⟨"ForcedChart$Actions", "workOut", "(II[I)I"⟩ ∈ TB := tb_1 474 (by decide +kernel) (by decide +kernel)
theorem wd_475 : Cond.selects "ForcedChart$Actions" ⟨"ForcedChart$Actions", "workOut", "(II[I)I"⟩ ⟨"ForcedChart$Actions", "workOut", "(II[I)I"⟩ ∈ TB := tb_1 475 (by decide +kernel) (by decide +kernel)
theorem wd_476 : Cond.code y_Ac_workOut c_Ac_workOut 10 (some .int) ∈ TB := tb_1 476 (by decide +kernel) (by decide +kernel)
theorem wd_477 : Cond.methodLink "ForcedChart$Actions" 38 ⟨"ForcedChart$Actions", "resetVariables", "(I)I"⟩ ∈ TB := tb_1 477 (by decide +kernel) (by decide +kernel)
theorem wd_479 : Cond.instanceMethod ⟨"ForcedChart$Actions", "resetVariables", "(I)I"⟩ ∈ TB := tb_1 479 (by decide +kernel) (by decide +kernel)
theorem wd_480 : Cond.code y_Ac_resetVariables c_Ac_resetVariables 4 (some .int) ∈ TB := tb_1 480 (by decide +kernel) (by decide +kernel)
theorem wd_481 : Cond.methodLink "ForcedChart$Actions" 42 ⟨"ForcedChart$Actions", "store", "(IZZI)V"⟩ ∈ TB := tb_1 481 (by decide +kernel) (by decide +kernel)
theorem wd_483 : Cond.instanceMethod ⟨"ForcedChart$Actions", "store", "(IZZI)V"⟩ ∈ TB := tb_1 483 (by decide +kernel) (by decide +kernel)
theorem wd_484 : Cond.code y_Ac_store c_Ac_store 5 none ∈ TB := tb_1 484 (by decide +kernel) (by decide +kernel)
theorem wd_485 : Cond.methodLink "ForcedChart$Actions" 50 ⟨"ForcedChart$Actions", "storesAt", "(II)Z"⟩ ∈ TB := tb_1 485 (by decide +kernel) (by decide +kernel)
theorem wd_487 : Cond.instanceMethod ⟨"ForcedChart$Actions", "storesAt", "(II)Z"⟩ ∈ TB := tb_1 487 (by decide +kernel) (by decide +kernel)
theorem wd_488 : Cond.code y_Ac_storesAt c_Ac_storesAt 3 (some .boolean) ∈ TB := tb_1 488 (by decide +kernel) (by decide +kernel)
theorem wd_489 : Cond.methodLink "ForcedChart$Actions" 46 ⟨"ForcedChart$Actions", "isOn", "(IZZI)Z"⟩ ∈ TB := tb_1 489 (by decide +kernel) (by decide +kernel)
theorem wd_491 : Cond.instanceMethod ⟨"ForcedChart$Actions", "isOn", "(IZZI)Z"⟩ ∈ TB := tb_1 491 (by decide +kernel) (by decide +kernel)
theorem wd_492 : Cond.code y_Ac_isOn c_Ac_isOn 7 (some .boolean) ∈ TB := tb_1 492 (by decide +kernel) (by decide +kernel)
theorem wd_496 : Cond.code y_Fc_active c_Fc_active 1 (some .int) ∈ TB := tb_1 496 (by decide +kernel) (by decide +kernel)
theorem wd_500 : Cond.code y_Fc_time c_Fc_time 2 (some .int) ∈ TB := tb_1 500 (by decide +kernel) (by decide +kernel)
theorem wd_504 : Cond.code y_Fc_enabled c_Fc_enabled 1 (some .int) ∈ TB := tb_1 504 (by decide +kernel) (by decide +kernel)
theorem wd_508 : Cond.code y_Fc_outputs c_Fc_outputs 1 (some .int) ∈ TB := tb_1 508 (by decide +kernel) (by decide +kernel)
theorem wd_512 : Cond.code y_Fc_stored c_Fc_stored 2 (some .boolean) ∈ TB := tb_1 512 (by decide +kernel) (by decide +kernel)
theorem wd_513 : Cond.methodLink "ForcedChart" 165 ⟨"ForcedChart$Actions", "isStored", "(I)Z"⟩ ∈ TB := tb_1 513 (by decide +kernel) (by decide +kernel)
theorem wd_514 : Cond.instanceMethod ⟨"ForcedChart$Actions", "isStored", "(I)Z"⟩ ∈ TB := tb_1 514 (by decide +kernel) (by decide +kernel)
theorem wd_515 : Cond.selects "ForcedChart$Actions" ⟨"ForcedChart$Actions", "isStored", "(I)Z"⟩ ⟨"ForcedChart$Actions", "isStored", "(I)Z"⟩ ∈ TB := tb_1 515 (by decide +kernel) (by decide +kernel)
theorem wd_516 : Cond.code y_Ac_isStored c_Ac_isStored 2 (some .boolean) ∈ TB := tb_1 516 (by decide +kernel) (by decide +kernel)
theorem wd_520 : Cond.code y_Fc_evolutions c_Fc_evolutions 1 (some .int) ∈ TB := tb_1 520 (by decide +kernel) (by decide +kernel)
theorem wd_524 : Cond.code y_Fc_cleared c_Fc_cleared 1 (some .int) ∈ TB := tb_1 524 (by decide +kernel) (by decide +kernel)
theorem wd_528 : Cond.code y_Fc_lead c_Fc_lead 1 (some .int) ∈ TB := tb_1 528 (by decide +kernel) (by decide +kernel)
theorem wd_532 : Cond.code y_Fc_period c_Fc_period 1 (some .int) ∈ TB := tb_1 532 (by decide +kernel) (by decide +kernel)
theorem wd_539 : Cond.fieldLink "ForcedChartModel" 77 "ForcedChartModel" "steps" "I" ∈ TB := tb_1 539 (by decide +kernel) (by decide +kernel)
theorem wd_540 : Cond.fieldLink "ForcedChartModel" 7 "ForcedChartModel" "partOf" "[I" ∈ TB := tb_1 540 (by decide +kernel) (by decide +kernel)
theorem wd_541 : Cond.fieldLink "ForcedChartModel" 13 "ForcedChartModel" "initial" "[Z" ∈ TB := tb_1 541 (by decide +kernel) (by decide +kernel)
theorem wd_542 : Cond.fieldLink "ForcedChartModel" 81 "ForcedChartModel" "expressions" "I" ∈ TB := tb_1 542 (by decide +kernel) (by decide +kernel)
theorem wd_543 : Cond.fieldLink "ForcedChartModel" 17 "ForcedChartModel" "kind" "[I" ∈ TB := tb_1 543 (by decide +kernel) (by decide +kernel)
theorem wd_544 : Cond.fieldLink "ForcedChartModel" 20 "ForcedChartModel" "first" "[I" ∈ TB := tb_1 544 (by decide +kernel) (by decide +kernel)
theorem wd_545 : Cond.fieldLink "ForcedChartModel" 23 "ForcedChartModel" "second" "[I" ∈ TB := tb_1 545 (by decide +kernel) (by decide +kernel)
theorem wd_546 : Cond.fieldLink "ForcedChartModel" 26 "ForcedChartModel" "deep" "[I" ∈ TB := tb_1 546 (by decide +kernel) (by decide +kernel)
theorem wd_547 : Cond.fieldLink "ForcedChartModel" 29 "ForcedChartModel" "holds" "[Z" ∈ TB := tb_1 547 (by decide +kernel) (by decide +kernel)
theorem wd_548 : Cond.fieldLink "ForcedChartModel" 100 "ForcedChartModel" "transitions" "I" ∈ TB := tb_1 548 (by decide +kernel) (by decide +kernel)
theorem wd_549 : Cond.fieldLink "ForcedChartModel" 32 "ForcedChartModel" "from" "[I" ∈ TB := tb_1 549 (by decide +kernel) (by decide +kernel)
theorem wd_550 : Cond.fieldLink "ForcedChartModel" 35 "ForcedChartModel" "to" "[I" ∈ TB := tb_1 550 (by decide +kernel) (by decide +kernel)
theorem wd_551 : Cond.fieldLink "ForcedChartModel" 38 "ForcedChartModel" "condition" "[I" ∈ TB := tb_1 551 (by decide +kernel) (by decide +kernel)
theorem wd_552 : Cond.fieldLink "ForcedChartModel" 107 "ForcedChartModel" "orders" "I" ∈ TB := tb_1 552 (by decide +kernel) (by decide +kernel)
theorem wd_553 : Cond.fieldLink "ForcedChartModel" 41 "ForcedChartModel" "orderStep" "[I" ∈ TB := tb_1 553 (by decide +kernel) (by decide +kernel)
theorem wd_554 : Cond.fieldLink "ForcedChartModel" 44 "ForcedChartModel" "orderPart" "[I" ∈ TB := tb_1 554 (by decide +kernel) (by decide +kernel)
theorem wd_555 : Cond.fieldLink "ForcedChartModel" 47 "ForcedChartModel" "orderFixed" "[I" ∈ TB := tb_1 555 (by decide +kernel) (by decide +kernel)
theorem wd_556 : Cond.fieldLink "ForcedChartModel" 110 "ForcedChartModel" "actions" "I" ∈ TB := tb_1 556 (by decide +kernel) (by decide +kernel)
theorem wd_557 : Cond.fieldLink "ForcedChartModel" 50 "ForcedChartModel" "actionStep" "[I" ∈ TB := tb_1 557 (by decide +kernel) (by decide +kernel)
theorem wd_558 : Cond.fieldLink "ForcedChartModel" 53 "ForcedChartModel" "qualifier" "[I" ∈ TB := tb_1 558 (by decide +kernel) (by decide +kernel)
theorem wd_559 : Cond.fieldLink "ForcedChartModel" 56 "ForcedChartModel" "variable" "[I" ∈ TB := tb_1 559 (by decide +kernel) (by decide +kernel)
theorem wd_560 : Cond.fieldLink "ForcedChartModel" 59 "ForcedChartModel" "duration" "[I" ∈ TB := tb_1 560 (by decide +kernel) (by decide +kernel)
theorem wd_561 : Cond.fieldLink "ForcedChartModel" 62 "ForcedChartModel" "kept" "[Z" ∈ TB := tb_1 561 (by decide +kernel) (by decide +kernel)
theorem wd_562 : Cond.fieldLink "ForcedChartModel" 65 "ForcedChartModel" "age" "[I" ∈ TB := tb_1 562 (by decide +kernel) (by decide +kernel)
theorem wd_563 : Cond.fieldLink "ForcedChartModel" 84 "ForcedChartModel" "runs" "Z" ∈ TB := tb_1 563 (by decide +kernel) (by decide +kernel)
theorem wd_564 : Cond.fieldLink "ForcedChartModel" 148 "ForcedChartModel" "settling" "Z" ∈ TB := tb_1 564 (by decide +kernel) (by decide +kernel)
theorem wd_565 : Cond.fieldLink "ForcedChartModel" 121 "ForcedChartModel" "situation" "I" ∈ TB := tb_1 565 (by decide +kernel) (by decide +kernel)
theorem wd_566 : Cond.fieldLink "ForcedChartModel" 68 "ForcedChartModel" "passed" "[I" ∈ TB := tb_1 566 (by decide +kernel) (by decide +kernel)
theorem wd_567 : Cond.fieldLink "ForcedChartModel" 124 "ForcedChartModel" "earlier" "I" ∈ TB := tb_1 567 (by decide +kernel) (by decide +kernel)
theorem wd_568 : Cond.fieldLink "ForcedChartModel" 127 "ForcedChartModel" "given" "I" ∈ TB := tb_1 568 (by decide +kernel) (by decide +kernel)
theorem wd_569 : Cond.fieldLink "ForcedChartModel" 130 "ForcedChartModel" "on" "I" ∈ TB := tb_1 569 (by decide +kernel) (by decide +kernel)
theorem wd_570 : Cond.fieldLink "ForcedChartModel" 133 "ForcedChartModel" "made" "I" ∈ TB := tb_1 570 (by decide +kernel) (by decide +kernel)
theorem wd_571 : Cond.fieldLink "ForcedChartModel" 136 "ForcedChartModel" "done" "I" ∈ TB := tb_1 571 (by decide +kernel) (by decide +kernel)
theorem wd_572 : Cond.fieldLink "ForcedChartModel" 139 "ForcedChartModel" "lead" "I" ∈ TB := tb_1 572 (by decide +kernel) (by decide +kernel)
theorem wd_573 : Cond.fieldLink "ForcedChartModel" 142 "ForcedChartModel" "period" "I" ∈ TB := tb_1 573 (by decide +kernel) (by decide +kernel)
theorem wd_574 : Cond.fieldLink "ForcedChartModel" 179 "ForcedChartModel" "oldSituation" "I" ∈ TB := tb_1 574 (by decide +kernel) (by decide +kernel)
theorem wd_575 : Cond.fieldLink "ForcedChartModel" 71 "ForcedChartModel" "oldPassed" "[I" ∈ TB := tb_1 575 (by decide +kernel) (by decide +kernel)
theorem wd_576 : Cond.fieldLink "ForcedChartModel" 151 "ForcedChartModel" "inputs" "I" ∈ TB := tb_1 576 (by decide +kernel) (by decide +kernel)
theorem wd_577 : Cond.fieldLink "ForcedChartModel" 154 "ForcedChartModel" "rising" "I" ∈ TB := tb_1 577 (by decide +kernel) (by decide +kernel)
theorem wd_578 : Cond.fieldLink "ForcedChartModel" 157 "ForcedChartModel" "falling" "I" ∈ TB := tb_1 578 (by decide +kernel) (by decide +kernel)
theorem wd_579 : Cond.fieldLink "ForcedChartModel" 160 "ForcedChartModel" "next" "I" ∈ TB := tb_1 579 (by decide +kernel) (by decide +kernel)
theorem wd_580 : Cond.fieldLink "ForcedChartModel" 166 "ForcedChartModel" "clearedNow" "I" ∈ TB := tb_1 580 (by decide +kernel) (by decide +kernel)
theorem wd_581 : Cond.fieldLink "ForcedChartModel" 74 "ForcedChartModel" "seen" "[I" ∈ TB := tb_1 581 (by decide +kernel) (by decide +kernel)
theorem wd_673 : Cond.code y_Md_step c_Md_step 3 (some .int) ∈ TB := tb_1 673 (by decide +kernel) (by decide +kernel)
theorem wd_677 : Cond.code y_Md_expression c_Md_expression 5 (some .int) ∈ TB := tb_1 677 (by decide +kernel) (by decide +kernel)
theorem wd_678 : Cond.methodLink "ForcedChartModel" 96 ⟨"ForcedChartModel", "fits", "(III)Z"⟩ ∈ TB := tb_1 678 (by decide +kernel) (by decide +kernel)
theorem wd_680 : Cond.instanceMethod ⟨"ForcedChartModel", "fits", "(III)Z"⟩ ∈ TB := tb_1 680 (by decide +kernel) (by decide +kernel)
theorem wd_681 : Cond.code y_Md_fits c_Md_fits 4 (some .boolean) ∈ TB := tb_1 681 (by decide +kernel) (by decide +kernel)
theorem wd_682 : Cond.methodLink "ForcedChartModel" 88 ⟨"ForcedChartModel", "isStep", "(I)Z"⟩ ∈ TB := tb_1 682 (by decide +kernel) (by decide +kernel)
theorem wd_684 : Cond.instanceMethod ⟨"ForcedChartModel", "isStep", "(I)Z"⟩ ∈ TB := tb_1 684 (by decide +kernel) (by decide +kernel)
theorem wd_685 : Cond.code y_Md_isStep c_Md_isStep 2 (some .boolean) ∈ TB := tb_1 685 (by decide +kernel) (by decide +kernel)
theorem wd_686 : Cond.constant "ForcedChartModel" 92 1000000 ∈ TB := tb_1 686 (by decide +kernel) (by decide +kernel)
theorem wd_687 : Cond.methodLink "ForcedChartModel" 93 ⟨"ForcedChartModel", "isExpression", "(I)Z"⟩ ∈ TB := tb_1 687 (by decide +kernel) (by decide +kernel)
theorem wd_689 : Cond.instanceMethod ⟨"ForcedChartModel", "isExpression", "(I)Z"⟩ ∈ TB := tb_1 689 (by decide +kernel) (by decide +kernel)
theorem wd_690 : Cond.code y_Md_isExpression c_Md_isExpression 2 (some .boolean) ∈ TB := tb_1 690 (by decide +kernel) (by decide +kernel)
theorem wd_694 : Cond.code y_Md_transition c_Md_transition 6 (some .int) ∈ TB := tb_1 694 (by decide +kernel) (by decide +kernel)
theorem wd_695 : Cond.methodLink "ForcedChartModel" 103 ⟨"ForcedChartModel", "stepsOf", "(I)I"⟩ ∈ TB := tb_1 695 (by decide +kernel) (by decide +kernel)
theorem wd_697 : Cond.instanceMethod ⟨"ForcedChartModel", "stepsOf", "(I)I"⟩ ∈ TB := tb_1 697 (by decide +kernel) (by decide +kernel)
theorem wd_698 : Cond.code y_Md_stepsOf c_Md_stepsOf 4 (some .int) ∈ TB := tb_1 698 (by decide +kernel) (by decide +kernel)
theorem wd_702 : Cond.code y_Md_order c_Md_order 4 (some .int) ∈ TB := tb_1 702 (by decide +kernel) (by decide +kernel)
theorem wd_706 : Cond.code y_Md_action c_Md_action 5 (some .int) ∈ TB := tb_1 706 (by decide +kernel) (by decide +kernel)
theorem wd_710 : Cond.code y_Md_unreached c_Md_unreached 4 (some .int) ∈ TB := tb_1 710 (by decide +kernel) (by decide +kernel)
theorem wd_711 : Cond.methodLink "ForcedChartModel" 113 ⟨"ForcedChartModel", "initials", "()I"⟩ ∈ TB := tb_1 711 (by decide +kernel) (by decide +kernel)
theorem wd_713 : Cond.instanceMethod ⟨"ForcedChartModel", "initials", "()I"⟩ ∈ TB := tb_1 713 (by decide +kernel) (by decide +kernel)
theorem wd_714 : Cond.code y_Md_initials c_Md_initials 3 (some .int) ∈ TB := tb_1 714 (by decide +kernel) (by decide +kernel)
theorem wd_715 : Cond.methodLink "ForcedChartModel" 117 ⟨"ForcedChartModel", "in", "(II)Z"⟩ ∈ TB := tb_1 715 (by decide +kernel) (by decide +kernel)
theorem wd_716 : Cond.static ⟨"ForcedChartModel", "in", "(II)Z"⟩ ∈ TB := tb_1 716 (by decide +kernel) (by decide +kernel)
theorem wd_717 : Cond.code y_Md_in c_Md_in 2 (some .boolean) ∈ TB := tb_1 717 (by decide +kernel) (by decide +kernel)
theorem wd_721 : Cond.code y_Md_start c_Md_start 2 (some .boolean) ∈ TB := tb_1 721 (by decide +kernel) (by decide +kernel)
theorem wd_722 : Cond.methodLink "ForcedChartModel" 145 ⟨"ForcedChartModel", "blank", "()V"⟩ ∈ TB := tb_1 722 (by decide +kernel) (by decide +kernel)
theorem wd_724 : Cond.instanceMethod ⟨"ForcedChartModel", "blank", "()V"⟩ ∈ TB := tb_1 724 (by decide +kernel) (by decide +kernel)
theorem wd_725 : Cond.code y_Md_blank c_Md_blank 2 none ∈ TB := tb_1 725 (by decide +kernel) (by decide +kernel)
theorem wd_729 : Cond.code y_Md_stop c_Md_stop 1 none ∈ TB := tb_1 729 (by decide +kernel) (by decide +kernel)
theorem wd_733 : Cond.code y_Md_scan c_Md_scan 5 (some .int) ∈ TB := tb_1 733 (by decide +kernel) (by decide +kernel)
theorem wd_734 : Cond.methodLink "ForcedChartModel" 182 ⟨"ForcedChartModel", "settle", "()I"⟩ ∈ TB := tb_1 734 (by decide +kernel) (by decide +kernel)
theorem wd_736 : Cond.instanceMethod ⟨"ForcedChartModel", "settle", "()I"⟩ ∈ TB := tb_1 736 (by decide +kernel) (by decide +kernel)
theorem wd_737 : Cond.code y_Md_settle c_Md_settle 4 (some .int) ∈ TB := tb_1 737 (by decide +kernel) (by decide +kernel)
theorem wd_738 : Cond.methodLink "ForcedChartModel" 191 ⟨"ForcedChartModel", "evolve", "()V"⟩ ∈ TB := tb_1 738 (by decide +kernel) (by decide +kernel)
theorem wd_740 : Cond.instanceMethod ⟨"ForcedChartModel", "evolve", "()V"⟩ ∈ TB := tb_1 740 (by decide +kernel) (by decide +kernel)
theorem wd_741 : Cond.code y_Md_evolve c_Md_evolve 4 none ∈ TB := tb_1 741 (by decide +kernel) (by decide +kernel)
theorem wd_742 : Cond.methodLink "ForcedChartModel" 163 ⟨"ForcedChartModel", "judge", "()V"⟩ ∈ TB := tb_1 742 (by decide +kernel) (by decide +kernel)
theorem wd_744 : Cond.instanceMethod ⟨"ForcedChartModel", "judge", "()V"⟩ ∈ TB := tb_1 744 (by decide +kernel) (by decide +kernel)
theorem wd_745 : Cond.code y_Md_judge c_Md_judge 4 none ∈ TB := tb_1 745 (by decide +kernel) (by decide +kernel)
theorem wd_746 : Cond.methodLink "ForcedChartModel" 169 ⟨"ForcedChartModel", "ruling", "(I)I"⟩ ∈ TB := tb_1 746 (by decide +kernel) (by decide +kernel)
theorem wd_748 : Cond.instanceMethod ⟨"ForcedChartModel", "ruling", "(I)I"⟩ ∈ TB := tb_1 748 (by decide +kernel) (by decide +kernel)
theorem wd_749 : Cond.code y_Md_ruling c_Md_ruling 4 (some .int) ∈ TB := tb_1 749 (by decide +kernel) (by decide +kernel)
theorem wd_750 : Cond.methodLink "ForcedChartModel" 172 ⟨"ForcedChartModel", "move", "(I)V"⟩ ∈ TB := tb_1 750 (by decide +kernel) (by decide +kernel)
theorem wd_752 : Cond.instanceMethod ⟨"ForcedChartModel", "move", "(I)V"⟩ ∈ TB := tb_1 752 (by decide +kernel) (by decide +kernel)
theorem wd_753 : Cond.code y_Md_move c_Md_move 6 none ∈ TB := tb_1 753 (by decide +kernel) (by decide +kernel)
theorem wd_754 : Cond.methodLink "ForcedChartModel" 176 ⟨"ForcedChartModel", "isEnabled", "(I)Z"⟩ ∈ TB := tb_1 754 (by decide +kernel) (by decide +kernel)
theorem wd_756 : Cond.instanceMethod ⟨"ForcedChartModel", "isEnabled", "(I)Z"⟩ ∈ TB := tb_1 756 (by decide +kernel) (by decide +kernel)
theorem wd_757 : Cond.code y_Md_isEnabled c_Md_isEnabled 2 (some .boolean) ∈ TB := tb_1 757 (by decide +kernel) (by decide +kernel)
theorem wd_758 : Cond.methodLink "ForcedChartModel" 194 ⟨"ForcedChartModel", "take", "()V"⟩ ∈ TB := tb_1 758 (by decide +kernel) (by decide +kernel)
theorem wd_760 : Cond.instanceMethod ⟨"ForcedChartModel", "take", "()V"⟩ ∈ TB := tb_1 760 (by decide +kernel) (by decide +kernel)
theorem wd_761 : Cond.code y_Md_take c_Md_take 3 none ∈ TB := tb_1 761 (by decide +kernel) (by decide +kernel)
theorem wd_762 : Cond.methodLink "ForcedChartModel" 197 ⟨"ForcedChartModel", "code", "()I"⟩ ∈ TB := tb_1 762 (by decide +kernel) (by decide +kernel)
theorem wd_764 : Cond.instanceMethod ⟨"ForcedChartModel", "code", "()I"⟩ ∈ TB := tb_1 764 (by decide +kernel) (by decide +kernel)
theorem wd_765 : Cond.code y_Md_code c_Md_code 3 (some .int) ∈ TB := tb_1 765 (by decide +kernel) (by decide +kernel)
theorem wd_766 : Cond.methodLink "ForcedChartModel" 185 ⟨"ForcedChartModel", "single", "()I"⟩ ∈ TB := tb_1 766 (by decide +kernel) (by decide +kernel)
theorem wd_768 : Cond.instanceMethod ⟨"ForcedChartModel", "single", "()I"⟩ ∈ TB := tb_1 768 (by decide +kernel) (by decide +kernel)
theorem wd_769 : Cond.code y_Md_single c_Md_single 2 (some .int) ∈ TB := tb_1 769 (by decide +kernel) (by decide +kernel)
theorem wd_770 : Cond.methodLink "ForcedChartModel" 188 ⟨"ForcedChartModel", "act", "(I)V"⟩ ∈ TB := tb_1 770 (by decide +kernel) (by decide +kernel)
theorem wd_772 : Cond.instanceMethod ⟨"ForcedChartModel", "act", "(I)V"⟩ ∈ TB := tb_1 772 (by decide +kernel) (by decide +kernel)
theorem wd_773 : Cond.code y_Md_act c_Md_act 4 none ∈ TB := tb_1 773 (by decide +kernel) (by decide +kernel)
theorem wd_774 : Cond.methodLink "ForcedChartModel" 200 ⟨"ForcedChartModel", "reset", "(I)Z"⟩ ∈ TB := tb_1 774 (by decide +kernel) (by decide +kernel)
theorem wd_776 : Cond.instanceMethod ⟨"ForcedChartModel", "reset", "(I)Z"⟩ ∈ TB := tb_1 776 (by decide +kernel) (by decide +kernel)
theorem wd_777 : Cond.code y_Md_reset c_Md_reset 4 (some .boolean) ∈ TB := tb_1 777 (by decide +kernel) (by decide +kernel)
theorem wd_778 : Cond.methodLink "ForcedChartModel" 203 ⟨"ForcedChartModel", "store", "(IZ)V"⟩ ∈ TB := tb_1 778 (by decide +kernel) (by decide +kernel)
theorem wd_780 : Cond.instanceMethod ⟨"ForcedChartModel", "store", "(IZ)V"⟩ ∈ TB := tb_1 780 (by decide +kernel) (by decide +kernel)
theorem wd_781 : Cond.code y_Md_store c_Md_store 5 none ∈ TB := tb_1 781 (by decide +kernel) (by decide +kernel)
theorem wd_782 : Cond.methodLink "ForcedChartModel" 207 ⟨"ForcedChartModel", "acts", "(I)Z"⟩ ∈ TB := tb_1 782 (by decide +kernel) (by decide +kernel)
theorem wd_784 : Cond.instanceMethod ⟨"ForcedChartModel", "acts", "(I)Z"⟩ ∈ TB := tb_1 784 (by decide +kernel) (by decide +kernel)
theorem wd_785 : Cond.code y_Md_acts c_Md_acts 7 (some .boolean) ∈ TB := tb_1 785 (by decide +kernel) (by decide +kernel)
theorem wd_789 : Cond.code y_Md_active c_Md_active 1 (some .int) ∈ TB := tb_1 789 (by decide +kernel) (by decide +kernel)
theorem wd_793 : Cond.code y_Md_time c_Md_time 2 (some .int) ∈ TB := tb_1 793 (by decide +kernel) (by decide +kernel)
theorem wd_797 : Cond.code y_Md_enabled c_Md_enabled 3 (some .int) ∈ TB := tb_1 797 (by decide +kernel) (by decide +kernel)
theorem wd_801 : Cond.code y_Md_outputs c_Md_outputs 1 (some .int) ∈ TB := tb_1 801 (by decide +kernel) (by decide +kernel)
theorem wd_805 : Cond.code y_Md_stored c_Md_stored 2 (some .boolean) ∈ TB := tb_1 805 (by decide +kernel) (by decide +kernel)
theorem wd_809 : Cond.code y_Md_evolutions c_Md_evolutions 1 (some .int) ∈ TB := tb_1 809 (by decide +kernel) (by decide +kernel)
theorem wd_813 : Cond.code y_Md_cleared c_Md_cleared 1 (some .int) ∈ TB := tb_1 813 (by decide +kernel) (by decide +kernel)
theorem wd_817 : Cond.code y_Md_lead c_Md_lead 1 (some .int) ∈ TB := tb_1 817 (by decide +kernel) (by decide +kernel)
theorem wd_821 : Cond.code y_Md_period c_Md_period 1 (some .int) ∈ TB := tb_1 821 (by decide +kernel) (by decide +kernel)
theorem pd_Ac_add : y_Ac_add.cls ≠ "java/lang/invoke/MethodHandle" ∧ y_Ac_add.cls ≠ "java/lang/invoke/VarHandle" ∧ (parseMethodDescriptor y_Ac_add.desc).map (fun d => d.parameters.length) = some 4 := by decide +kernel
theorem pd_Ac_forgetStored : y_Ac_forgetStored.cls ≠ "java/lang/invoke/MethodHandle" ∧ y_Ac_forgetStored.cls ≠ "java/lang/invoke/VarHandle" ∧ (parseMethodDescriptor y_Ac_forgetStored.desc).map (fun d => d.parameters.length) = some 0 := by decide +kernel
theorem pd_Ac_grow : y_Ac_grow.cls ≠ "java/lang/invoke/MethodHandle" ∧ y_Ac_grow.cls ≠ "java/lang/invoke/VarHandle" ∧ (parseMethodDescriptor y_Ac_grow.desc).map (fun d => d.parameters.length) = some 1 := by decide +kernel
theorem pd_Ac_isOn : y_Ac_isOn.cls ≠ "java/lang/invoke/MethodHandle" ∧ y_Ac_isOn.cls ≠ "java/lang/invoke/VarHandle" ∧ (parseMethodDescriptor y_Ac_isOn.desc).map (fun d => d.parameters.length) = some 4 := by decide +kernel
theorem pd_Ac_isQualifier : y_Ac_isQualifier.cls ≠ "java/lang/invoke/MethodHandle" ∧ y_Ac_isQualifier.cls ≠ "java/lang/invoke/VarHandle" ∧ (parseMethodDescriptor y_Ac_isQualifier.desc).map (fun d => d.parameters.length) = some 1 := by decide +kernel
theorem pd_Ac_isStored : y_Ac_isStored.cls ≠ "java/lang/invoke/MethodHandle" ∧ y_Ac_isStored.cls ≠ "java/lang/invoke/VarHandle" ∧ (parseMethodDescriptor y_Ac_isStored.desc).map (fun d => d.parameters.length) = some 1 := by decide +kernel
theorem pd_Ac_resetVariables : y_Ac_resetVariables.cls ≠ "java/lang/invoke/MethodHandle" ∧ y_Ac_resetVariables.cls ≠ "java/lang/invoke/VarHandle" ∧ (parseMethodDescriptor y_Ac_resetVariables.desc).map (fun d => d.parameters.length) = some 1 := by decide +kernel
theorem pd_Ac_store : y_Ac_store.cls ≠ "java/lang/invoke/MethodHandle" ∧ y_Ac_store.cls ≠ "java/lang/invoke/VarHandle" ∧ (parseMethodDescriptor y_Ac_store.desc).map (fun d => d.parameters.length) = some 4 := by decide +kernel
theorem pd_Ac_storesAt : y_Ac_storesAt.cls ≠ "java/lang/invoke/MethodHandle" ∧ y_Ac_storesAt.cls ≠ "java/lang/invoke/VarHandle" ∧ (parseMethodDescriptor y_Ac_storesAt.desc).map (fun d => d.parameters.length) = some 2 := by decide +kernel
theorem pd_Ac_workOut : y_Ac_workOut.cls ≠ "java/lang/invoke/MethodHandle" ∧ y_Ac_workOut.cls ≠ "java/lang/invoke/VarHandle" ∧ (parseMethodDescriptor y_Ac_workOut.desc).map (fun d => d.parameters.length) = some 3 := by decide +kernel
theorem pd_Ex_add : y_Ex_add.cls ≠ "java/lang/invoke/MethodHandle" ∧ y_Ex_add.cls ≠ "java/lang/invoke/VarHandle" ∧ (parseMethodDescriptor y_Ex_add.desc).map (fun d => d.parameters.length) = some 3 := by decide +kernel
theorem pd_Ex_allow : y_Ex_allow.cls ≠ "java/lang/invoke/MethodHandle" ∧ y_Ex_allow.cls ≠ "java/lang/invoke/VarHandle" ∧ (parseMethodDescriptor y_Ex_allow.desc).map (fun d => d.parameters.length) = some 4 := by decide +kernel
theorem pd_Ex_canBePart : y_Ex_canBePart.cls ≠ "java/lang/invoke/MethodHandle" ∧ y_Ex_canBePart.cls ≠ "java/lang/invoke/VarHandle" ∧ (parseMethodDescriptor y_Ex_canBePart.desc).map (fun d => d.parameters.length) = some 1 := by decide +kernel
theorem pd_Ex_depthFor : y_Ex_depthFor.cls ≠ "java/lang/invoke/MethodHandle" ∧ y_Ex_depthFor.cls ≠ "java/lang/invoke/VarHandle" ∧ (parseMethodDescriptor y_Ex_depthFor.desc).map (fun d => d.parameters.length) = some 3 := by decide +kernel
theorem pd_Ex_has : y_Ex_has.cls ≠ "java/lang/invoke/MethodHandle" ∧ y_Ex_has.cls ≠ "java/lang/invoke/VarHandle" ∧ (parseMethodDescriptor y_Ex_has.desc).map (fun d => d.parameters.length) = some 1 := by decide +kernel
theorem pd_Ex_holds : y_Ex_holds.cls ≠ "java/lang/invoke/MethodHandle" ∧ y_Ex_holds.cls ≠ "java/lang/invoke/VarHandle" ∧ (parseMethodDescriptor y_Ex_holds.desc).map (fun d => d.parameters.length) = some 3 := by decide +kernel
theorem pd_Ex_trueIn : y_Ex_trueIn.cls ≠ "java/lang/invoke/MethodHandle" ∧ y_Ex_trueIn.cls ≠ "java/lang/invoke/VarHandle" ∧ (parseMethodDescriptor y_Ex_trueIn.desc).map (fun d => d.parameters.length) = some 1 := by decide +kernel
theorem pd_Fc_comesToAnEnd : y_Fc_comesToAnEnd.cls ≠ "java/lang/invoke/MethodHandle" ∧ y_Fc_comesToAnEnd.cls ≠ "java/lang/invoke/VarHandle" ∧ (parseMethodDescriptor y_Fc_comesToAnEnd.desc).map (fun d => d.parameters.length) = some 0 := by decide +kernel
theorem pd_Fc_evolve : y_Fc_evolve.cls ≠ "java/lang/invoke/MethodHandle" ∧ y_Fc_evolve.cls ≠ "java/lang/invoke/VarHandle" ∧ (parseMethodDescriptor y_Fc_evolve.desc).map (fun d => d.parameters.length) = some 0 := by decide +kernel
theorem pd_Fc_forgetRun : y_Fc_forgetRun.cls ≠ "java/lang/invoke/MethodHandle" ∧ y_Fc_forgetRun.cls ≠ "java/lang/invoke/VarHandle" ∧ (parseMethodDescriptor y_Fc_forgetRun.desc).map (fun d => d.parameters.length) = some 0 := by decide +kernel
theorem pd_Fc_isIn : y_Fc_isIn.cls ≠ "java/lang/invoke/MethodHandle" ∧ y_Fc_isIn.cls ≠ "java/lang/invoke/VarHandle" ∧ (parseMethodDescriptor y_Fc_isIn.desc).map (fun d => d.parameters.length) = some 2 := by decide +kernel
theorem pd_Fc_isLine : y_Fc_isLine.cls ≠ "java/lang/invoke/MethodHandle" ∧ y_Fc_isLine.cls ≠ "java/lang/invoke/VarHandle" ∧ (parseMethodDescriptor y_Fc_isLine.desc).map (fun d => d.parameters.length) = some 1 := by decide +kernel
theorem pd_Fc_isSpan : y_Fc_isSpan.cls ≠ "java/lang/invoke/MethodHandle" ∧ y_Fc_isSpan.cls ≠ "java/lang/invoke/VarHandle" ∧ (parseMethodDescriptor y_Fc_isSpan.desc).map (fun d => d.parameters.length) = some 1 := by decide +kernel
theorem pd_Fc_keepTrial : y_Fc_keepTrial.cls ≠ "java/lang/invoke/MethodHandle" ∧ y_Fc_keepTrial.cls ≠ "java/lang/invoke/VarHandle" ∧ (parseMethodDescriptor y_Fc_keepTrial.desc).map (fun d => d.parameters.length) = some 1 := by decide +kernel
theorem pd_Md_act : y_Md_act.cls ≠ "java/lang/invoke/MethodHandle" ∧ y_Md_act.cls ≠ "java/lang/invoke/VarHandle" ∧ (parseMethodDescriptor y_Md_act.desc).map (fun d => d.parameters.length) = some 1 := by decide +kernel
theorem pd_Md_acts : y_Md_acts.cls ≠ "java/lang/invoke/MethodHandle" ∧ y_Md_acts.cls ≠ "java/lang/invoke/VarHandle" ∧ (parseMethodDescriptor y_Md_acts.desc).map (fun d => d.parameters.length) = some 1 := by decide +kernel
theorem pd_Md_blank : y_Md_blank.cls ≠ "java/lang/invoke/MethodHandle" ∧ y_Md_blank.cls ≠ "java/lang/invoke/VarHandle" ∧ (parseMethodDescriptor y_Md_blank.desc).map (fun d => d.parameters.length) = some 0 := by decide +kernel
theorem pd_Md_code : y_Md_code.cls ≠ "java/lang/invoke/MethodHandle" ∧ y_Md_code.cls ≠ "java/lang/invoke/VarHandle" ∧ (parseMethodDescriptor y_Md_code.desc).map (fun d => d.parameters.length) = some 0 := by decide +kernel
theorem pd_Md_evolve : y_Md_evolve.cls ≠ "java/lang/invoke/MethodHandle" ∧ y_Md_evolve.cls ≠ "java/lang/invoke/VarHandle" ∧ (parseMethodDescriptor y_Md_evolve.desc).map (fun d => d.parameters.length) = some 0 := by decide +kernel
theorem pd_Md_fits : y_Md_fits.cls ≠ "java/lang/invoke/MethodHandle" ∧ y_Md_fits.cls ≠ "java/lang/invoke/VarHandle" ∧ (parseMethodDescriptor y_Md_fits.desc).map (fun d => d.parameters.length) = some 3 := by decide +kernel
theorem pd_Md_in : y_Md_in.cls ≠ "java/lang/invoke/MethodHandle" ∧ y_Md_in.cls ≠ "java/lang/invoke/VarHandle" ∧ (parseMethodDescriptor y_Md_in.desc).map (fun d => d.parameters.length) = some 2 := by decide +kernel
theorem pd_Md_initials : y_Md_initials.cls ≠ "java/lang/invoke/MethodHandle" ∧ y_Md_initials.cls ≠ "java/lang/invoke/VarHandle" ∧ (parseMethodDescriptor y_Md_initials.desc).map (fun d => d.parameters.length) = some 0 := by decide +kernel
theorem pd_Md_isEnabled : y_Md_isEnabled.cls ≠ "java/lang/invoke/MethodHandle" ∧ y_Md_isEnabled.cls ≠ "java/lang/invoke/VarHandle" ∧ (parseMethodDescriptor y_Md_isEnabled.desc).map (fun d => d.parameters.length) = some 1 := by decide +kernel
theorem pd_Md_isExpression : y_Md_isExpression.cls ≠ "java/lang/invoke/MethodHandle" ∧ y_Md_isExpression.cls ≠ "java/lang/invoke/VarHandle" ∧ (parseMethodDescriptor y_Md_isExpression.desc).map (fun d => d.parameters.length) = some 1 := by decide +kernel
theorem pd_Md_isStep : y_Md_isStep.cls ≠ "java/lang/invoke/MethodHandle" ∧ y_Md_isStep.cls ≠ "java/lang/invoke/VarHandle" ∧ (parseMethodDescriptor y_Md_isStep.desc).map (fun d => d.parameters.length) = some 1 := by decide +kernel
theorem pd_Md_judge : y_Md_judge.cls ≠ "java/lang/invoke/MethodHandle" ∧ y_Md_judge.cls ≠ "java/lang/invoke/VarHandle" ∧ (parseMethodDescriptor y_Md_judge.desc).map (fun d => d.parameters.length) = some 0 := by decide +kernel
theorem pd_Md_move : y_Md_move.cls ≠ "java/lang/invoke/MethodHandle" ∧ y_Md_move.cls ≠ "java/lang/invoke/VarHandle" ∧ (parseMethodDescriptor y_Md_move.desc).map (fun d => d.parameters.length) = some 1 := by decide +kernel
theorem pd_Md_reset : y_Md_reset.cls ≠ "java/lang/invoke/MethodHandle" ∧ y_Md_reset.cls ≠ "java/lang/invoke/VarHandle" ∧ (parseMethodDescriptor y_Md_reset.desc).map (fun d => d.parameters.length) = some 1 := by decide +kernel
theorem pd_Md_ruling : y_Md_ruling.cls ≠ "java/lang/invoke/MethodHandle" ∧ y_Md_ruling.cls ≠ "java/lang/invoke/VarHandle" ∧ (parseMethodDescriptor y_Md_ruling.desc).map (fun d => d.parameters.length) = some 1 := by decide +kernel
theorem pd_Md_settle : y_Md_settle.cls ≠ "java/lang/invoke/MethodHandle" ∧ y_Md_settle.cls ≠ "java/lang/invoke/VarHandle" ∧ (parseMethodDescriptor y_Md_settle.desc).map (fun d => d.parameters.length) = some 0 := by decide +kernel
theorem pd_Md_single : y_Md_single.cls ≠ "java/lang/invoke/MethodHandle" ∧ y_Md_single.cls ≠ "java/lang/invoke/VarHandle" ∧ (parseMethodDescriptor y_Md_single.desc).map (fun d => d.parameters.length) = some 0 := by decide +kernel
theorem pd_Md_stepsOf : y_Md_stepsOf.cls ≠ "java/lang/invoke/MethodHandle" ∧ y_Md_stepsOf.cls ≠ "java/lang/invoke/VarHandle" ∧ (parseMethodDescriptor y_Md_stepsOf.desc).map (fun d => d.parameters.length) = some 1 := by decide +kernel
theorem pd_Md_store : y_Md_store.cls ≠ "java/lang/invoke/MethodHandle" ∧ y_Md_store.cls ≠ "java/lang/invoke/VarHandle" ∧ (parseMethodDescriptor y_Md_store.desc).map (fun d => d.parameters.length) = some 2 := by decide +kernel
theorem pd_Md_take : y_Md_take.cls ≠ "java/lang/invoke/MethodHandle" ∧ y_Md_take.cls ≠ "java/lang/invoke/VarHandle" ∧ (parseMethodDescriptor y_Md_take.desc).map (fun d => d.parameters.length) = some 0 := by decide +kernel
theorem pd_Or_add : y_Or_add.cls ≠ "java/lang/invoke/MethodHandle" ∧ y_Or_add.cls ≠ "java/lang/invoke/VarHandle" ∧ (parseMethodDescriptor y_Or_add.desc).map (fun d => d.parameters.length) = some 3 := by decide +kernel
theorem pd_Or_fixedBy : y_Or_fixedBy.cls ≠ "java/lang/invoke/MethodHandle" ∧ y_Or_fixedBy.cls ≠ "java/lang/invoke/VarHandle" ∧ (parseMethodDescriptor y_Or_fixedBy.desc).map (fun d => d.parameters.length) = some 1 := by decide +kernel
theorem pd_Or_forcedSteps : y_Or_forcedSteps.cls ≠ "java/lang/invoke/MethodHandle" ∧ y_Or_forcedSteps.cls ≠ "java/lang/invoke/VarHandle" ∧ (parseMethodDescriptor y_Or_forcedSteps.desc).map (fun d => d.parameters.length) = some 2 := by decide +kernel
theorem pd_Or_rulingOver : y_Or_rulingOver.cls ≠ "java/lang/invoke/MethodHandle" ∧ y_Or_rulingOver.cls ≠ "java/lang/invoke/VarHandle" ∧ (parseMethodDescriptor y_Or_rulingOver.desc).map (fun d => d.parameters.length) = some 2 := by decide +kernel
theorem pd_St_add : y_St_add.cls ≠ "java/lang/invoke/MethodHandle" ∧ y_St_add.cls ≠ "java/lang/invoke/VarHandle" ∧ (parseMethodDescriptor y_St_add.desc).map (fun d => d.parameters.length) = some 2 := by decide +kernel
theorem pd_St_all : y_St_all.cls ≠ "java/lang/invoke/MethodHandle" ∧ y_St_all.cls ≠ "java/lang/invoke/VarHandle" ∧ (parseMethodDescriptor y_St_all.desc).map (fun d => d.parameters.length) = some 0 := by decide +kernel
theorem pd_St_has : y_St_has.cls ≠ "java/lang/invoke/MethodHandle" ∧ y_St_has.cls ≠ "java/lang/invoke/VarHandle" ∧ (parseMethodDescriptor y_St_has.desc).map (fun d => d.parameters.length) = some 1 := by decide +kernel
theorem pd_St_partWithAll : y_St_partWithAll.cls ≠ "java/lang/invoke/MethodHandle" ∧ y_St_partWithAll.cls ≠ "java/lang/invoke/VarHandle" ∧ (parseMethodDescriptor y_St_partWithAll.desc).map (fun d => d.parameters.length) = some 1 := by decide +kernel
theorem pd_Ti_begin : y_Ti_begin.cls ≠ "java/lang/invoke/MethodHandle" ∧ y_Ti_begin.cls ≠ "java/lang/invoke/VarHandle" ∧ (parseMethodDescriptor y_Ti_begin.desc).map (fun d => d.parameters.length) = some 3 := by decide +kernel
theorem pd_Ti_endEdges : y_Ti_endEdges.cls ≠ "java/lang/invoke/MethodHandle" ∧ y_Ti_endEdges.cls ≠ "java/lang/invoke/VarHandle" ∧ (parseMethodDescriptor y_Ti_endEdges.desc).map (fun d => d.parameters.length) = some 0 := by decide +kernel
theorem pd_Ti_findsCycle : y_Ti_findsCycle.cls ≠ "java/lang/invoke/MethodHandle" ∧ y_Ti_findsCycle.cls ≠ "java/lang/invoke/VarHandle" ∧ (parseMethodDescriptor y_Ti_findsCycle.desc).map (fun d => d.parameters.length) = some 0 := by decide +kernel
theorem pd_Ti_moveTo : y_Ti_moveTo.cls ≠ "java/lang/invoke/MethodHandle" ∧ y_Ti_moveTo.cls ≠ "java/lang/invoke/VarHandle" ∧ (parseMethodDescriptor y_Ti_moveTo.desc).map (fun d => d.parameters.length) = some 2 := by decide +kernel
theorem pd_Ti_sense : y_Ti_sense.cls ≠ "java/lang/invoke/MethodHandle" ∧ y_Ti_sense.cls ≠ "java/lang/invoke/VarHandle" ∧ (parseMethodDescriptor y_Ti_sense.desc).map (fun d => d.parameters.length) = some 2 := by decide +kernel
theorem pd_Ti_timeOf : y_Ti_timeOf.cls ≠ "java/lang/invoke/MethodHandle" ∧ y_Ti_timeOf.cls ≠ "java/lang/invoke/VarHandle" ∧ (parseMethodDescriptor y_Ti_timeOf.desc).map (fun d => d.parameters.length) = some 1 := by decide +kernel
theorem pd_Tr_add : y_Tr_add.cls ≠ "java/lang/invoke/MethodHandle" ∧ y_Tr_add.cls ≠ "java/lang/invoke/VarHandle" ∧ (parseMethodDescriptor y_Tr_add.desc).map (fun d => d.parameters.length) = some 4 := by decide +kernel
theorem pd_Tr_dueIn : y_Tr_dueIn.cls ≠ "java/lang/invoke/MethodHandle" ∧ y_Tr_dueIn.cls ≠ "java/lang/invoke/VarHandle" ∧ (parseMethodDescriptor y_Tr_dueIn.desc).map (fun d => d.parameters.length) = some 2 := by decide +kernel
theorem pd_Tr_enabledIn : y_Tr_enabledIn.cls ≠ "java/lang/invoke/MethodHandle" ∧ y_Tr_enabledIn.cls ≠ "java/lang/invoke/VarHandle" ∧ (parseMethodDescriptor y_Tr_enabledIn.desc).map (fun d => d.parameters.length) = some 1 := by decide +kernel
theorem pd_Tr_preceding : y_Tr_preceding.cls ≠ "java/lang/invoke/MethodHandle" ∧ y_Tr_preceding.cls ≠ "java/lang/invoke/VarHandle" ∧ (parseMethodDescriptor y_Tr_preceding.desc).map (fun d => d.parameters.length) = some 1 := by decide +kernel
theorem pd_Tr_succeeding : y_Tr_succeeding.cls ≠ "java/lang/invoke/MethodHandle" ∧ y_Tr_succeeding.cls ≠ "java/lang/invoke/VarHandle" ∧ (parseMethodDescriptor y_Tr_succeeding.desc).map (fun d => d.parameters.length) = some 1 := by decide +kernel
theorem pd_Tr_union : y_Tr_union.cls ≠ "java/lang/invoke/MethodHandle" ∧ y_Tr_union.cls ≠ "java/lang/invoke/VarHandle" ∧ (parseMethodDescriptor y_Tr_union.desc).map (fun d => d.parameters.length) = some 2 := by decide +kernel
theorem pd_Tr_withoutRivals : y_Tr_withoutRivals.cls ≠ "java/lang/invoke/MethodHandle" ∧ y_Tr_withoutRivals.cls ≠ "java/lang/invoke/VarHandle" ∧ (parseMethodDescriptor y_Tr_withoutRivals.desc).map (fun d => d.parameters.length) = some 1 := by decide +kernel
end
section
/-! the instructions, by program -/
theorem d_Fc_init_0 : decode c_Fc_init 0 = .ok (.aload_n 0, 1) := by decide +kernel
theorem d_Fc_init_1 : decode c_Fc_init 1 = .ok (.invokespecial 1, 3) := by decide +kernel
theorem d_Fc_init_4 : decode c_Fc_init 4 = .ok (.aload_n 0, 1) := by decide +kernel
theorem d_Fc_init_5 : decode c_Fc_init 5 = .ok (.new 7, 3) := by decide +kernel
theorem d_Fc_init_8 : decode c_Fc_init 8 = .ok (.dup, 1) := by decide +kernel
theorem d_Fc_init_9 : decode c_Fc_init 9 = .ok (.invokespecial 9, 3) := by decide +kernel
theorem d_Fc_init_12 : decode c_Fc_init 12 = .ok (.putfield 10, 3) := by decide +kernel
theorem d_Fc_init_15 : decode c_Fc_init 15 = .ok (.aload_n 0, 1) := by decide +kernel
theorem d_Fc_init_16 : decode c_Fc_init 16 = .ok (.new 16, 3) := by decide +kernel
theorem d_Fc_init_19 : decode c_Fc_init 19 = .ok (.dup, 1) := by decide +kernel
theorem d_Fc_init_20 : decode c_Fc_init 20 = .ok (.invokespecial 18, 3) := by decide +kernel
theorem d_Fc_init_23 : decode c_Fc_init 23 = .ok (.putfield 19, 3) := by decide +kernel
theorem d_Fc_init_26 : decode c_Fc_init 26 = .ok (.aload_n 0, 1) := by decide +kernel
theorem d_Fc_init_27 : decode c_Fc_init 27 = .ok (.new 23, 3) := by decide +kernel
theorem d_Fc_init_30 : decode c_Fc_init 30 = .ok (.dup, 1) := by decide +kernel
theorem d_Fc_init_31 : decode c_Fc_init 31 = .ok (.invokespecial 25, 3) := by decide +kernel
theorem d_Fc_init_34 : decode c_Fc_init 34 = .ok (.putfield 26, 3) := by decide +kernel
theorem d_Fc_init_37 : decode c_Fc_init 37 = .ok (.aload_n 0, 1) := by decide +kernel
theorem d_Fc_init_38 : decode c_Fc_init 38 = .ok (.new 30, 3) := by decide +kernel
theorem d_Fc_init_41 : decode c_Fc_init 41 = .ok (.dup, 1) := by decide +kernel
theorem d_Fc_init_42 : decode c_Fc_init 42 = .ok (.invokespecial 32, 3) := by decide +kernel
theorem d_Fc_init_45 : decode c_Fc_init 45 = .ok (.putfield 33, 3) := by decide +kernel
theorem d_Fc_init_48 : decode c_Fc_init 48 = .ok (.aload_n 0, 1) := by decide +kernel
theorem d_Fc_init_49 : decode c_Fc_init 49 = .ok (.new 37, 3) := by decide +kernel
theorem d_Fc_init_52 : decode c_Fc_init 52 = .ok (.dup, 1) := by decide +kernel
theorem d_Fc_init_53 : decode c_Fc_init 53 = .ok (.invokespecial 39, 3) := by decide +kernel
theorem d_Fc_init_56 : decode c_Fc_init 56 = .ok (.putfield 40, 3) := by decide +kernel
theorem d_Fc_init_59 : decode c_Fc_init 59 = .ok (.aload_n 0, 1) := by decide +kernel
theorem d_Fc_init_60 : decode c_Fc_init 60 = .ok (.new 44, 3) := by decide +kernel
theorem d_Fc_init_63 : decode c_Fc_init 63 = .ok (.dup, 1) := by decide +kernel
theorem d_Fc_init_64 : decode c_Fc_init 64 = .ok (.invokespecial 46, 3) := by decide +kernel
theorem d_Fc_init_67 : decode c_Fc_init 67 = .ok (.putfield 47, 3) := by decide +kernel
theorem d_Fc_init_70 : decode c_Fc_init 70 = .ok (.aload_n 0, 1) := by decide +kernel
theorem d_Fc_init_71 : decode c_Fc_init 71 = .ok (.bipush 8, 2) := by decide +kernel
theorem d_Fc_init_73 : decode c_Fc_init 73 = .ok (.newarray .int, 2) := by decide +kernel
theorem d_Fc_init_75 : decode c_Fc_init 75 = .ok (.putfield 51, 3) := by decide +kernel
theorem d_Fc_init_78 : decode c_Fc_init 78 = .ok (.return_, 1) := by decide +kernel
theorem d_Fc_step_0 : decode c_Fc_step 0 = .ok (.aload_n 0, 1) := by decide +kernel
theorem d_Fc_step_1 : decode c_Fc_step 1 = .ok (.getfield 55, 3) := by decide +kernel
theorem d_Fc_step_4 : decode c_Fc_step 4 = .ok (.ifCond .ne 24, 3) := by decide +kernel
theorem d_Fc_step_7 : decode c_Fc_step 7 = .ok (.aload_n 0, 1) := by decide +kernel
theorem d_Fc_step_8 : decode c_Fc_step 8 = .ok (.getfield 10, 3) := by decide +kernel
theorem d_Fc_step_11 : decode c_Fc_step 11 = .ok (.getfield 59, 3) := by decide +kernel
theorem d_Fc_step_14 : decode c_Fc_step 14 = .ok (.bipush 8, 2) := by decide +kernel
theorem d_Fc_step_16 : decode c_Fc_step 16 = .ok (.if_icmp .eq 12, 3) := by decide +kernel
theorem d_Fc_step_19 : decode c_Fc_step 19 = .ok (.iload_n 1, 1) := by decide +kernel
theorem d_Fc_step_20 : decode c_Fc_step 20 = .ok (.ifCond .lt 8, 3) := by decide +kernel
theorem d_Fc_step_23 : decode c_Fc_step 23 = .ok (.iload_n 1, 1) := by decide +kernel
theorem d_Fc_step_24 : decode c_Fc_step 24 = .ok (.iconst 3, 1) := by decide +kernel
theorem d_Fc_step_25 : decode c_Fc_step 25 = .ok (.if_icmp .lt 6, 3) := by decide +kernel
theorem d_Fc_step_28 : decode c_Fc_step 28 = .ok (.bipush (-2), 2) := by decide +kernel
theorem d_Fc_step_30 : decode c_Fc_step 30 = .ok (.ireturn, 1) := by decide +kernel
theorem d_Fc_step_31 : decode c_Fc_step 31 = .ok (.aload_n 0, 1) := by decide +kernel
theorem d_Fc_step_32 : decode c_Fc_step 32 = .ok (.getfield 10, 3) := by decide +kernel
theorem d_Fc_step_35 : decode c_Fc_step 35 = .ok (.iload_n 1, 1) := by decide +kernel
theorem d_Fc_step_36 : decode c_Fc_step 36 = .ok (.iload_n 2, 1) := by decide +kernel
theorem d_Fc_step_37 : decode c_Fc_step 37 = .ok (.invokevirtual 63, 3) := by decide +kernel
theorem d_Fc_step_40 : decode c_Fc_step 40 = .ok (.ireturn, 1) := by decide +kernel
theorem d_Fc_expression_0 : decode c_Fc_expression 0 = .ok (.aload_n 0, 1) := by decide +kernel
theorem d_Fc_expression_1 : decode c_Fc_expression 1 = .ok (.getfield 55, 3) := by decide +kernel
theorem d_Fc_expression_4 : decode c_Fc_expression 4 = .ok (.ifCond .ne 32, 3) := by decide +kernel
theorem d_Fc_expression_7 : decode c_Fc_expression 7 = .ok (.aload_n 0, 1) := by decide +kernel
theorem d_Fc_expression_8 : decode c_Fc_expression 8 = .ok (.getfield 19, 3) := by decide +kernel
theorem d_Fc_expression_11 : decode c_Fc_expression 11 = .ok (.getfield 67, 3) := by decide +kernel
theorem d_Fc_expression_14 : decode c_Fc_expression 14 = .ok (.bipush 24, 2) := by decide +kernel
theorem d_Fc_expression_16 : decode c_Fc_expression 16 = .ok (.if_icmp .eq 20, 3) := by decide +kernel
theorem d_Fc_expression_19 : decode c_Fc_expression 19 = .ok (.aload_n 0, 1) := by decide +kernel
theorem d_Fc_expression_20 : decode c_Fc_expression 20 = .ok (.getfield 19, 3) := by decide +kernel
theorem d_Fc_expression_23 : decode c_Fc_expression 23 = .ok (.iload_n 1, 1) := by decide +kernel
theorem d_Fc_expression_24 : decode c_Fc_expression 24 = .ok (.iload_n 2, 1) := by decide +kernel
theorem d_Fc_expression_25 : decode c_Fc_expression 25 = .ok (.iload_n 3, 1) := by decide +kernel
theorem d_Fc_expression_26 : decode c_Fc_expression 26 = .ok (.aload_n 0, 1) := by decide +kernel
theorem d_Fc_expression_27 : decode c_Fc_expression 27 = .ok (.getfield 10, 3) := by decide +kernel
theorem d_Fc_expression_30 : decode c_Fc_expression 30 = .ok (.invokevirtual 68, 3) := by decide +kernel
theorem d_Fc_expression_33 : decode c_Fc_expression 33 = .ok (.ifCond .ne 6, 3) := by decide +kernel
theorem d_Fc_expression_36 : decode c_Fc_expression 36 = .ok (.bipush (-2), 2) := by decide +kernel
theorem d_Fc_expression_38 : decode c_Fc_expression 38 = .ok (.ireturn, 1) := by decide +kernel
theorem d_Fc_expression_39 : decode c_Fc_expression 39 = .ok (.aload_n 0, 1) := by decide +kernel
theorem d_Fc_expression_40 : decode c_Fc_expression 40 = .ok (.getfield 19, 3) := by decide +kernel
theorem d_Fc_expression_43 : decode c_Fc_expression 43 = .ok (.iload_n 1, 1) := by decide +kernel
theorem d_Fc_expression_44 : decode c_Fc_expression 44 = .ok (.iload_n 2, 1) := by decide +kernel
theorem d_Fc_expression_45 : decode c_Fc_expression 45 = .ok (.iload_n 3, 1) := by decide +kernel
theorem d_Fc_expression_46 : decode c_Fc_expression 46 = .ok (.invokevirtual 72, 3) := by decide +kernel
theorem d_Fc_expression_49 : decode c_Fc_expression 49 = .ok (.ireturn, 1) := by decide +kernel
theorem d_Fc_transition_0 : decode c_Fc_transition 0 = .ok (.aload_n 0, 1) := by decide +kernel
theorem d_Fc_transition_1 : decode c_Fc_transition 1 = .ok (.getfield 55, 3) := by decide +kernel
theorem d_Fc_transition_4 : decode c_Fc_transition 4 = .ok (.ifCond .ne 23, 3) := by decide +kernel
theorem d_Fc_transition_7 : decode c_Fc_transition 7 = .ok (.aload_n 0, 1) := by decide +kernel
theorem d_Fc_transition_8 : decode c_Fc_transition 8 = .ok (.getfield 26, 3) := by decide +kernel
theorem d_Fc_transition_11 : decode c_Fc_transition 11 = .ok (.getfield 75, 3) := by decide +kernel
theorem d_Fc_transition_14 : decode c_Fc_transition 14 = .ok (.bipush 12, 2) := by decide +kernel
theorem d_Fc_transition_16 : decode c_Fc_transition 16 = .ok (.if_icmp .eq 11, 3) := by decide +kernel
theorem d_Fc_transition_19 : decode c_Fc_transition 19 = .ok (.iload_n 1, 1) := by decide +kernel
theorem d_Fc_transition_20 : decode c_Fc_transition 20 = .ok (.ifCond .eq 7, 3) := by decide +kernel
theorem d_Fc_transition_23 : decode c_Fc_transition 23 = .ok (.iload_n 2, 1) := by decide +kernel
theorem d_Fc_transition_24 : decode c_Fc_transition 24 = .ok (.ifCond .ne 6, 3) := by decide +kernel
theorem d_Fc_transition_27 : decode c_Fc_transition 27 = .ok (.bipush (-2), 2) := by decide +kernel
theorem d_Fc_transition_29 : decode c_Fc_transition 29 = .ok (.ireturn, 1) := by decide +kernel
theorem d_Fc_transition_30 : decode c_Fc_transition 30 = .ok (.aload_n 0, 1) := by decide +kernel
theorem d_Fc_transition_31 : decode c_Fc_transition 31 = .ok (.getfield 10, 3) := by decide +kernel
theorem d_Fc_transition_34 : decode c_Fc_transition 34 = .ok (.iload_n 1, 1) := by decide +kernel
theorem d_Fc_transition_35 : decode c_Fc_transition 35 = .ok (.iload_n 2, 1) := by decide +kernel
theorem d_Fc_transition_36 : decode c_Fc_transition 36 = .ok (.ior, 1) := by decide +kernel
theorem d_Fc_transition_37 : decode c_Fc_transition 37 = .ok (.invokevirtual 76, 3) := by decide +kernel
theorem d_Fc_transition_40 : decode c_Fc_transition 40 = .ok (.istore 4, 2) := by decide +kernel
theorem d_Fc_transition_42 : decode c_Fc_transition 42 = .ok (.iload 4, 2) := by decide +kernel
theorem d_Fc_transition_44 : decode c_Fc_transition 44 = .ok (.ifCond .lt 14, 3) := by decide +kernel
theorem d_Fc_transition_47 : decode c_Fc_transition 47 = .ok (.aload_n 0, 1) := by decide +kernel
theorem d_Fc_transition_48 : decode c_Fc_transition 48 = .ok (.getfield 19, 3) := by decide +kernel
theorem d_Fc_transition_51 : decode c_Fc_transition 51 = .ok (.iload_n 3, 1) := by decide +kernel
theorem d_Fc_transition_52 : decode c_Fc_transition 52 = .ok (.invokevirtual 80, 3) := by decide +kernel
theorem d_Fc_transition_55 : decode c_Fc_transition 55 = .ok (.ifCond .ne 6, 3) := by decide +kernel
theorem d_Fc_transition_58 : decode c_Fc_transition 58 = .ok (.bipush (-2), 2) := by decide +kernel
theorem d_Fc_transition_60 : decode c_Fc_transition 60 = .ok (.ireturn, 1) := by decide +kernel
theorem d_Fc_transition_61 : decode c_Fc_transition 61 = .ok (.aload_n 0, 1) := by decide +kernel
theorem d_Fc_transition_62 : decode c_Fc_transition 62 = .ok (.getfield 26, 3) := by decide +kernel
theorem d_Fc_transition_65 : decode c_Fc_transition 65 = .ok (.iload 4, 2) := by decide +kernel
theorem d_Fc_transition_67 : decode c_Fc_transition 67 = .ok (.iload_n 1, 1) := by decide +kernel
theorem d_Fc_transition_68 : decode c_Fc_transition 68 = .ok (.iload_n 2, 1) := by decide +kernel
theorem d_Fc_transition_69 : decode c_Fc_transition 69 = .ok (.iload_n 3, 1) := by decide +kernel
theorem d_Fc_transition_70 : decode c_Fc_transition 70 = .ok (.invokevirtual 84, 3) := by decide +kernel
theorem d_Fc_transition_73 : decode c_Fc_transition 73 = .ok (.ireturn, 1) := by decide +kernel
theorem d_Fc_order_0 : decode c_Fc_order 0 = .ok (.aload_n 0, 1) := by decide +kernel
theorem d_Fc_order_1 : decode c_Fc_order 1 = .ok (.getfield 55, 3) := by decide +kernel
theorem d_Fc_order_4 : decode c_Fc_order 4 = .ok (.ifCond .ne 25, 3) := by decide +kernel
theorem d_Fc_order_7 : decode c_Fc_order 7 = .ok (.aload_n 0, 1) := by decide +kernel
theorem d_Fc_order_8 : decode c_Fc_order 8 = .ok (.getfield 33, 3) := by decide +kernel
theorem d_Fc_order_11 : decode c_Fc_order 11 = .ok (.getfield 87, 3) := by decide +kernel
theorem d_Fc_order_14 : decode c_Fc_order 14 = .ok (.iconst 4, 1) := by decide +kernel
theorem d_Fc_order_15 : decode c_Fc_order 15 = .ok (.if_icmp .eq 14, 3) := by decide +kernel
theorem d_Fc_order_18 : decode c_Fc_order 18 = .ok (.aload_n 0, 1) := by decide +kernel
theorem d_Fc_order_19 : decode c_Fc_order 19 = .ok (.getfield 10, 3) := by decide +kernel
theorem d_Fc_order_22 : decode c_Fc_order 22 = .ok (.iload_n 1, 1) := by decide +kernel
theorem d_Fc_order_23 : decode c_Fc_order 23 = .ok (.invokevirtual 88, 3) := by decide +kernel
theorem d_Fc_order_26 : decode c_Fc_order 26 = .ok (.ifCond .ne 6, 3) := by decide +kernel
theorem d_Fc_order_29 : decode c_Fc_order 29 = .ok (.bipush (-2), 2) := by decide +kernel
theorem d_Fc_order_31 : decode c_Fc_order 31 = .ok (.ireturn, 1) := by decide +kernel
theorem d_Fc_order_32 : decode c_Fc_order 32 = .ok (.iload_n 2, 1) := by decide +kernel
theorem d_Fc_order_33 : decode c_Fc_order 33 = .ok (.aload_n 0, 1) := by decide +kernel
theorem d_Fc_order_34 : decode c_Fc_order 34 = .ok (.getfield 10, 3) := by decide +kernel
theorem d_Fc_order_37 : decode c_Fc_order 37 = .ok (.getfield 89, 3) := by decide +kernel
theorem d_Fc_order_40 : decode c_Fc_order 40 = .ok (.iload_n 1, 1) := by decide +kernel
theorem d_Fc_order_41 : decode c_Fc_order 41 = .ok (.iaload, 1) := by decide +kernel
theorem d_Fc_order_42 : decode c_Fc_order 42 = .ok (.if_icmp .le 8, 3) := by decide +kernel
theorem d_Fc_order_45 : decode c_Fc_order 45 = .ok (.iload_n 2, 1) := by decide +kernel
theorem d_Fc_order_46 : decode c_Fc_order 46 = .ok (.iconst 3, 1) := by decide +kernel
theorem d_Fc_order_47 : decode c_Fc_order 47 = .ok (.if_icmp .lt 6, 3) := by decide +kernel
theorem d_Fc_order_50 : decode c_Fc_order 50 = .ok (.bipush (-2), 2) := by decide +kernel
theorem d_Fc_order_52 : decode c_Fc_order 52 = .ok (.ireturn, 1) := by decide +kernel
theorem d_Fc_order_53 : decode c_Fc_order 53 = .ok (.iload_n 3, 1) := by decide +kernel
theorem d_Fc_order_54 : decode c_Fc_order 54 = .ok (.iconst (-1), 1) := by decide +kernel
theorem d_Fc_order_55 : decode c_Fc_order 55 = .ok (.if_icmp .eq 22, 3) := by decide +kernel
theorem d_Fc_order_58 : decode c_Fc_order 58 = .ok (.iload_n 3, 1) := by decide +kernel
theorem d_Fc_order_59 : decode c_Fc_order 59 = .ok (.aload_n 0, 1) := by decide +kernel
theorem d_Fc_order_60 : decode c_Fc_order 60 = .ok (.getfield 10, 3) := by decide +kernel
theorem d_Fc_order_63 : decode c_Fc_order 63 = .ok (.getfield 92, 3) := by decide +kernel
theorem d_Fc_order_66 : decode c_Fc_order 66 = .ok (.iload_n 2, 1) := by decide +kernel
theorem d_Fc_order_67 : decode c_Fc_order 67 = .ok (.iaload, 1) := by decide +kernel
theorem d_Fc_order_68 : decode c_Fc_order 68 = .ok (.iconst (-1), 1) := by decide +kernel
theorem d_Fc_order_69 : decode c_Fc_order 69 = .ok (.ixor, 1) := by decide +kernel
theorem d_Fc_order_70 : decode c_Fc_order 70 = .ok (.iand, 1) := by decide +kernel
theorem d_Fc_order_71 : decode c_Fc_order 71 = .ok (.ifCond .eq 6, 3) := by decide +kernel
theorem d_Fc_order_74 : decode c_Fc_order 74 = .ok (.bipush (-2), 2) := by decide +kernel
theorem d_Fc_order_76 : decode c_Fc_order 76 = .ok (.ireturn, 1) := by decide +kernel
theorem d_Fc_order_77 : decode c_Fc_order 77 = .ok (.aload_n 0, 1) := by decide +kernel
theorem d_Fc_order_78 : decode c_Fc_order 78 = .ok (.getfield 33, 3) := by decide +kernel
theorem d_Fc_order_81 : decode c_Fc_order 81 = .ok (.iload_n 1, 1) := by decide +kernel
theorem d_Fc_order_82 : decode c_Fc_order 82 = .ok (.iload_n 2, 1) := by decide +kernel
theorem d_Fc_order_83 : decode c_Fc_order 83 = .ok (.iload_n 3, 1) := by decide +kernel
theorem d_Fc_order_84 : decode c_Fc_order 84 = .ok (.invokevirtual 95, 3) := by decide +kernel
theorem d_Fc_order_87 : decode c_Fc_order 87 = .ok (.ireturn, 1) := by decide +kernel
theorem d_Fc_action_0 : decode c_Fc_action 0 = .ok (.aload_n 0, 1) := by decide +kernel
theorem d_Fc_action_1 : decode c_Fc_action 1 = .ok (.getfield 55, 3) := by decide +kernel
theorem d_Fc_action_4 : decode c_Fc_action 4 = .ok (.ifCond .ne 26, 3) := by decide +kernel
theorem d_Fc_action_7 : decode c_Fc_action 7 = .ok (.aload_n 0, 1) := by decide +kernel
theorem d_Fc_action_8 : decode c_Fc_action 8 = .ok (.getfield 40, 3) := by decide +kernel
theorem d_Fc_action_11 : decode c_Fc_action 11 = .ok (.getfield 96, 3) := by decide +kernel
theorem d_Fc_action_14 : decode c_Fc_action 14 = .ok (.bipush 12, 2) := by decide +kernel
theorem d_Fc_action_16 : decode c_Fc_action 16 = .ok (.if_icmp .eq 14, 3) := by decide +kernel
theorem d_Fc_action_19 : decode c_Fc_action 19 = .ok (.aload_n 0, 1) := by decide +kernel
theorem d_Fc_action_20 : decode c_Fc_action 20 = .ok (.getfield 10, 3) := by decide +kernel
theorem d_Fc_action_23 : decode c_Fc_action 23 = .ok (.iload_n 1, 1) := by decide +kernel
theorem d_Fc_action_24 : decode c_Fc_action 24 = .ok (.invokevirtual 88, 3) := by decide +kernel
theorem d_Fc_action_27 : decode c_Fc_action 27 = .ok (.ifCond .ne 6, 3) := by decide +kernel
theorem d_Fc_action_30 : decode c_Fc_action 30 = .ok (.bipush (-2), 2) := by decide +kernel
theorem d_Fc_action_32 : decode c_Fc_action 32 = .ok (.ireturn, 1) := by decide +kernel
theorem d_Fc_action_33 : decode c_Fc_action 33 = .ok (.iload_n 2, 1) := by decide +kernel
theorem d_Fc_action_34 : decode c_Fc_action 34 = .ok (.invokestatic 97, 3) := by decide +kernel
theorem d_Fc_action_37 : decode c_Fc_action 37 = .ok (.ifCond .eq 18, 3) := by decide +kernel
theorem d_Fc_action_40 : decode c_Fc_action 40 = .ok (.iload_n 3, 1) := by decide +kernel
theorem d_Fc_action_41 : decode c_Fc_action 41 = .ok (.invokestatic 100, 3) := by decide +kernel
theorem d_Fc_action_44 : decode c_Fc_action 44 = .ok (.ifCond .eq 11, 3) := by decide +kernel
theorem d_Fc_action_47 : decode c_Fc_action 47 = .ok (.iload 4, 2) := by decide +kernel
theorem d_Fc_action_49 : decode c_Fc_action 49 = .ok (.invokestatic 103, 3) := by decide +kernel
theorem d_Fc_action_52 : decode c_Fc_action 52 = .ok (.ifCond .ne 6, 3) := by decide +kernel
theorem d_Fc_action_55 : decode c_Fc_action 55 = .ok (.bipush (-2), 2) := by decide +kernel
theorem d_Fc_action_57 : decode c_Fc_action 57 = .ok (.ireturn, 1) := by decide +kernel
theorem d_Fc_action_58 : decode c_Fc_action 58 = .ok (.aload_n 0, 1) := by decide +kernel
theorem d_Fc_action_59 : decode c_Fc_action 59 = .ok (.getfield 40, 3) := by decide +kernel
theorem d_Fc_action_62 : decode c_Fc_action 62 = .ok (.iload_n 1, 1) := by decide +kernel
theorem d_Fc_action_63 : decode c_Fc_action 63 = .ok (.iload_n 2, 1) := by decide +kernel
theorem d_Fc_action_64 : decode c_Fc_action 64 = .ok (.iload_n 3, 1) := by decide +kernel
theorem d_Fc_action_65 : decode c_Fc_action 65 = .ok (.iload 4, 2) := by decide +kernel
theorem d_Fc_action_67 : decode c_Fc_action 67 = .ok (.invokevirtual 106, 3) := by decide +kernel
theorem d_Fc_action_70 : decode c_Fc_action 70 = .ok (.ireturn, 1) := by decide +kernel
theorem d_Fc_unreached_0 : decode c_Fc_unreached 0 = .ok (.aload_n 0, 1) := by decide +kernel
theorem d_Fc_unreached_1 : decode c_Fc_unreached 1 = .ok (.getfield 10, 3) := by decide +kernel
theorem d_Fc_unreached_4 : decode c_Fc_unreached 4 = .ok (.getfield 107, 3) := by decide +kernel
theorem d_Fc_unreached_7 : decode c_Fc_unreached 7 = .ok (.istore_n 1, 1) := by decide +kernel
theorem d_Fc_unreached_8 : decode c_Fc_unreached 8 = .ok (.iconst 0, 1) := by decide +kernel
theorem d_Fc_unreached_9 : decode c_Fc_unreached 9 = .ok (.istore_n 2, 1) := by decide +kernel
theorem d_Fc_unreached_10 : decode c_Fc_unreached 10 = .ok (.iload_n 2, 1) := by decide +kernel
theorem d_Fc_unreached_11 : decode c_Fc_unreached 11 = .ok (.bipush 8, 2) := by decide +kernel
theorem d_Fc_unreached_13 : decode c_Fc_unreached 13 = .ok (.if_icmp .ge 36, 3) := by decide +kernel
theorem d_Fc_unreached_16 : decode c_Fc_unreached 16 = .ok (.iload_n 1, 1) := by decide +kernel
theorem d_Fc_unreached_17 : decode c_Fc_unreached 17 = .ok (.aload_n 0, 1) := by decide +kernel
theorem d_Fc_unreached_18 : decode c_Fc_unreached 18 = .ok (.getfield 26, 3) := by decide +kernel
theorem d_Fc_unreached_21 : decode c_Fc_unreached 21 = .ok (.aload_n 0, 1) := by decide +kernel
theorem d_Fc_unreached_22 : decode c_Fc_unreached 22 = .ok (.getfield 26, 3) := by decide +kernel
theorem d_Fc_unreached_25 : decode c_Fc_unreached 25 = .ok (.iload_n 1, 1) := by decide +kernel
theorem d_Fc_unreached_26 : decode c_Fc_unreached 26 = .ok (.invokevirtual 110, 3) := by decide +kernel
theorem d_Fc_unreached_29 : decode c_Fc_unreached 29 = .ok (.invokevirtual 113, 3) := by decide +kernel
theorem d_Fc_unreached_32 : decode c_Fc_unreached 32 = .ok (.aload_n 0, 1) := by decide +kernel
theorem d_Fc_unreached_33 : decode c_Fc_unreached 33 = .ok (.getfield 33, 3) := by decide +kernel
theorem d_Fc_unreached_36 : decode c_Fc_unreached 36 = .ok (.iload_n 1, 1) := by decide +kernel
theorem d_Fc_unreached_37 : decode c_Fc_unreached 37 = .ok (.invokevirtual 116, 3) := by decide +kernel
theorem d_Fc_unreached_40 : decode c_Fc_unreached 40 = .ok (.ior, 1) := by decide +kernel
theorem d_Fc_unreached_41 : decode c_Fc_unreached 41 = .ok (.ior, 1) := by decide +kernel
theorem d_Fc_unreached_42 : decode c_Fc_unreached 42 = .ok (.istore_n 1, 1) := by decide +kernel
theorem d_Fc_unreached_43 : decode c_Fc_unreached 43 = .ok (.iinc 2 1, 3) := by decide +kernel
theorem d_Fc_unreached_46 : decode c_Fc_unreached 46 = .ok (.goto (-36), 3) := by decide +kernel
theorem d_Fc_unreached_49 : decode c_Fc_unreached 49 = .ok (.aload_n 0, 1) := by decide +kernel
theorem d_Fc_unreached_50 : decode c_Fc_unreached 50 = .ok (.getfield 10, 3) := by decide +kernel
theorem d_Fc_unreached_53 : decode c_Fc_unreached 53 = .ok (.invokevirtual 119, 3) := by decide +kernel
theorem d_Fc_unreached_56 : decode c_Fc_unreached 56 = .ok (.iload_n 1, 1) := by decide +kernel
theorem d_Fc_unreached_57 : decode c_Fc_unreached 57 = .ok (.iconst (-1), 1) := by decide +kernel
theorem d_Fc_unreached_58 : decode c_Fc_unreached 58 = .ok (.ixor, 1) := by decide +kernel
theorem d_Fc_unreached_59 : decode c_Fc_unreached 59 = .ok (.iand, 1) := by decide +kernel
theorem d_Fc_unreached_60 : decode c_Fc_unreached 60 = .ok (.ireturn, 1) := by decide +kernel
theorem d_Fc_start_0 : decode c_Fc_start 0 = .ok (.aload_n 0, 1) := by decide +kernel
theorem d_Fc_start_1 : decode c_Fc_start 1 = .ok (.getfield 55, 3) := by decide +kernel
theorem d_Fc_start_4 : decode c_Fc_start 4 = .ok (.ifCond .ne 13, 3) := by decide +kernel
theorem d_Fc_start_7 : decode c_Fc_start 7 = .ok (.aload_n 0, 1) := by decide +kernel
theorem d_Fc_start_8 : decode c_Fc_start 8 = .ok (.getfield 10, 3) := by decide +kernel
theorem d_Fc_start_11 : decode c_Fc_start 11 = .ok (.getfield 107, 3) := by decide +kernel
theorem d_Fc_start_14 : decode c_Fc_start 14 = .ok (.ifCond .ne 5, 3) := by decide +kernel
theorem d_Fc_start_17 : decode c_Fc_start 17 = .ok (.iconst 0, 1) := by decide +kernel
theorem d_Fc_start_18 : decode c_Fc_start 18 = .ok (.ireturn, 1) := by decide +kernel
theorem d_Fc_start_19 : decode c_Fc_start 19 = .ok (.aload_n 0, 1) := by decide +kernel
theorem d_Fc_start_20 : decode c_Fc_start 20 = .ok (.invokevirtual 123, 3) := by decide +kernel
theorem d_Fc_start_23 : decode c_Fc_start 23 = .ok (.aload_n 0, 1) := by decide +kernel
theorem d_Fc_start_24 : decode c_Fc_start 24 = .ok (.iconst 1, 1) := by decide +kernel
theorem d_Fc_start_25 : decode c_Fc_start 25 = .ok (.putfield 55, 3) := by decide +kernel
theorem d_Fc_start_28 : decode c_Fc_start 28 = .ok (.aload_n 0, 1) := by decide +kernel
theorem d_Fc_start_29 : decode c_Fc_start 29 = .ok (.iload_n 1, 1) := by decide +kernel
theorem d_Fc_start_30 : decode c_Fc_start 30 = .ok (.putfield 126, 3) := by decide +kernel
theorem d_Fc_start_33 : decode c_Fc_start 33 = .ok (.aload_n 0, 1) := by decide +kernel
theorem d_Fc_start_34 : decode c_Fc_start 34 = .ok (.aload_n 0, 1) := by decide +kernel
theorem d_Fc_start_35 : decode c_Fc_start 35 = .ok (.getfield 10, 3) := by decide +kernel
theorem d_Fc_start_38 : decode c_Fc_start 38 = .ok (.getfield 107, 3) := by decide +kernel
theorem d_Fc_start_41 : decode c_Fc_start 41 = .ok (.putfield 129, 3) := by decide +kernel
theorem d_Fc_start_44 : decode c_Fc_start 44 = .ok (.iconst 1, 1) := by decide +kernel
theorem d_Fc_start_45 : decode c_Fc_start 45 = .ok (.ireturn, 1) := by decide +kernel
theorem d_Fc_stop_0 : decode c_Fc_stop 0 = .ok (.aload_n 0, 1) := by decide +kernel
theorem d_Fc_stop_1 : decode c_Fc_stop 1 = .ok (.invokevirtual 123, 3) := by decide +kernel
theorem d_Fc_stop_4 : decode c_Fc_stop 4 = .ok (.aload_n 0, 1) := by decide +kernel
theorem d_Fc_stop_5 : decode c_Fc_stop 5 = .ok (.iconst 0, 1) := by decide +kernel
theorem d_Fc_stop_6 : decode c_Fc_stop 6 = .ok (.putfield 55, 3) := by decide +kernel
theorem d_Fc_stop_9 : decode c_Fc_stop 9 = .ok (.return_, 1) := by decide +kernel
theorem d_Fc_scan_0 : decode c_Fc_scan 0 = .ok (.aload_n 0, 1) := by decide +kernel
theorem d_Fc_scan_1 : decode c_Fc_scan 1 = .ok (.getfield 55, 3) := by decide +kernel
theorem d_Fc_scan_4 : decode c_Fc_scan 4 = .ok (.ifCond .eq 10, 3) := by decide +kernel
theorem d_Fc_scan_7 : decode c_Fc_scan 7 = .ok (.iload_n 2, 1) := by decide +kernel
theorem d_Fc_scan_8 : decode c_Fc_scan 8 = .ok (.invokestatic 103, 3) := by decide +kernel
theorem d_Fc_scan_11 : decode c_Fc_scan 11 = .ok (.ifCond .ne 6, 3) := by decide +kernel
theorem d_Fc_scan_14 : decode c_Fc_scan 14 = .ok (.bipush (-2), 2) := by decide +kernel
theorem d_Fc_scan_16 : decode c_Fc_scan 16 = .ok (.ireturn, 1) := by decide +kernel
theorem d_Fc_scan_17 : decode c_Fc_scan 17 = .ok (.iload_n 1, 1) := by decide +kernel
theorem d_Fc_scan_18 : decode c_Fc_scan 18 = .ok (.sipush 255, 3) := by decide +kernel
theorem d_Fc_scan_21 : decode c_Fc_scan 21 = .ok (.iand, 1) := by decide +kernel
theorem d_Fc_scan_22 : decode c_Fc_scan 22 = .ok (.istore_n 3, 1) := by decide +kernel
theorem d_Fc_scan_23 : decode c_Fc_scan 23 = .ok (.aload_n 0, 1) := by decide +kernel
theorem d_Fc_scan_24 : decode c_Fc_scan 24 = .ok (.getfield 47, 3) := by decide +kernel
theorem d_Fc_scan_27 : decode c_Fc_scan 27 = .ok (.aload_n 0, 1) := by decide +kernel
theorem d_Fc_scan_28 : decode c_Fc_scan 28 = .ok (.getfield 129, 3) := by decide +kernel
theorem d_Fc_scan_31 : decode c_Fc_scan 31 = .ok (.aload_n 0, 1) := by decide +kernel
theorem d_Fc_scan_32 : decode c_Fc_scan 32 = .ok (.getfield 51, 3) := by decide +kernel
theorem d_Fc_scan_35 : decode c_Fc_scan 35 = .ok (.iload_n 2, 1) := by decide +kernel
theorem d_Fc_scan_36 : decode c_Fc_scan 36 = .ok (.invokevirtual 132, 3) := by decide +kernel
theorem d_Fc_scan_39 : decode c_Fc_scan 39 = .ok (.aload_n 0, 1) := by decide +kernel
theorem d_Fc_scan_40 : decode c_Fc_scan 40 = .ok (.getfield 47, 3) := by decide +kernel
theorem d_Fc_scan_43 : decode c_Fc_scan 43 = .ok (.aload_n 0, 1) := by decide +kernel
theorem d_Fc_scan_44 : decode c_Fc_scan 44 = .ok (.getfield 136, 3) := by decide +kernel
theorem d_Fc_scan_47 : decode c_Fc_scan 47 = .ok (.iload_n 3, 1) := by decide +kernel
theorem d_Fc_scan_48 : decode c_Fc_scan 48 = .ok (.invokevirtual 139, 3) := by decide +kernel
theorem d_Fc_scan_51 : decode c_Fc_scan 51 = .ok (.aload_n 0, 1) := by decide +kernel
theorem d_Fc_scan_52 : decode c_Fc_scan 52 = .ok (.invokevirtual 143, 3) := by decide +kernel
theorem d_Fc_scan_55 : decode c_Fc_scan 55 = .ok (.istore 4, 2) := by decide +kernel
theorem d_Fc_scan_57 : decode c_Fc_scan 57 = .ok (.aload_n 0, 1) := by decide +kernel
theorem d_Fc_scan_58 : decode c_Fc_scan 58 = .ok (.aload_n 0, 1) := by decide +kernel
theorem d_Fc_scan_59 : decode c_Fc_scan 59 = .ok (.getfield 47, 3) := by decide +kernel
theorem d_Fc_scan_62 : decode c_Fc_scan 62 = .ok (.getfield 147, 3) := by decide +kernel
theorem d_Fc_scan_65 : decode c_Fc_scan 65 = .ok (.putfield 150, 3) := by decide +kernel
theorem d_Fc_scan_68 : decode c_Fc_scan 68 = .ok (.aload_n 0, 1) := by decide +kernel
theorem d_Fc_scan_69 : decode c_Fc_scan 69 = .ok (.aload_n 0, 1) := by decide +kernel
theorem d_Fc_scan_70 : decode c_Fc_scan 70 = .ok (.getfield 47, 3) := by decide +kernel
theorem d_Fc_scan_73 : decode c_Fc_scan 73 = .ok (.getfield 151, 3) := by decide +kernel
theorem d_Fc_scan_76 : decode c_Fc_scan 76 = .ok (.putfield 154, 3) := by decide +kernel
theorem d_Fc_scan_79 : decode c_Fc_scan 79 = .ok (.iload 4, 2) := by decide +kernel
theorem d_Fc_scan_81 : decode c_Fc_scan 81 = .ok (.ifCond .ne 5, 3) := by decide +kernel
theorem d_Fc_scan_84 : decode c_Fc_scan 84 = .ok (.iconst (-1), 1) := by decide +kernel
theorem d_Fc_scan_85 : decode c_Fc_scan 85 = .ok (.ireturn, 1) := by decide +kernel
theorem d_Fc_scan_86 : decode c_Fc_scan 86 = .ok (.aload_n 0, 1) := by decide +kernel
theorem d_Fc_scan_87 : decode c_Fc_scan 87 = .ok (.iload_n 3, 1) := by decide +kernel
theorem d_Fc_scan_88 : decode c_Fc_scan 88 = .ok (.putfield 136, 3) := by decide +kernel
theorem d_Fc_scan_91 : decode c_Fc_scan 91 = .ok (.aload_n 0, 1) := by decide +kernel
theorem d_Fc_scan_92 : decode c_Fc_scan 92 = .ok (.iload_n 2, 1) := by decide +kernel
theorem d_Fc_scan_93 : decode c_Fc_scan 93 = .ok (.invokevirtual 155, 3) := by decide +kernel
theorem d_Fc_scan_96 : decode c_Fc_scan 96 = .ok (.aload_n 0, 1) := by decide +kernel
theorem d_Fc_scan_97 : decode c_Fc_scan 97 = .ok (.getfield 159, 3) := by decide +kernel
theorem d_Fc_scan_100 : decode c_Fc_scan 100 = .ok (.ireturn, 1) := by decide +kernel
theorem d_Fc_active_0 : decode c_Fc_active 0 = .ok (.aload_n 0, 1) := by decide +kernel
theorem d_Fc_active_1 : decode c_Fc_active 1 = .ok (.getfield 129, 3) := by decide +kernel
theorem d_Fc_active_4 : decode c_Fc_active 4 = .ok (.ireturn, 1) := by decide +kernel
theorem d_Fc_time_0 : decode c_Fc_time 0 = .ok (.aload_n 0, 1) := by decide +kernel
theorem d_Fc_time_1 : decode c_Fc_time 1 = .ok (.getfield 10, 3) := by decide +kernel
theorem d_Fc_time_4 : decode c_Fc_time 4 = .ok (.iload_n 1, 1) := by decide +kernel
theorem d_Fc_time_5 : decode c_Fc_time 5 = .ok (.invokevirtual 88, 3) := by decide +kernel
theorem d_Fc_time_8 : decode c_Fc_time 8 = .ok (.ifCond .eq 12, 3) := by decide +kernel
theorem d_Fc_time_11 : decode c_Fc_time 11 = .ok (.aload_n 0, 1) := by decide +kernel
theorem d_Fc_time_12 : decode c_Fc_time 12 = .ok (.getfield 51, 3) := by decide +kernel
theorem d_Fc_time_15 : decode c_Fc_time 15 = .ok (.iload_n 1, 1) := by decide +kernel
theorem d_Fc_time_16 : decode c_Fc_time 16 = .ok (.iaload, 1) := by decide +kernel
theorem d_Fc_time_17 : decode c_Fc_time 17 = .ok (.goto 4, 3) := by decide +kernel
theorem d_Fc_time_20 : decode c_Fc_time 20 = .ok (.iconst 0, 1) := by decide +kernel
theorem d_Fc_time_21 : decode c_Fc_time 21 = .ok (.ireturn, 1) := by decide +kernel
theorem d_Fc_enabled_0 : decode c_Fc_enabled 0 = .ok (.aload_n 0, 1) := by decide +kernel
theorem d_Fc_enabled_1 : decode c_Fc_enabled 1 = .ok (.getfield 26, 3) := by decide +kernel
theorem d_Fc_enabled_4 : decode c_Fc_enabled 4 = .ok (.aload_n 0, 1) := by decide +kernel
theorem d_Fc_enabled_5 : decode c_Fc_enabled 5 = .ok (.getfield 129, 3) := by decide +kernel
theorem d_Fc_enabled_8 : decode c_Fc_enabled 8 = .ok (.invokevirtual 110, 3) := by decide +kernel
theorem d_Fc_enabled_11 : decode c_Fc_enabled 11 = .ok (.ireturn, 1) := by decide +kernel
theorem d_Fc_outputs_0 : decode c_Fc_outputs 0 = .ok (.aload_n 0, 1) := by decide +kernel
theorem d_Fc_outputs_1 : decode c_Fc_outputs 1 = .ok (.getfield 162, 3) := by decide +kernel
theorem d_Fc_outputs_4 : decode c_Fc_outputs 4 = .ok (.ireturn, 1) := by decide +kernel
theorem d_Fc_stored_0 : decode c_Fc_stored 0 = .ok (.aload_n 0, 1) := by decide +kernel
theorem d_Fc_stored_1 : decode c_Fc_stored 1 = .ok (.getfield 40, 3) := by decide +kernel
theorem d_Fc_stored_4 : decode c_Fc_stored 4 = .ok (.iload_n 1, 1) := by decide +kernel
theorem d_Fc_stored_5 : decode c_Fc_stored 5 = .ok (.invokevirtual 165, 3) := by decide +kernel
theorem d_Fc_stored_8 : decode c_Fc_stored 8 = .ok (.ireturn, 1) := by decide +kernel
theorem d_Fc_evolutions_0 : decode c_Fc_evolutions 0 = .ok (.aload_n 0, 1) := by decide +kernel
theorem d_Fc_evolutions_1 : decode c_Fc_evolutions 1 = .ok (.getfield 159, 3) := by decide +kernel
theorem d_Fc_evolutions_4 : decode c_Fc_evolutions 4 = .ok (.ireturn, 1) := by decide +kernel
theorem d_Fc_cleared_0 : decode c_Fc_cleared 0 = .ok (.aload_n 0, 1) := by decide +kernel
theorem d_Fc_cleared_1 : decode c_Fc_cleared 1 = .ok (.getfield 168, 3) := by decide +kernel
theorem d_Fc_cleared_4 : decode c_Fc_cleared 4 = .ok (.ireturn, 1) := by decide +kernel
theorem d_Fc_lead_0 : decode c_Fc_lead 0 = .ok (.aload_n 0, 1) := by decide +kernel
theorem d_Fc_lead_1 : decode c_Fc_lead 1 = .ok (.getfield 150, 3) := by decide +kernel
theorem d_Fc_lead_4 : decode c_Fc_lead 4 = .ok (.ireturn, 1) := by decide +kernel
theorem d_Fc_period_0 : decode c_Fc_period 0 = .ok (.aload_n 0, 1) := by decide +kernel
theorem d_Fc_period_1 : decode c_Fc_period 1 = .ok (.getfield 154, 3) := by decide +kernel
theorem d_Fc_period_4 : decode c_Fc_period 4 = .ok (.ireturn, 1) := by decide +kernel
theorem d_Fc_forgetRun_0 : decode c_Fc_forgetRun 0 = .ok (.iconst 0, 1) := by decide +kernel
theorem d_Fc_forgetRun_1 : decode c_Fc_forgetRun 1 = .ok (.istore_n 1, 1) := by decide +kernel
theorem d_Fc_forgetRun_2 : decode c_Fc_forgetRun 2 = .ok (.iload_n 1, 1) := by decide +kernel
theorem d_Fc_forgetRun_3 : decode c_Fc_forgetRun 3 = .ok (.bipush 8, 2) := by decide +kernel
theorem d_Fc_forgetRun_5 : decode c_Fc_forgetRun 5 = .ok (.if_icmp .ge 16, 3) := by decide +kernel
theorem d_Fc_forgetRun_8 : decode c_Fc_forgetRun 8 = .ok (.aload_n 0, 1) := by decide +kernel
theorem d_Fc_forgetRun_9 : decode c_Fc_forgetRun 9 = .ok (.getfield 51, 3) := by decide +kernel
theorem d_Fc_forgetRun_12 : decode c_Fc_forgetRun 12 = .ok (.iload_n 1, 1) := by decide +kernel
theorem d_Fc_forgetRun_13 : decode c_Fc_forgetRun 13 = .ok (.iconst 0, 1) := by decide +kernel
theorem d_Fc_forgetRun_14 : decode c_Fc_forgetRun 14 = .ok (.iastore, 1) := by decide +kernel
theorem d_Fc_forgetRun_15 : decode c_Fc_forgetRun 15 = .ok (.iinc 1 1, 3) := by decide +kernel
theorem d_Fc_forgetRun_18 : decode c_Fc_forgetRun 18 = .ok (.goto (-16), 3) := by decide +kernel
theorem d_Fc_forgetRun_21 : decode c_Fc_forgetRun 21 = .ok (.aload_n 0, 1) := by decide +kernel
theorem d_Fc_forgetRun_22 : decode c_Fc_forgetRun 22 = .ok (.getfield 40, 3) := by decide +kernel
theorem d_Fc_forgetRun_25 : decode c_Fc_forgetRun 25 = .ok (.invokevirtual 171, 3) := by decide +kernel
theorem d_Fc_forgetRun_28 : decode c_Fc_forgetRun 28 = .ok (.aload_n 0, 1) := by decide +kernel
theorem d_Fc_forgetRun_29 : decode c_Fc_forgetRun 29 = .ok (.iconst 0, 1) := by decide +kernel
theorem d_Fc_forgetRun_30 : decode c_Fc_forgetRun 30 = .ok (.putfield 129, 3) := by decide +kernel
theorem d_Fc_forgetRun_33 : decode c_Fc_forgetRun 33 = .ok (.aload_n 0, 1) := by decide +kernel
theorem d_Fc_forgetRun_34 : decode c_Fc_forgetRun 34 = .ok (.iconst 0, 1) := by decide +kernel
theorem d_Fc_forgetRun_35 : decode c_Fc_forgetRun 35 = .ok (.putfield 174, 3) := by decide +kernel
theorem d_Fc_forgetRun_38 : decode c_Fc_forgetRun 38 = .ok (.aload_n 0, 1) := by decide +kernel
theorem d_Fc_forgetRun_39 : decode c_Fc_forgetRun 39 = .ok (.iconst 0, 1) := by decide +kernel
theorem d_Fc_forgetRun_40 : decode c_Fc_forgetRun 40 = .ok (.putfield 136, 3) := by decide +kernel
theorem d_Fc_forgetRun_43 : decode c_Fc_forgetRun 43 = .ok (.aload_n 0, 1) := by decide +kernel
theorem d_Fc_forgetRun_44 : decode c_Fc_forgetRun 44 = .ok (.iconst 0, 1) := by decide +kernel
theorem d_Fc_forgetRun_45 : decode c_Fc_forgetRun 45 = .ok (.putfield 162, 3) := by decide +kernel
theorem d_Fc_forgetRun_48 : decode c_Fc_forgetRun 48 = .ok (.aload_n 0, 1) := by decide +kernel
theorem d_Fc_forgetRun_49 : decode c_Fc_forgetRun 49 = .ok (.iconst 0, 1) := by decide +kernel
theorem d_Fc_forgetRun_50 : decode c_Fc_forgetRun 50 = .ok (.putfield 159, 3) := by decide +kernel
theorem d_Fc_forgetRun_53 : decode c_Fc_forgetRun 53 = .ok (.aload_n 0, 1) := by decide +kernel
theorem d_Fc_forgetRun_54 : decode c_Fc_forgetRun 54 = .ok (.iconst 0, 1) := by decide +kernel
theorem d_Fc_forgetRun_55 : decode c_Fc_forgetRun 55 = .ok (.putfield 168, 3) := by decide +kernel
theorem d_Fc_forgetRun_58 : decode c_Fc_forgetRun 58 = .ok (.aload_n 0, 1) := by decide +kernel
theorem d_Fc_forgetRun_59 : decode c_Fc_forgetRun 59 = .ok (.iconst 0, 1) := by decide +kernel
theorem d_Fc_forgetRun_60 : decode c_Fc_forgetRun 60 = .ok (.putfield 150, 3) := by decide +kernel
theorem d_Fc_forgetRun_63 : decode c_Fc_forgetRun 63 = .ok (.aload_n 0, 1) := by decide +kernel
theorem d_Fc_forgetRun_64 : decode c_Fc_forgetRun 64 = .ok (.iconst 0, 1) := by decide +kernel
theorem d_Fc_forgetRun_65 : decode c_Fc_forgetRun 65 = .ok (.putfield 154, 3) := by decide +kernel
theorem d_Fc_forgetRun_68 : decode c_Fc_forgetRun 68 = .ok (.return_, 1) := by decide +kernel
theorem d_Fc_comesToAnEnd_0 : decode c_Fc_comesToAnEnd 0 = .ok (.aload_n 0, 1) := by decide +kernel
theorem d_Fc_comesToAnEnd_1 : decode c_Fc_comesToAnEnd 1 = .ok (.getfield 126, 3) := by decide +kernel
theorem d_Fc_comesToAnEnd_4 : decode c_Fc_comesToAnEnd 4 = .ok (.ifCond .ne 10, 3) := by decide +kernel
theorem d_Fc_comesToAnEnd_7 : decode c_Fc_comesToAnEnd 7 = .ok (.aload_n 0, 1) := by decide +kernel
theorem d_Fc_comesToAnEnd_8 : decode c_Fc_comesToAnEnd 8 = .ok (.invokevirtual 177, 3) := by decide +kernel
theorem d_Fc_comesToAnEnd_11 : decode c_Fc_comesToAnEnd 11 = .ok (.pop, 1) := by decide +kernel
theorem d_Fc_comesToAnEnd_12 : decode c_Fc_comesToAnEnd 12 = .ok (.iconst 1, 1) := by decide +kernel
theorem d_Fc_comesToAnEnd_13 : decode c_Fc_comesToAnEnd 13 = .ok (.ireturn, 1) := by decide +kernel
theorem d_Fc_comesToAnEnd_14 : decode c_Fc_comesToAnEnd 14 = .ok (.iconst 0, 1) := by decide +kernel
theorem d_Fc_comesToAnEnd_15 : decode c_Fc_comesToAnEnd 15 = .ok (.istore_n 1, 1) := by decide +kernel
theorem d_Fc_comesToAnEnd_16 : decode c_Fc_comesToAnEnd 16 = .ok (.iload_n 1, 1) := by decide +kernel
theorem d_Fc_comesToAnEnd_17 : decode c_Fc_comesToAnEnd 17 = .ok (.sipush 511, 3) := by decide +kernel
theorem d_Fc_comesToAnEnd_20 : decode c_Fc_comesToAnEnd 20 = .ok (.if_icmp .gt 37, 3) := by decide +kernel
theorem d_Fc_comesToAnEnd_23 : decode c_Fc_comesToAnEnd 23 = .ok (.aload_n 0, 1) := by decide +kernel
theorem d_Fc_comesToAnEnd_24 : decode c_Fc_comesToAnEnd 24 = .ok (.invokevirtual 177, 3) := by decide +kernel
theorem d_Fc_comesToAnEnd_27 : decode c_Fc_comesToAnEnd 27 = .ok (.ifCond .ne 5, 3) := by decide +kernel
theorem d_Fc_comesToAnEnd_30 : decode c_Fc_comesToAnEnd 30 = .ok (.iconst 1, 1) := by decide +kernel
theorem d_Fc_comesToAnEnd_31 : decode c_Fc_comesToAnEnd 31 = .ok (.ireturn, 1) := by decide +kernel
theorem d_Fc_comesToAnEnd_32 : decode c_Fc_comesToAnEnd 32 = .ok (.aload_n 0, 1) := by decide +kernel
theorem d_Fc_comesToAnEnd_33 : decode c_Fc_comesToAnEnd 33 = .ok (.getfield 47, 3) := by decide +kernel
theorem d_Fc_comesToAnEnd_36 : decode c_Fc_comesToAnEnd 36 = .ok (.invokevirtual 180, 3) := by decide +kernel
theorem d_Fc_comesToAnEnd_39 : decode c_Fc_comesToAnEnd 39 = .ok (.aload_n 0, 1) := by decide +kernel
theorem d_Fc_comesToAnEnd_40 : decode c_Fc_comesToAnEnd 40 = .ok (.getfield 47, 3) := by decide +kernel
theorem d_Fc_comesToAnEnd_43 : decode c_Fc_comesToAnEnd 43 = .ok (.invokevirtual 183, 3) := by decide +kernel
theorem d_Fc_comesToAnEnd_46 : decode c_Fc_comesToAnEnd 46 = .ok (.ifCond .eq 5, 3) := by decide +kernel
theorem d_Fc_comesToAnEnd_49 : decode c_Fc_comesToAnEnd 49 = .ok (.iconst 0, 1) := by decide +kernel
theorem d_Fc_comesToAnEnd_50 : decode c_Fc_comesToAnEnd 50 = .ok (.ireturn, 1) := by decide +kernel
theorem d_Fc_comesToAnEnd_51 : decode c_Fc_comesToAnEnd 51 = .ok (.iinc 1 1, 3) := by decide +kernel
theorem d_Fc_comesToAnEnd_54 : decode c_Fc_comesToAnEnd 54 = .ok (.goto (-38), 3) := by decide +kernel
theorem d_Fc_comesToAnEnd_57 : decode c_Fc_comesToAnEnd 57 = .ok (.iconst 0, 1) := by decide +kernel
theorem d_Fc_comesToAnEnd_58 : decode c_Fc_comesToAnEnd 58 = .ok (.ireturn, 1) := by decide +kernel
theorem d_Fc_evolve_0 : decode c_Fc_evolve 0 = .ok (.aload_n 0, 1) := by decide +kernel
theorem d_Fc_evolve_1 : decode c_Fc_evolve 1 = .ok (.getfield 26, 3) := by decide +kernel
theorem d_Fc_evolve_4 : decode c_Fc_evolve 4 = .ok (.aload_n 0, 1) := by decide +kernel
theorem d_Fc_evolve_5 : decode c_Fc_evolve 5 = .ok (.getfield 47, 3) := by decide +kernel
theorem d_Fc_evolve_8 : decode c_Fc_evolve 8 = .ok (.getfield 186, 3) := by decide +kernel
theorem d_Fc_evolve_11 : decode c_Fc_evolve 11 = .ok (.aload_n 0, 1) := by decide +kernel
theorem d_Fc_evolve_12 : decode c_Fc_evolve 12 = .ok (.getfield 19, 3) := by decide +kernel
theorem d_Fc_evolve_15 : decode c_Fc_evolve 15 = .ok (.aload_n 0, 1) := by decide +kernel
theorem d_Fc_evolve_16 : decode c_Fc_evolve 16 = .ok (.getfield 47, 3) := by decide +kernel
theorem d_Fc_evolve_19 : decode c_Fc_evolve 19 = .ok (.invokevirtual 187, 3) := by decide +kernel
theorem d_Fc_evolve_22 : decode c_Fc_evolve 22 = .ok (.invokevirtual 191, 3) := by decide +kernel
theorem d_Fc_evolve_25 : decode c_Fc_evolve 25 = .ok (.istore_n 1, 1) := by decide +kernel
theorem d_Fc_evolve_26 : decode c_Fc_evolve 26 = .ok (.iconst 0, 1) := by decide +kernel
theorem d_Fc_evolve_27 : decode c_Fc_evolve 27 = .ok (.istore_n 2, 1) := by decide +kernel
theorem d_Fc_evolve_28 : decode c_Fc_evolve 28 = .ok (.iconst 0, 1) := by decide +kernel
theorem d_Fc_evolve_29 : decode c_Fc_evolve 29 = .ok (.istore_n 3, 1) := by decide +kernel
theorem d_Fc_evolve_30 : decode c_Fc_evolve 30 = .ok (.iconst 0, 1) := by decide +kernel
theorem d_Fc_evolve_31 : decode c_Fc_evolve 31 = .ok (.istore 4, 2) := by decide +kernel
theorem d_Fc_evolve_33 : decode c_Fc_evolve 33 = .ok (.iload 4, 2) := by decide +kernel
theorem d_Fc_evolve_35 : decode c_Fc_evolve 35 = .ok (.iconst 3, 1) := by decide +kernel
theorem d_Fc_evolve_36 : decode c_Fc_evolve 36 = .ok (.if_icmp .ge 133, 3) := by decide +kernel
theorem d_Fc_evolve_39 : decode c_Fc_evolve 39 = .ok (.aload_n 0, 1) := by decide +kernel
theorem d_Fc_evolve_40 : decode c_Fc_evolve 40 = .ok (.getfield 47, 3) := by decide +kernel
theorem d_Fc_evolve_43 : decode c_Fc_evolve 43 = .ok (.getfield 186, 3) := by decide +kernel
theorem d_Fc_evolve_46 : decode c_Fc_evolve 46 = .ok (.aload_n 0, 1) := by decide +kernel
theorem d_Fc_evolve_47 : decode c_Fc_evolve 47 = .ok (.getfield 10, 3) := by decide +kernel
theorem d_Fc_evolve_50 : decode c_Fc_evolve 50 = .ok (.getfield 92, 3) := by decide +kernel
theorem d_Fc_evolve_53 : decode c_Fc_evolve 53 = .ok (.iload 4, 2) := by decide +kernel
theorem d_Fc_evolve_55 : decode c_Fc_evolve 55 = .ok (.iaload, 1) := by decide +kernel
theorem d_Fc_evolve_56 : decode c_Fc_evolve 56 = .ok (.iand, 1) := by decide +kernel
theorem d_Fc_evolve_57 : decode c_Fc_evolve 57 = .ok (.istore 5, 2) := by decide +kernel
theorem d_Fc_evolve_59 : decode c_Fc_evolve 59 = .ok (.aload_n 0, 1) := by decide +kernel
theorem d_Fc_evolve_60 : decode c_Fc_evolve 60 = .ok (.getfield 33, 3) := by decide +kernel
theorem d_Fc_evolve_63 : decode c_Fc_evolve 63 = .ok (.iload 4, 2) := by decide +kernel
theorem d_Fc_evolve_65 : decode c_Fc_evolve 65 = .ok (.iload_n 3, 1) := by decide +kernel
theorem d_Fc_evolve_66 : decode c_Fc_evolve 66 = .ok (.invokevirtual 195, 3) := by decide +kernel
theorem d_Fc_evolve_69 : decode c_Fc_evolve 69 = .ok (.istore 6, 2) := by decide +kernel
theorem d_Fc_evolve_71 : decode c_Fc_evolve 71 = .ok (.iload 6, 2) := by decide +kernel
theorem d_Fc_evolve_73 : decode c_Fc_evolve 73 = .ok (.iconst (-1), 1) := by decide +kernel
theorem d_Fc_evolve_74 : decode c_Fc_evolve 74 = .ok (.if_icmp .eq 20, 3) := by decide +kernel
theorem d_Fc_evolve_77 : decode c_Fc_evolve 77 = .ok (.iload_n 3, 1) := by decide +kernel
theorem d_Fc_evolve_78 : decode c_Fc_evolve 78 = .ok (.aload_n 0, 1) := by decide +kernel
theorem d_Fc_evolve_79 : decode c_Fc_evolve 79 = .ok (.getfield 33, 3) := by decide +kernel
theorem d_Fc_evolve_82 : decode c_Fc_evolve 82 = .ok (.iload 6, 2) := by decide +kernel
theorem d_Fc_evolve_84 : decode c_Fc_evolve 84 = .ok (.iload 5, 2) := by decide +kernel
theorem d_Fc_evolve_86 : decode c_Fc_evolve 86 = .ok (.invokevirtual 198, 3) := by decide +kernel
theorem d_Fc_evolve_89 : decode c_Fc_evolve 89 = .ok (.ior, 1) := by decide +kernel
theorem d_Fc_evolve_90 : decode c_Fc_evolve 90 = .ok (.istore_n 3, 1) := by decide +kernel
theorem d_Fc_evolve_91 : decode c_Fc_evolve 91 = .ok (.goto 72, 3) := by decide +kernel
theorem d_Fc_evolve_94 : decode c_Fc_evolve 94 = .ok (.iload_n 1, 1) := by decide +kernel
theorem d_Fc_evolve_95 : decode c_Fc_evolve 95 = .ok (.aload_n 0, 1) := by decide +kernel
theorem d_Fc_evolve_96 : decode c_Fc_evolve 96 = .ok (.getfield 26, 3) := by decide +kernel
theorem d_Fc_evolve_99 : decode c_Fc_evolve 99 = .ok (.getfield 201, 3) := by decide +kernel
theorem d_Fc_evolve_102 : decode c_Fc_evolve 102 = .ok (.iload 4, 2) := by decide +kernel
theorem d_Fc_evolve_104 : decode c_Fc_evolve 104 = .ok (.iaload, 1) := by decide +kernel
theorem d_Fc_evolve_105 : decode c_Fc_evolve 105 = .ok (.iand, 1) := by decide +kernel
theorem d_Fc_evolve_106 : decode c_Fc_evolve 106 = .ok (.istore 7, 2) := by decide +kernel
theorem d_Fc_evolve_108 : decode c_Fc_evolve 108 = .ok (.aload_n 0, 1) := by decide +kernel
theorem d_Fc_evolve_109 : decode c_Fc_evolve 109 = .ok (.getfield 126, 3) := by decide +kernel
theorem d_Fc_evolve_112 : decode c_Fc_evolve 112 = .ok (.ifCond .eq 8, 3) := by decide +kernel
theorem d_Fc_evolve_115 : decode c_Fc_evolve 115 = .ok (.iload 7, 2) := by decide +kernel
theorem d_Fc_evolve_117 : decode c_Fc_evolve 117 = .ok (.goto 12, 3) := by decide +kernel
theorem d_Fc_evolve_120 : decode c_Fc_evolve 120 = .ok (.aload_n 0, 1) := by decide +kernel
theorem d_Fc_evolve_121 : decode c_Fc_evolve 121 = .ok (.getfield 26, 3) := by decide +kernel
theorem d_Fc_evolve_124 : decode c_Fc_evolve 124 = .ok (.iload 7, 2) := by decide +kernel
theorem d_Fc_evolve_126 : decode c_Fc_evolve 126 = .ok (.invokevirtual 202, 3) := by decide +kernel
theorem d_Fc_evolve_129 : decode c_Fc_evolve 129 = .ok (.istore 8, 2) := by decide +kernel
theorem d_Fc_evolve_131 : decode c_Fc_evolve 131 = .ok (.iload_n 3, 1) := by decide +kernel
theorem d_Fc_evolve_132 : decode c_Fc_evolve 132 = .ok (.iload 5, 2) := by decide +kernel
theorem d_Fc_evolve_134 : decode c_Fc_evolve 134 = .ok (.aload_n 0, 1) := by decide +kernel
theorem d_Fc_evolve_135 : decode c_Fc_evolve 135 = .ok (.getfield 26, 3) := by decide +kernel
theorem d_Fc_evolve_138 : decode c_Fc_evolve 138 = .ok (.iload 8, 2) := by decide +kernel
theorem d_Fc_evolve_140 : decode c_Fc_evolve 140 = .ok (.invokevirtual 205, 3) := by decide +kernel
theorem d_Fc_evolve_143 : decode c_Fc_evolve 143 = .ok (.iconst (-1), 1) := by decide +kernel
theorem d_Fc_evolve_144 : decode c_Fc_evolve 144 = .ok (.ixor, 1) := by decide +kernel
theorem d_Fc_evolve_145 : decode c_Fc_evolve 145 = .ok (.iand, 1) := by decide +kernel
theorem d_Fc_evolve_146 : decode c_Fc_evolve 146 = .ok (.aload_n 0, 1) := by decide +kernel
theorem d_Fc_evolve_147 : decode c_Fc_evolve 147 = .ok (.getfield 26, 3) := by decide +kernel
theorem d_Fc_evolve_150 : decode c_Fc_evolve 150 = .ok (.iload 8, 2) := by decide +kernel
theorem d_Fc_evolve_152 : decode c_Fc_evolve 152 = .ok (.invokevirtual 113, 3) := by decide +kernel
theorem d_Fc_evolve_155 : decode c_Fc_evolve 155 = .ok (.ior, 1) := by decide +kernel
theorem d_Fc_evolve_156 : decode c_Fc_evolve 156 = .ok (.ior, 1) := by decide +kernel
theorem d_Fc_evolve_157 : decode c_Fc_evolve 157 = .ok (.istore_n 3, 1) := by decide +kernel
theorem d_Fc_evolve_158 : decode c_Fc_evolve 158 = .ok (.iload_n 2, 1) := by decide +kernel
theorem d_Fc_evolve_159 : decode c_Fc_evolve 159 = .ok (.iload 8, 2) := by decide +kernel
theorem d_Fc_evolve_161 : decode c_Fc_evolve 161 = .ok (.ior, 1) := by decide +kernel
theorem d_Fc_evolve_162 : decode c_Fc_evolve 162 = .ok (.istore_n 2, 1) := by decide +kernel
theorem d_Fc_evolve_163 : decode c_Fc_evolve 163 = .ok (.iinc 4 1, 3) := by decide +kernel
theorem d_Fc_evolve_166 : decode c_Fc_evolve 166 = .ok (.goto (-133), 3) := by decide +kernel
theorem d_Fc_evolve_169 : decode c_Fc_evolve 169 = .ok (.aload_n 0, 1) := by decide +kernel
theorem d_Fc_evolve_170 : decode c_Fc_evolve 170 = .ok (.getfield 47, 3) := by decide +kernel
theorem d_Fc_evolve_173 : decode c_Fc_evolve 173 = .ok (.iload_n 3, 1) := by decide +kernel
theorem d_Fc_evolve_174 : decode c_Fc_evolve 174 = .ok (.iload_n 2, 1) := by decide +kernel
theorem d_Fc_evolve_175 : decode c_Fc_evolve 175 = .ok (.invokevirtual 208, 3) := by decide +kernel
theorem d_Fc_evolve_178 : decode c_Fc_evolve 178 = .ok (.ireturn, 1) := by decide +kernel
theorem d_Fc_keepTrial_0 : decode c_Fc_keepTrial 0 = .ok (.aload_n 0, 1) := by decide +kernel
theorem d_Fc_keepTrial_1 : decode c_Fc_keepTrial 1 = .ok (.aload_n 0, 1) := by decide +kernel
theorem d_Fc_keepTrial_2 : decode c_Fc_keepTrial 2 = .ok (.getfield 47, 3) := by decide +kernel
theorem d_Fc_keepTrial_5 : decode c_Fc_keepTrial 5 = .ok (.getfield 186, 3) := by decide +kernel
theorem d_Fc_keepTrial_8 : decode c_Fc_keepTrial 8 = .ok (.putfield 129, 3) := by decide +kernel
theorem d_Fc_keepTrial_11 : decode c_Fc_keepTrial 11 = .ok (.iconst 0, 1) := by decide +kernel
theorem d_Fc_keepTrial_12 : decode c_Fc_keepTrial 12 = .ok (.istore_n 2, 1) := by decide +kernel
theorem d_Fc_keepTrial_13 : decode c_Fc_keepTrial 13 = .ok (.iload_n 2, 1) := by decide +kernel
theorem d_Fc_keepTrial_14 : decode c_Fc_keepTrial 14 = .ok (.bipush 8, 2) := by decide +kernel
theorem d_Fc_keepTrial_16 : decode c_Fc_keepTrial 16 = .ok (.if_icmp .ge 23, 3) := by decide +kernel
theorem d_Fc_keepTrial_19 : decode c_Fc_keepTrial 19 = .ok (.aload_n 0, 1) := by decide +kernel
theorem d_Fc_keepTrial_20 : decode c_Fc_keepTrial 20 = .ok (.getfield 51, 3) := by decide +kernel
theorem d_Fc_keepTrial_23 : decode c_Fc_keepTrial 23 = .ok (.iload_n 2, 1) := by decide +kernel
theorem d_Fc_keepTrial_24 : decode c_Fc_keepTrial 24 = .ok (.aload_n 0, 1) := by decide +kernel
theorem d_Fc_keepTrial_25 : decode c_Fc_keepTrial 25 = .ok (.getfield 47, 3) := by decide +kernel
theorem d_Fc_keepTrial_28 : decode c_Fc_keepTrial 28 = .ok (.iload_n 2, 1) := by decide +kernel
theorem d_Fc_keepTrial_29 : decode c_Fc_keepTrial 29 = .ok (.invokevirtual 212, 3) := by decide +kernel
theorem d_Fc_keepTrial_32 : decode c_Fc_keepTrial 32 = .ok (.iastore, 1) := by decide +kernel
theorem d_Fc_keepTrial_33 : decode c_Fc_keepTrial 33 = .ok (.iinc 2 1, 3) := by decide +kernel
theorem d_Fc_keepTrial_36 : decode c_Fc_keepTrial 36 = .ok (.goto (-23), 3) := by decide +kernel
theorem d_Fc_keepTrial_39 : decode c_Fc_keepTrial 39 = .ok (.aload_n 0, 1) := by decide +kernel
theorem d_Fc_keepTrial_40 : decode c_Fc_keepTrial 40 = .ok (.aload_n 0, 1) := by decide +kernel
theorem d_Fc_keepTrial_41 : decode c_Fc_keepTrial 41 = .ok (.getfield 47, 3) := by decide +kernel
theorem d_Fc_keepTrial_44 : decode c_Fc_keepTrial 44 = .ok (.getfield 215, 3) := by decide +kernel
theorem d_Fc_keepTrial_47 : decode c_Fc_keepTrial 47 = .ok (.putfield 159, 3) := by decide +kernel
theorem d_Fc_keepTrial_50 : decode c_Fc_keepTrial 50 = .ok (.aload_n 0, 1) := by decide +kernel
theorem d_Fc_keepTrial_51 : decode c_Fc_keepTrial 51 = .ok (.aload_n 0, 1) := by decide +kernel
theorem d_Fc_keepTrial_52 : decode c_Fc_keepTrial 52 = .ok (.getfield 47, 3) := by decide +kernel
theorem d_Fc_keepTrial_55 : decode c_Fc_keepTrial 55 = .ok (.getfield 218, 3) := by decide +kernel
theorem d_Fc_keepTrial_58 : decode c_Fc_keepTrial 58 = .ok (.putfield 168, 3) := by decide +kernel
theorem d_Fc_keepTrial_61 : decode c_Fc_keepTrial 61 = .ok (.aload_n 0, 1) := by decide +kernel
theorem d_Fc_keepTrial_62 : decode c_Fc_keepTrial 62 = .ok (.getfield 40, 3) := by decide +kernel
theorem d_Fc_keepTrial_65 : decode c_Fc_keepTrial 65 = .ok (.iload_n 1, 1) := by decide +kernel
theorem d_Fc_keepTrial_66 : decode c_Fc_keepTrial 66 = .ok (.invokevirtual 219, 3) := by decide +kernel
theorem d_Fc_keepTrial_69 : decode c_Fc_keepTrial 69 = .ok (.aload_n 0, 1) := by decide +kernel
theorem d_Fc_keepTrial_70 : decode c_Fc_keepTrial 70 = .ok (.aload_n 0, 1) := by decide +kernel
theorem d_Fc_keepTrial_71 : decode c_Fc_keepTrial 71 = .ok (.getfield 40, 3) := by decide +kernel
theorem d_Fc_keepTrial_74 : decode c_Fc_keepTrial 74 = .ok (.aload_n 0, 1) := by decide +kernel
theorem d_Fc_keepTrial_75 : decode c_Fc_keepTrial 75 = .ok (.getfield 129, 3) := by decide +kernel
theorem d_Fc_keepTrial_78 : decode c_Fc_keepTrial 78 = .ok (.aload_n 0, 1) := by decide +kernel
theorem d_Fc_keepTrial_79 : decode c_Fc_keepTrial 79 = .ok (.getfield 174, 3) := by decide +kernel
theorem d_Fc_keepTrial_82 : decode c_Fc_keepTrial 82 = .ok (.aload_n 0, 1) := by decide +kernel
theorem d_Fc_keepTrial_83 : decode c_Fc_keepTrial 83 = .ok (.getfield 51, 3) := by decide +kernel
theorem d_Fc_keepTrial_86 : decode c_Fc_keepTrial 86 = .ok (.invokevirtual 222, 3) := by decide +kernel
theorem d_Fc_keepTrial_89 : decode c_Fc_keepTrial 89 = .ok (.putfield 162, 3) := by decide +kernel
theorem d_Fc_keepTrial_92 : decode c_Fc_keepTrial 92 = .ok (.aload_n 0, 1) := by decide +kernel
theorem d_Fc_keepTrial_93 : decode c_Fc_keepTrial 93 = .ok (.aload_n 0, 1) := by decide +kernel
theorem d_Fc_keepTrial_94 : decode c_Fc_keepTrial 94 = .ok (.getfield 129, 3) := by decide +kernel
theorem d_Fc_keepTrial_97 : decode c_Fc_keepTrial 97 = .ok (.putfield 174, 3) := by decide +kernel
theorem d_Fc_keepTrial_100 : decode c_Fc_keepTrial 100 = .ok (.return_, 1) := by decide +kernel
theorem d_Fc_isIn_0 : decode c_Fc_isIn 0 = .ok (.iload_n 1, 1) := by decide +kernel
theorem d_Fc_isIn_1 : decode c_Fc_isIn 1 = .ok (.iload_n 0, 1) := by decide +kernel
theorem d_Fc_isIn_2 : decode c_Fc_isIn 2 = .ok (.ishr, 1) := by decide +kernel
theorem d_Fc_isIn_3 : decode c_Fc_isIn 3 = .ok (.iconst 1, 1) := by decide +kernel
theorem d_Fc_isIn_4 : decode c_Fc_isIn 4 = .ok (.iand, 1) := by decide +kernel
theorem d_Fc_isIn_5 : decode c_Fc_isIn 5 = .ok (.ifCond .eq 7, 3) := by decide +kernel
theorem d_Fc_isIn_8 : decode c_Fc_isIn 8 = .ok (.iconst 1, 1) := by decide +kernel
theorem d_Fc_isIn_9 : decode c_Fc_isIn 9 = .ok (.goto 4, 3) := by decide +kernel
theorem d_Fc_isIn_12 : decode c_Fc_isIn 12 = .ok (.iconst 0, 1) := by decide +kernel
theorem d_Fc_isIn_13 : decode c_Fc_isIn 13 = .ok (.ireturn, 1) := by decide +kernel
theorem d_Fc_isLine_0 : decode c_Fc_isLine 0 = .ok (.iload_n 0, 1) := by decide +kernel
theorem d_Fc_isLine_1 : decode c_Fc_isLine 1 = .ok (.ifCond .lt 13, 3) := by decide +kernel
theorem d_Fc_isLine_4 : decode c_Fc_isLine 4 = .ok (.iload_n 0, 1) := by decide +kernel
theorem d_Fc_isLine_5 : decode c_Fc_isLine 5 = .ok (.bipush 8, 2) := by decide +kernel
theorem d_Fc_isLine_7 : decode c_Fc_isLine 7 = .ok (.if_icmp .ge 7, 3) := by decide +kernel
theorem d_Fc_isLine_10 : decode c_Fc_isLine 10 = .ok (.iconst 1, 1) := by decide +kernel
theorem d_Fc_isLine_11 : decode c_Fc_isLine 11 = .ok (.goto 4, 3) := by decide +kernel
theorem d_Fc_isLine_14 : decode c_Fc_isLine 14 = .ok (.iconst 0, 1) := by decide +kernel
theorem d_Fc_isLine_15 : decode c_Fc_isLine 15 = .ok (.ireturn, 1) := by decide +kernel
theorem d_Fc_isSpan_0 : decode c_Fc_isSpan 0 = .ok (.iload_n 0, 1) := by decide +kernel
theorem d_Fc_isSpan_1 : decode c_Fc_isSpan 1 = .ok (.ifCond .lt 13, 3) := by decide +kernel
theorem d_Fc_isSpan_4 : decode c_Fc_isSpan 4 = .ok (.iload_n 0, 1) := by decide +kernel
theorem d_Fc_isSpan_5 : decode c_Fc_isSpan 5 = .ok (.ldc 226, 2) := by decide +kernel
theorem d_Fc_isSpan_7 : decode c_Fc_isSpan 7 = .ok (.if_icmp .gt 7, 3) := by decide +kernel
theorem d_Fc_isSpan_10 : decode c_Fc_isSpan 10 = .ok (.iconst 1, 1) := by decide +kernel
theorem d_Fc_isSpan_11 : decode c_Fc_isSpan 11 = .ok (.goto 4, 3) := by decide +kernel
theorem d_Fc_isSpan_14 : decode c_Fc_isSpan 14 = .ok (.iconst 0, 1) := by decide +kernel
theorem d_Fc_isSpan_15 : decode c_Fc_isSpan 15 = .ok (.ireturn, 1) := by decide +kernel
theorem d_St_init_0 : decode c_St_init 0 = .ok (.aload_n 0, 1) := by decide +kernel
theorem d_St_init_1 : decode c_St_init 1 = .ok (.invokespecial 3, 3) := by decide +kernel
theorem d_St_init_4 : decode c_St_init 4 = .ok (.aload_n 0, 1) := by decide +kernel
theorem d_St_init_5 : decode c_St_init 5 = .ok (.bipush 8, 2) := by decide +kernel
theorem d_St_init_7 : decode c_St_init 7 = .ok (.newarray .int, 2) := by decide +kernel
theorem d_St_init_9 : decode c_St_init 9 = .ok (.putfield 9, 3) := by decide +kernel
theorem d_St_init_12 : decode c_St_init 12 = .ok (.aload_n 0, 1) := by decide +kernel
theorem d_St_init_13 : decode c_St_init 13 = .ok (.iconst 3, 1) := by decide +kernel
theorem d_St_init_14 : decode c_St_init 14 = .ok (.newarray .int, 2) := by decide +kernel
theorem d_St_init_16 : decode c_St_init 16 = .ok (.putfield 15, 3) := by decide +kernel
theorem d_St_init_19 : decode c_St_init 19 = .ok (.return_, 1) := by decide +kernel
theorem d_St_add_0 : decode c_St_add 0 = .ok (.aload_n 0, 1) := by decide +kernel
theorem d_St_add_1 : decode c_St_add 1 = .ok (.dup, 1) := by decide +kernel
theorem d_St_add_2 : decode c_St_add 2 = .ok (.getfield 18, 3) := by decide +kernel
theorem d_St_add_5 : decode c_St_add 5 = .ok (.dup_x1, 1) := by decide +kernel
theorem d_St_add_6 : decode c_St_add 6 = .ok (.iconst 1, 1) := by decide +kernel
theorem d_St_add_7 : decode c_St_add 7 = .ok (.iadd, 1) := by decide +kernel
theorem d_St_add_8 : decode c_St_add 8 = .ok (.putfield 18, 3) := by decide +kernel
theorem d_St_add_11 : decode c_St_add 11 = .ok (.istore_n 3, 1) := by decide +kernel
theorem d_St_add_12 : decode c_St_add 12 = .ok (.aload_n 0, 1) := by decide +kernel
theorem d_St_add_13 : decode c_St_add 13 = .ok (.getfield 9, 3) := by decide +kernel
theorem d_St_add_16 : decode c_St_add 16 = .ok (.iload_n 3, 1) := by decide +kernel
theorem d_St_add_17 : decode c_St_add 17 = .ok (.iload_n 1, 1) := by decide +kernel
theorem d_St_add_18 : decode c_St_add 18 = .ok (.iastore, 1) := by decide +kernel
theorem d_St_add_19 : decode c_St_add 19 = .ok (.aload_n 0, 1) := by decide +kernel
theorem d_St_add_20 : decode c_St_add 20 = .ok (.getfield 15, 3) := by decide +kernel
theorem d_St_add_23 : decode c_St_add 23 = .ok (.iload_n 1, 1) := by decide +kernel
theorem d_St_add_24 : decode c_St_add 24 = .ok (.dup2, 1) := by decide +kernel
theorem d_St_add_25 : decode c_St_add 25 = .ok (.iaload, 1) := by decide +kernel
theorem d_St_add_26 : decode c_St_add 26 = .ok (.iconst 1, 1) := by decide +kernel
theorem d_St_add_27 : decode c_St_add 27 = .ok (.iload_n 3, 1) := by decide +kernel
theorem d_St_add_28 : decode c_St_add 28 = .ok (.ishl, 1) := by decide +kernel
theorem d_St_add_29 : decode c_St_add 29 = .ok (.ior, 1) := by decide +kernel
theorem d_St_add_30 : decode c_St_add 30 = .ok (.iastore, 1) := by decide +kernel
theorem d_St_add_31 : decode c_St_add 31 = .ok (.iload_n 2, 1) := by decide +kernel
theorem d_St_add_32 : decode c_St_add 32 = .ok (.ifCond .eq 15, 3) := by decide +kernel
theorem d_St_add_35 : decode c_St_add 35 = .ok (.aload_n 0, 1) := by decide +kernel
theorem d_St_add_36 : decode c_St_add 36 = .ok (.dup, 1) := by decide +kernel
theorem d_St_add_37 : decode c_St_add 37 = .ok (.getfield 22, 3) := by decide +kernel
theorem d_St_add_40 : decode c_St_add 40 = .ok (.iconst 1, 1) := by decide +kernel
theorem d_St_add_41 : decode c_St_add 41 = .ok (.iload_n 3, 1) := by decide +kernel
theorem d_St_add_42 : decode c_St_add 42 = .ok (.ishl, 1) := by decide +kernel
theorem d_St_add_43 : decode c_St_add 43 = .ok (.ior, 1) := by decide +kernel
theorem d_St_add_44 : decode c_St_add 44 = .ok (.putfield 22, 3) := by decide +kernel
theorem d_St_add_47 : decode c_St_add 47 = .ok (.iload_n 3, 1) := by decide +kernel
theorem d_St_add_48 : decode c_St_add 48 = .ok (.ireturn, 1) := by decide +kernel
theorem d_St_has_0 : decode c_St_has 0 = .ok (.iload_n 1, 1) := by decide +kernel
theorem d_St_has_1 : decode c_St_has 1 = .ok (.ifCond .lt 15, 3) := by decide +kernel
theorem d_St_has_4 : decode c_St_has 4 = .ok (.iload_n 1, 1) := by decide +kernel
theorem d_St_has_5 : decode c_St_has 5 = .ok (.aload_n 0, 1) := by decide +kernel
theorem d_St_has_6 : decode c_St_has 6 = .ok (.getfield 18, 3) := by decide +kernel
theorem d_St_has_9 : decode c_St_has 9 = .ok (.if_icmp .ge 7, 3) := by decide +kernel
theorem d_St_has_12 : decode c_St_has 12 = .ok (.iconst 1, 1) := by decide +kernel
theorem d_St_has_13 : decode c_St_has 13 = .ok (.goto 4, 3) := by decide +kernel
theorem d_St_has_16 : decode c_St_has 16 = .ok (.iconst 0, 1) := by decide +kernel
theorem d_St_has_17 : decode c_St_has 17 = .ok (.ireturn, 1) := by decide +kernel
theorem d_St_all_0 : decode c_St_all 0 = .ok (.iconst 1, 1) := by decide +kernel
theorem d_St_all_1 : decode c_St_all 1 = .ok (.aload_n 0, 1) := by decide +kernel
theorem d_St_all_2 : decode c_St_all 2 = .ok (.getfield 18, 3) := by decide +kernel
theorem d_St_all_5 : decode c_St_all 5 = .ok (.ishl, 1) := by decide +kernel
theorem d_St_all_6 : decode c_St_all 6 = .ok (.iconst 1, 1) := by decide +kernel
theorem d_St_all_7 : decode c_St_all 7 = .ok (.isub, 1) := by decide +kernel
theorem d_St_all_8 : decode c_St_all 8 = .ok (.ireturn, 1) := by decide +kernel
theorem d_St_partWithAll_0 : decode c_St_partWithAll 0 = .ok (.iconst 0, 1) := by decide +kernel
theorem d_St_partWithAll_1 : decode c_St_partWithAll 1 = .ok (.istore_n 2, 1) := by decide +kernel
theorem d_St_partWithAll_2 : decode c_St_partWithAll 2 = .ok (.iload_n 2, 1) := by decide +kernel
theorem d_St_partWithAll_3 : decode c_St_partWithAll 3 = .ok (.iconst 3, 1) := by decide +kernel
theorem d_St_partWithAll_4 : decode c_St_partWithAll 4 = .ok (.if_icmp .ge 24, 3) := by decide +kernel
theorem d_St_partWithAll_7 : decode c_St_partWithAll 7 = .ok (.iload_n 1, 1) := by decide +kernel
theorem d_St_partWithAll_8 : decode c_St_partWithAll 8 = .ok (.aload_n 0, 1) := by decide +kernel
theorem d_St_partWithAll_9 : decode c_St_partWithAll 9 = .ok (.getfield 15, 3) := by decide +kernel
theorem d_St_partWithAll_12 : decode c_St_partWithAll 12 = .ok (.iload_n 2, 1) := by decide +kernel
theorem d_St_partWithAll_13 : decode c_St_partWithAll 13 = .ok (.iaload, 1) := by decide +kernel
theorem d_St_partWithAll_14 : decode c_St_partWithAll 14 = .ok (.iconst (-1), 1) := by decide +kernel
theorem d_St_partWithAll_15 : decode c_St_partWithAll 15 = .ok (.ixor, 1) := by decide +kernel
theorem d_St_partWithAll_16 : decode c_St_partWithAll 16 = .ok (.iand, 1) := by decide +kernel
theorem d_St_partWithAll_17 : decode c_St_partWithAll 17 = .ok (.ifCond .ne 5, 3) := by decide +kernel
theorem d_St_partWithAll_20 : decode c_St_partWithAll 20 = .ok (.iload_n 2, 1) := by decide +kernel
theorem d_St_partWithAll_21 : decode c_St_partWithAll 21 = .ok (.ireturn, 1) := by decide +kernel
theorem d_St_partWithAll_22 : decode c_St_partWithAll 22 = .ok (.iinc 2 1, 3) := by decide +kernel
theorem d_St_partWithAll_25 : decode c_St_partWithAll 25 = .ok (.goto (-23), 3) := by decide +kernel
theorem d_St_partWithAll_28 : decode c_St_partWithAll 28 = .ok (.iconst (-1), 1) := by decide +kernel
theorem d_St_partWithAll_29 : decode c_St_partWithAll 29 = .ok (.ireturn, 1) := by decide +kernel
theorem d_Ti_init_0 : decode c_Ti_init 0 = .ok (.aload_n 0, 1) := by decide +kernel
theorem d_Ti_init_1 : decode c_Ti_init 1 = .ok (.invokespecial 3, 3) := by decide +kernel
theorem d_Ti_init_4 : decode c_Ti_init 4 = .ok (.aload_n 0, 1) := by decide +kernel
theorem d_Ti_init_5 : decode c_Ti_init 5 = .ok (.bipush 8, 2) := by decide +kernel
theorem d_Ti_init_7 : decode c_Ti_init 7 = .ok (.newarray .int, 2) := by decide +kernel
theorem d_Ti_init_9 : decode c_Ti_init 9 = .ok (.putfield 9, 3) := by decide +kernel
theorem d_Ti_init_12 : decode c_Ti_init 12 = .ok (.aload_n 0, 1) := by decide +kernel
theorem d_Ti_init_13 : decode c_Ti_init 13 = .ok (.sipush 513, 3) := by decide +kernel
theorem d_Ti_init_16 : decode c_Ti_init 16 = .ok (.newarray .int, 2) := by decide +kernel
theorem d_Ti_init_18 : decode c_Ti_init 18 = .ok (.putfield 15, 3) := by decide +kernel
theorem d_Ti_init_21 : decode c_Ti_init 21 = .ok (.return_, 1) := by decide +kernel
theorem d_Ti_begin_0 : decode c_Ti_begin 0 = .ok (.aload_n 0, 1) := by decide +kernel
theorem d_Ti_begin_1 : decode c_Ti_begin 1 = .ok (.iload_n 1, 1) := by decide +kernel
theorem d_Ti_begin_2 : decode c_Ti_begin 2 = .ok (.putfield 18, 3) := by decide +kernel
theorem d_Ti_begin_5 : decode c_Ti_begin 5 = .ok (.aload_n 0, 1) := by decide +kernel
theorem d_Ti_begin_6 : decode c_Ti_begin 6 = .ok (.iconst 0, 1) := by decide +kernel
theorem d_Ti_begin_7 : decode c_Ti_begin 7 = .ok (.putfield 22, 3) := by decide +kernel
theorem d_Ti_begin_10 : decode c_Ti_begin 10 = .ok (.iconst 0, 1) := by decide +kernel
theorem d_Ti_begin_11 : decode c_Ti_begin 11 = .ok (.istore 4, 2) := by decide +kernel
theorem d_Ti_begin_13 : decode c_Ti_begin 13 = .ok (.iload 4, 2) := by decide +kernel
theorem d_Ti_begin_15 : decode c_Ti_begin 15 = .ok (.bipush 8, 2) := by decide +kernel
theorem d_Ti_begin_17 : decode c_Ti_begin 17 = .ok (.if_icmp .ge 57, 3) := by decide +kernel
theorem d_Ti_begin_20 : decode c_Ti_begin 20 = .ok (.aload_n 0, 1) := by decide +kernel
theorem d_Ti_begin_21 : decode c_Ti_begin 21 = .ok (.getfield 9, 3) := by decide +kernel
theorem d_Ti_begin_24 : decode c_Ti_begin 24 = .ok (.iload 4, 2) := by decide +kernel
theorem d_Ti_begin_26 : decode c_Ti_begin 26 = .ok (.aload_n 2, 1) := by decide +kernel
theorem d_Ti_begin_27 : decode c_Ti_begin 27 = .ok (.iload 4, 2) := by decide +kernel
theorem d_Ti_begin_29 : decode c_Ti_begin 29 = .ok (.iaload, 1) := by decide +kernel
theorem d_Ti_begin_30 : decode c_Ti_begin 30 = .ok (.iload_n 3, 1) := by decide +kernel
theorem d_Ti_begin_31 : decode c_Ti_begin 31 = .ok (.iadd, 1) := by decide +kernel
theorem d_Ti_begin_32 : decode c_Ti_begin 32 = .ok (.iastore, 1) := by decide +kernel
theorem d_Ti_begin_33 : decode c_Ti_begin 33 = .ok (.iload 4, 2) := by decide +kernel
theorem d_Ti_begin_35 : decode c_Ti_begin 35 = .ok (.aload_n 0, 1) := by decide +kernel
theorem d_Ti_begin_36 : decode c_Ti_begin 36 = .ok (.getfield 18, 3) := by decide +kernel
theorem d_Ti_begin_39 : decode c_Ti_begin 39 = .ok (.invokestatic 25, 3) := by decide +kernel
theorem d_Ti_begin_42 : decode c_Ti_begin 42 = .ok (.ifCond .eq 26, 3) := by decide +kernel
theorem d_Ti_begin_45 : decode c_Ti_begin 45 = .ok (.aload_n 0, 1) := by decide +kernel
theorem d_Ti_begin_46 : decode c_Ti_begin 46 = .ok (.getfield 9, 3) := by decide +kernel
theorem d_Ti_begin_49 : decode c_Ti_begin 49 = .ok (.iload 4, 2) := by decide +kernel
theorem d_Ti_begin_51 : decode c_Ti_begin 51 = .ok (.iaload, 1) := by decide +kernel
theorem d_Ti_begin_52 : decode c_Ti_begin 52 = .ok (.ifCond .eq 16, 3) := by decide +kernel
theorem d_Ti_begin_55 : decode c_Ti_begin 55 = .ok (.aload_n 0, 1) := by decide +kernel
theorem d_Ti_begin_56 : decode c_Ti_begin 56 = .ok (.dup, 1) := by decide +kernel
theorem d_Ti_begin_57 : decode c_Ti_begin 57 = .ok (.getfield 22, 3) := by decide +kernel
theorem d_Ti_begin_60 : decode c_Ti_begin 60 = .ok (.iconst 1, 1) := by decide +kernel
theorem d_Ti_begin_61 : decode c_Ti_begin 61 = .ok (.iload 4, 2) := by decide +kernel
theorem d_Ti_begin_63 : decode c_Ti_begin 63 = .ok (.ishl, 1) := by decide +kernel
theorem d_Ti_begin_64 : decode c_Ti_begin 64 = .ok (.ior, 1) := by decide +kernel
theorem d_Ti_begin_65 : decode c_Ti_begin 65 = .ok (.putfield 22, 3) := by decide +kernel
theorem d_Ti_begin_68 : decode c_Ti_begin 68 = .ok (.iinc 4 1, 3) := by decide +kernel
theorem d_Ti_begin_71 : decode c_Ti_begin 71 = .ok (.goto (-58), 3) := by decide +kernel
theorem d_Ti_begin_74 : decode c_Ti_begin 74 = .ok (.aload_n 0, 1) := by decide +kernel
theorem d_Ti_begin_75 : decode c_Ti_begin 75 = .ok (.iconst 0, 1) := by decide +kernel
theorem d_Ti_begin_76 : decode c_Ti_begin 76 = .ok (.putfield 29, 3) := by decide +kernel
theorem d_Ti_begin_79 : decode c_Ti_begin 79 = .ok (.aload_n 0, 1) := by decide +kernel
theorem d_Ti_begin_80 : decode c_Ti_begin 80 = .ok (.iconst 0, 1) := by decide +kernel
theorem d_Ti_begin_81 : decode c_Ti_begin 81 = .ok (.putfield 32, 3) := by decide +kernel
theorem d_Ti_begin_84 : decode c_Ti_begin 84 = .ok (.aload_n 0, 1) := by decide +kernel
theorem d_Ti_begin_85 : decode c_Ti_begin 85 = .ok (.iconst 0, 1) := by decide +kernel
theorem d_Ti_begin_86 : decode c_Ti_begin 86 = .ok (.putfield 35, 3) := by decide +kernel
theorem d_Ti_begin_89 : decode c_Ti_begin 89 = .ok (.aload_n 0, 1) := by decide +kernel
theorem d_Ti_begin_90 : decode c_Ti_begin 90 = .ok (.iconst 0, 1) := by decide +kernel
theorem d_Ti_begin_91 : decode c_Ti_begin 91 = .ok (.putfield 38, 3) := by decide +kernel
theorem d_Ti_begin_94 : decode c_Ti_begin 94 = .ok (.return_, 1) := by decide +kernel
theorem d_Ti_sense_0 : decode c_Ti_sense 0 = .ok (.aload_n 0, 1) := by decide +kernel
theorem d_Ti_sense_1 : decode c_Ti_sense 1 = .ok (.iload_n 2, 1) := by decide +kernel
theorem d_Ti_sense_2 : decode c_Ti_sense 2 = .ok (.putfield 41, 3) := by decide +kernel
theorem d_Ti_sense_5 : decode c_Ti_sense 5 = .ok (.aload_n 0, 1) := by decide +kernel
theorem d_Ti_sense_6 : decode c_Ti_sense 6 = .ok (.iload_n 2, 1) := by decide +kernel
theorem d_Ti_sense_7 : decode c_Ti_sense 7 = .ok (.iload_n 1, 1) := by decide +kernel
theorem d_Ti_sense_8 : decode c_Ti_sense 8 = .ok (.iconst (-1), 1) := by decide +kernel
theorem d_Ti_sense_9 : decode c_Ti_sense 9 = .ok (.ixor, 1) := by decide +kernel
theorem d_Ti_sense_10 : decode c_Ti_sense 10 = .ok (.iand, 1) := by decide +kernel
theorem d_Ti_sense_11 : decode c_Ti_sense 11 = .ok (.putfield 44, 3) := by decide +kernel
theorem d_Ti_sense_14 : decode c_Ti_sense 14 = .ok (.aload_n 0, 1) := by decide +kernel
theorem d_Ti_sense_15 : decode c_Ti_sense 15 = .ok (.iload_n 1, 1) := by decide +kernel
theorem d_Ti_sense_16 : decode c_Ti_sense 16 = .ok (.iload_n 2, 1) := by decide +kernel
theorem d_Ti_sense_17 : decode c_Ti_sense 17 = .ok (.iconst (-1), 1) := by decide +kernel
theorem d_Ti_sense_18 : decode c_Ti_sense 18 = .ok (.ixor, 1) := by decide +kernel
theorem d_Ti_sense_19 : decode c_Ti_sense 19 = .ok (.iand, 1) := by decide +kernel
theorem d_Ti_sense_20 : decode c_Ti_sense 20 = .ok (.putfield 47, 3) := by decide +kernel
theorem d_Ti_sense_23 : decode c_Ti_sense 23 = .ok (.return_, 1) := by decide +kernel
theorem d_Ti_timeOf_0 : decode c_Ti_timeOf 0 = .ok (.iload_n 1, 1) := by decide +kernel
theorem d_Ti_timeOf_1 : decode c_Ti_timeOf 1 = .ok (.aload_n 0, 1) := by decide +kernel
theorem d_Ti_timeOf_2 : decode c_Ti_timeOf 2 = .ok (.getfield 22, 3) := by decide +kernel
theorem d_Ti_timeOf_5 : decode c_Ti_timeOf 5 = .ok (.invokestatic 25, 3) := by decide +kernel
theorem d_Ti_timeOf_8 : decode c_Ti_timeOf 8 = .ok (.ifCond .eq 12, 3) := by decide +kernel
theorem d_Ti_timeOf_11 : decode c_Ti_timeOf 11 = .ok (.aload_n 0, 1) := by decide +kernel
theorem d_Ti_timeOf_12 : decode c_Ti_timeOf 12 = .ok (.getfield 9, 3) := by decide +kernel
theorem d_Ti_timeOf_15 : decode c_Ti_timeOf 15 = .ok (.iload_n 1, 1) := by decide +kernel
theorem d_Ti_timeOf_16 : decode c_Ti_timeOf 16 = .ok (.iaload, 1) := by decide +kernel
theorem d_Ti_timeOf_17 : decode c_Ti_timeOf 17 = .ok (.goto 4, 3) := by decide +kernel
theorem d_Ti_timeOf_20 : decode c_Ti_timeOf 20 = .ok (.iconst 0, 1) := by decide +kernel
theorem d_Ti_timeOf_21 : decode c_Ti_timeOf 21 = .ok (.ireturn, 1) := by decide +kernel
theorem d_Ti_endEdges_0 : decode c_Ti_endEdges 0 = .ok (.aload_n 0, 1) := by decide +kernel
theorem d_Ti_endEdges_1 : decode c_Ti_endEdges 1 = .ok (.iconst 0, 1) := by decide +kernel
theorem d_Ti_endEdges_2 : decode c_Ti_endEdges 2 = .ok (.putfield 44, 3) := by decide +kernel
theorem d_Ti_endEdges_5 : decode c_Ti_endEdges 5 = .ok (.aload_n 0, 1) := by decide +kernel
theorem d_Ti_endEdges_6 : decode c_Ti_endEdges 6 = .ok (.iconst 0, 1) := by decide +kernel
theorem d_Ti_endEdges_7 : decode c_Ti_endEdges 7 = .ok (.putfield 47, 3) := by decide +kernel
theorem d_Ti_endEdges_10 : decode c_Ti_endEdges 10 = .ok (.return_, 1) := by decide +kernel
theorem d_Ti_moveTo_0 : decode c_Ti_moveTo 0 = .ok (.iload_n 2, 1) := by decide +kernel
theorem d_Ti_moveTo_1 : decode c_Ti_moveTo 1 = .ok (.ifCond .ne 13, 3) := by decide +kernel
theorem d_Ti_moveTo_4 : decode c_Ti_moveTo 4 = .ok (.iload_n 1, 1) := by decide +kernel
theorem d_Ti_moveTo_5 : decode c_Ti_moveTo 5 = .ok (.aload_n 0, 1) := by decide +kernel
theorem d_Ti_moveTo_6 : decode c_Ti_moveTo 6 = .ok (.getfield 18, 3) := by decide +kernel
theorem d_Ti_moveTo_9 : decode c_Ti_moveTo 9 = .ok (.if_icmp .ne 5, 3) := by decide +kernel
theorem d_Ti_moveTo_12 : decode c_Ti_moveTo 12 = .ok (.iconst 0, 1) := by decide +kernel
theorem d_Ti_moveTo_13 : decode c_Ti_moveTo 13 = .ok (.ireturn, 1) := by decide +kernel
theorem d_Ti_moveTo_14 : decode c_Ti_moveTo 14 = .ok (.aload_n 0, 1) := by decide +kernel
theorem d_Ti_moveTo_15 : decode c_Ti_moveTo 15 = .ok (.iload_n 1, 1) := by decide +kernel
theorem d_Ti_moveTo_16 : decode c_Ti_moveTo 16 = .ok (.putfield 18, 3) := by decide +kernel
theorem d_Ti_moveTo_19 : decode c_Ti_moveTo 19 = .ok (.aload_n 0, 1) := by decide +kernel
theorem d_Ti_moveTo_20 : decode c_Ti_moveTo 20 = .ok (.dup, 1) := by decide +kernel
theorem d_Ti_moveTo_21 : decode c_Ti_moveTo 21 = .ok (.getfield 22, 3) := by decide +kernel
theorem d_Ti_moveTo_24 : decode c_Ti_moveTo 24 = .ok (.iload_n 1, 1) := by decide +kernel
theorem d_Ti_moveTo_25 : decode c_Ti_moveTo 25 = .ok (.iand, 1) := by decide +kernel
theorem d_Ti_moveTo_26 : decode c_Ti_moveTo 26 = .ok (.putfield 22, 3) := by decide +kernel
theorem d_Ti_moveTo_29 : decode c_Ti_moveTo 29 = .ok (.aload_n 0, 1) := by decide +kernel
theorem d_Ti_moveTo_30 : decode c_Ti_moveTo 30 = .ok (.dup, 1) := by decide +kernel
theorem d_Ti_moveTo_31 : decode c_Ti_moveTo 31 = .ok (.getfield 29, 3) := by decide +kernel
theorem d_Ti_moveTo_34 : decode c_Ti_moveTo 34 = .ok (.iload_n 2, 1) := by decide +kernel
theorem d_Ti_moveTo_35 : decode c_Ti_moveTo 35 = .ok (.ior, 1) := by decide +kernel
theorem d_Ti_moveTo_36 : decode c_Ti_moveTo 36 = .ok (.putfield 29, 3) := by decide +kernel
theorem d_Ti_moveTo_39 : decode c_Ti_moveTo 39 = .ok (.aload_n 0, 1) := by decide +kernel
theorem d_Ti_moveTo_40 : decode c_Ti_moveTo 40 = .ok (.dup, 1) := by decide +kernel
theorem d_Ti_moveTo_41 : decode c_Ti_moveTo 41 = .ok (.getfield 32, 3) := by decide +kernel
theorem d_Ti_moveTo_44 : decode c_Ti_moveTo 44 = .ok (.iconst 1, 1) := by decide +kernel
theorem d_Ti_moveTo_45 : decode c_Ti_moveTo 45 = .ok (.iadd, 1) := by decide +kernel
theorem d_Ti_moveTo_46 : decode c_Ti_moveTo 46 = .ok (.putfield 32, 3) := by decide +kernel
theorem d_Ti_moveTo_49 : decode c_Ti_moveTo 49 = .ok (.iconst 1, 1) := by decide +kernel
theorem d_Ti_moveTo_50 : decode c_Ti_moveTo 50 = .ok (.ireturn, 1) := by decide +kernel
theorem d_Ti_findsCycle_0 : decode c_Ti_findsCycle 0 = .ok (.aload_n 0, 1) := by decide +kernel
theorem d_Ti_findsCycle_1 : decode c_Ti_findsCycle 1 = .ok (.getfield 18, 3) := by decide +kernel
theorem d_Ti_findsCycle_4 : decode c_Ti_findsCycle 4 = .ok (.aload_n 0, 1) := by decide +kernel
theorem d_Ti_findsCycle_5 : decode c_Ti_findsCycle 5 = .ok (.getfield 22, 3) := by decide +kernel
theorem d_Ti_findsCycle_8 : decode c_Ti_findsCycle 8 = .ok (.bipush 8, 2) := by decide +kernel
theorem d_Ti_findsCycle_10 : decode c_Ti_findsCycle 10 = .ok (.ishl, 1) := by decide +kernel
theorem d_Ti_findsCycle_11 : decode c_Ti_findsCycle 11 = .ok (.ior, 1) := by decide +kernel
theorem d_Ti_findsCycle_12 : decode c_Ti_findsCycle 12 = .ok (.istore_n 1, 1) := by decide +kernel
theorem d_Ti_findsCycle_13 : decode c_Ti_findsCycle 13 = .ok (.iconst 1, 1) := by decide +kernel
theorem d_Ti_findsCycle_14 : decode c_Ti_findsCycle 14 = .ok (.istore_n 2, 1) := by decide +kernel
theorem d_Ti_findsCycle_15 : decode c_Ti_findsCycle 15 = .ok (.iload_n 2, 1) := by decide +kernel
theorem d_Ti_findsCycle_16 : decode c_Ti_findsCycle 16 = .ok (.aload_n 0, 1) := by decide +kernel
theorem d_Ti_findsCycle_17 : decode c_Ti_findsCycle 17 = .ok (.getfield 32, 3) := by decide +kernel
theorem d_Ti_findsCycle_20 : decode c_Ti_findsCycle 20 = .ok (.if_icmp .ge 36, 3) := by decide +kernel
theorem d_Ti_findsCycle_23 : decode c_Ti_findsCycle 23 = .ok (.aload_n 0, 1) := by decide +kernel
theorem d_Ti_findsCycle_24 : decode c_Ti_findsCycle 24 = .ok (.getfield 15, 3) := by decide +kernel
theorem d_Ti_findsCycle_27 : decode c_Ti_findsCycle 27 = .ok (.iload_n 2, 1) := by decide +kernel
theorem d_Ti_findsCycle_28 : decode c_Ti_findsCycle 28 = .ok (.iaload, 1) := by decide +kernel
theorem d_Ti_findsCycle_29 : decode c_Ti_findsCycle 29 = .ok (.iload_n 1, 1) := by decide +kernel
theorem d_Ti_findsCycle_30 : decode c_Ti_findsCycle 30 = .ok (.if_icmp .ne 20, 3) := by decide +kernel
theorem d_Ti_findsCycle_33 : decode c_Ti_findsCycle 33 = .ok (.aload_n 0, 1) := by decide +kernel
theorem d_Ti_findsCycle_34 : decode c_Ti_findsCycle 34 = .ok (.iload_n 2, 1) := by decide +kernel
theorem d_Ti_findsCycle_35 : decode c_Ti_findsCycle 35 = .ok (.putfield 35, 3) := by decide +kernel
theorem d_Ti_findsCycle_38 : decode c_Ti_findsCycle 38 = .ok (.aload_n 0, 1) := by decide +kernel
theorem d_Ti_findsCycle_39 : decode c_Ti_findsCycle 39 = .ok (.aload_n 0, 1) := by decide +kernel
theorem d_Ti_findsCycle_40 : decode c_Ti_findsCycle 40 = .ok (.getfield 32, 3) := by decide +kernel
theorem d_Ti_findsCycle_43 : decode c_Ti_findsCycle 43 = .ok (.iload_n 2, 1) := by decide +kernel
theorem d_Ti_findsCycle_44 : decode c_Ti_findsCycle 44 = .ok (.isub, 1) := by decide +kernel
theorem d_Ti_findsCycle_45 : decode c_Ti_findsCycle 45 = .ok (.putfield 38, 3) := by decide +kernel
theorem d_Ti_findsCycle_48 : decode c_Ti_findsCycle 48 = .ok (.iconst 1, 1) := by decide +kernel
theorem d_Ti_findsCycle_49 : decode c_Ti_findsCycle 49 = .ok (.ireturn, 1) := by decide +kernel
theorem d_Ti_findsCycle_50 : decode c_Ti_findsCycle 50 = .ok (.iinc 2 1, 3) := by decide +kernel
theorem d_Ti_findsCycle_53 : decode c_Ti_findsCycle 53 = .ok (.goto (-38), 3) := by decide +kernel
theorem d_Ti_findsCycle_56 : decode c_Ti_findsCycle 56 = .ok (.aload_n 0, 1) := by decide +kernel
theorem d_Ti_findsCycle_57 : decode c_Ti_findsCycle 57 = .ok (.getfield 15, 3) := by decide +kernel
theorem d_Ti_findsCycle_60 : decode c_Ti_findsCycle 60 = .ok (.aload_n 0, 1) := by decide +kernel
theorem d_Ti_findsCycle_61 : decode c_Ti_findsCycle 61 = .ok (.getfield 32, 3) := by decide +kernel
theorem d_Ti_findsCycle_64 : decode c_Ti_findsCycle 64 = .ok (.iload_n 1, 1) := by decide +kernel
theorem d_Ti_findsCycle_65 : decode c_Ti_findsCycle 65 = .ok (.iastore, 1) := by decide +kernel
theorem d_Ti_findsCycle_66 : decode c_Ti_findsCycle 66 = .ok (.iconst 0, 1) := by decide +kernel
theorem d_Ti_findsCycle_67 : decode c_Ti_findsCycle 67 = .ok (.ireturn, 1) := by decide +kernel
theorem d_Ex_init_0 : decode c_Ex_init 0 = .ok (.aload_n 0, 1) := by decide +kernel
theorem d_Ex_init_1 : decode c_Ex_init 1 = .ok (.invokespecial 3, 3) := by decide +kernel
theorem d_Ex_init_4 : decode c_Ex_init 4 = .ok (.aload_n 0, 1) := by decide +kernel
theorem d_Ex_init_5 : decode c_Ex_init 5 = .ok (.bipush 24, 2) := by decide +kernel
theorem d_Ex_init_7 : decode c_Ex_init 7 = .ok (.newarray .int, 2) := by decide +kernel
theorem d_Ex_init_9 : decode c_Ex_init 9 = .ok (.putfield 9, 3) := by decide +kernel
theorem d_Ex_init_12 : decode c_Ex_init 12 = .ok (.aload_n 0, 1) := by decide +kernel
theorem d_Ex_init_13 : decode c_Ex_init 13 = .ok (.bipush 24, 2) := by decide +kernel
theorem d_Ex_init_15 : decode c_Ex_init 15 = .ok (.newarray .int, 2) := by decide +kernel
theorem d_Ex_init_17 : decode c_Ex_init 17 = .ok (.putfield 15, 3) := by decide +kernel
theorem d_Ex_init_20 : decode c_Ex_init 20 = .ok (.aload_n 0, 1) := by decide +kernel
theorem d_Ex_init_21 : decode c_Ex_init 21 = .ok (.bipush 24, 2) := by decide +kernel
theorem d_Ex_init_23 : decode c_Ex_init 23 = .ok (.newarray .int, 2) := by decide +kernel
theorem d_Ex_init_25 : decode c_Ex_init 25 = .ok (.putfield 18, 3) := by decide +kernel
theorem d_Ex_init_28 : decode c_Ex_init 28 = .ok (.aload_n 0, 1) := by decide +kernel
theorem d_Ex_init_29 : decode c_Ex_init 29 = .ok (.bipush 24, 2) := by decide +kernel
theorem d_Ex_init_31 : decode c_Ex_init 31 = .ok (.newarray .int, 2) := by decide +kernel
theorem d_Ex_init_33 : decode c_Ex_init 33 = .ok (.putfield 21, 3) := by decide +kernel
theorem d_Ex_init_36 : decode c_Ex_init 36 = .ok (.return_, 1) := by decide +kernel
theorem d_Ex_has_0 : decode c_Ex_has 0 = .ok (.iload_n 1, 1) := by decide +kernel
theorem d_Ex_has_1 : decode c_Ex_has 1 = .ok (.ifCond .lt 15, 3) := by decide +kernel
theorem d_Ex_has_4 : decode c_Ex_has 4 = .ok (.iload_n 1, 1) := by decide +kernel
theorem d_Ex_has_5 : decode c_Ex_has 5 = .ok (.aload_n 0, 1) := by decide +kernel
theorem d_Ex_has_6 : decode c_Ex_has 6 = .ok (.getfield 24, 3) := by decide +kernel
theorem d_Ex_has_9 : decode c_Ex_has 9 = .ok (.if_icmp .ge 7, 3) := by decide +kernel
theorem d_Ex_has_12 : decode c_Ex_has 12 = .ok (.iconst 1, 1) := by decide +kernel
theorem d_Ex_has_13 : decode c_Ex_has 13 = .ok (.goto 4, 3) := by decide +kernel
theorem d_Ex_has_16 : decode c_Ex_has 16 = .ok (.iconst 0, 1) := by decide +kernel
theorem d_Ex_has_17 : decode c_Ex_has 17 = .ok (.ireturn, 1) := by decide +kernel
theorem d_Ex_allow_0 : decode c_Ex_allow 0 = .ok (.iload_n 1, 1) := by decide +kernel
theorem d_Ex_allow_1 : decode c_Ex_allow 1 = .ok (.tableswitch 109 0 7 #[47, 47, 47, 52, 59, 81, 87, 87], 47) := by decide +kernel
theorem d_Ex_allow_48 : decode c_Ex_allow 48 = .ok (.iload_n 2, 1) := by decide +kernel
theorem d_Ex_allow_49 : decode c_Ex_allow 49 = .ok (.invokestatic 28, 3) := by decide +kernel
theorem d_Ex_allow_52 : decode c_Ex_allow 52 = .ok (.ireturn, 1) := by decide +kernel
theorem d_Ex_allow_53 : decode c_Ex_allow 53 = .ok (.aload 4, 2) := by decide +kernel
theorem d_Ex_allow_55 : decode c_Ex_allow 55 = .ok (.iload_n 2, 1) := by decide +kernel
theorem d_Ex_allow_56 : decode c_Ex_allow 56 = .ok (.invokevirtual 32, 3) := by decide +kernel
theorem d_Ex_allow_59 : decode c_Ex_allow 59 = .ok (.ireturn, 1) := by decide +kernel
theorem d_Ex_allow_60 : decode c_Ex_allow 60 = .ok (.aload 4, 2) := by decide +kernel
theorem d_Ex_allow_62 : decode c_Ex_allow 62 = .ok (.iload_n 2, 1) := by decide +kernel
theorem d_Ex_allow_63 : decode c_Ex_allow 63 = .ok (.invokevirtual 32, 3) := by decide +kernel
theorem d_Ex_allow_66 : decode c_Ex_allow 66 = .ok (.ifCond .eq 14, 3) := by decide +kernel
theorem d_Ex_allow_69 : decode c_Ex_allow 69 = .ok (.iload_n 3, 1) := by decide +kernel
theorem d_Ex_allow_70 : decode c_Ex_allow 70 = .ok (.invokestatic 37, 3) := by decide +kernel
theorem d_Ex_allow_73 : decode c_Ex_allow 73 = .ok (.ifCond .eq 7, 3) := by decide +kernel
theorem d_Ex_allow_76 : decode c_Ex_allow 76 = .ok (.iconst 1, 1) := by decide +kernel
theorem d_Ex_allow_77 : decode c_Ex_allow 77 = .ok (.goto 4, 3) := by decide +kernel
theorem d_Ex_allow_80 : decode c_Ex_allow 80 = .ok (.iconst 0, 1) := by decide +kernel
theorem d_Ex_allow_81 : decode c_Ex_allow 81 = .ok (.ireturn, 1) := by decide +kernel
theorem d_Ex_allow_82 : decode c_Ex_allow 82 = .ok (.aload_n 0, 1) := by decide +kernel
theorem d_Ex_allow_83 : decode c_Ex_allow 83 = .ok (.iload_n 2, 1) := by decide +kernel
theorem d_Ex_allow_84 : decode c_Ex_allow 84 = .ok (.invokevirtual 40, 3) := by decide +kernel
theorem d_Ex_allow_87 : decode c_Ex_allow 87 = .ok (.ireturn, 1) := by decide +kernel
theorem d_Ex_allow_88 : decode c_Ex_allow 88 = .ok (.aload_n 0, 1) := by decide +kernel
theorem d_Ex_allow_89 : decode c_Ex_allow 89 = .ok (.iload_n 2, 1) := by decide +kernel
theorem d_Ex_allow_90 : decode c_Ex_allow 90 = .ok (.invokevirtual 40, 3) := by decide +kernel
theorem d_Ex_allow_93 : decode c_Ex_allow 93 = .ok (.ifCond .eq 15, 3) := by decide +kernel
theorem d_Ex_allow_96 : decode c_Ex_allow 96 = .ok (.aload_n 0, 1) := by decide +kernel
theorem d_Ex_allow_97 : decode c_Ex_allow 97 = .ok (.iload_n 3, 1) := by decide +kernel
theorem d_Ex_allow_98 : decode c_Ex_allow 98 = .ok (.invokevirtual 40, 3) := by decide +kernel
theorem d_Ex_allow_101 : decode c_Ex_allow 101 = .ok (.ifCond .eq 7, 3) := by decide +kernel
theorem d_Ex_allow_104 : decode c_Ex_allow 104 = .ok (.iconst 1, 1) := by decide +kernel
theorem d_Ex_allow_105 : decode c_Ex_allow 105 = .ok (.goto 4, 3) := by decide +kernel
theorem d_Ex_allow_108 : decode c_Ex_allow 108 = .ok (.iconst 0, 1) := by decide +kernel
theorem d_Ex_allow_109 : decode c_Ex_allow 109 = .ok (.ireturn, 1) := by decide +kernel
theorem d_Ex_allow_110 : decode c_Ex_allow 110 = .ok (.iconst 0, 1) := by decide +kernel
theorem d_Ex_allow_111 : decode c_Ex_allow 111 = .ok (.ireturn, 1) := by decide +kernel
theorem d_Ex_canBePart_0 : decode c_Ex_canBePart 0 = .ok (.aload_n 0, 1) := by decide +kernel
theorem d_Ex_canBePart_1 : decode c_Ex_canBePart 1 = .ok (.iload_n 1, 1) := by decide +kernel
theorem d_Ex_canBePart_2 : decode c_Ex_canBePart 2 = .ok (.invokevirtual 43, 3) := by decide +kernel
theorem d_Ex_canBePart_5 : decode c_Ex_canBePart 5 = .ok (.ifCond .eq 17, 3) := by decide +kernel
theorem d_Ex_canBePart_8 : decode c_Ex_canBePart 8 = .ok (.aload_n 0, 1) := by decide +kernel
theorem d_Ex_canBePart_9 : decode c_Ex_canBePart 9 = .ok (.getfield 21, 3) := by decide +kernel
theorem d_Ex_canBePart_12 : decode c_Ex_canBePart 12 = .ok (.iload_n 1, 1) := by decide +kernel
theorem d_Ex_canBePart_13 : decode c_Ex_canBePart 13 = .ok (.iaload, 1) := by decide +kernel
theorem d_Ex_canBePart_14 : decode c_Ex_canBePart 14 = .ok (.iconst 4, 1) := by decide +kernel
theorem d_Ex_canBePart_15 : decode c_Ex_canBePart 15 = .ok (.if_icmp .ge 7, 3) := by decide +kernel
theorem d_Ex_canBePart_18 : decode c_Ex_canBePart 18 = .ok (.iconst 1, 1) := by decide +kernel
theorem d_Ex_canBePart_19 : decode c_Ex_canBePart 19 = .ok (.goto 4, 3) := by decide +kernel
theorem d_Ex_canBePart_22 : decode c_Ex_canBePart 22 = .ok (.iconst 0, 1) := by decide +kernel
theorem d_Ex_canBePart_23 : decode c_Ex_canBePart 23 = .ok (.ireturn, 1) := by decide +kernel
theorem d_Ex_add_0 : decode c_Ex_add 0 = .ok (.aload_n 0, 1) := by decide +kernel
theorem d_Ex_add_1 : decode c_Ex_add 1 = .ok (.dup, 1) := by decide +kernel
theorem d_Ex_add_2 : decode c_Ex_add 2 = .ok (.getfield 24, 3) := by decide +kernel
theorem d_Ex_add_5 : decode c_Ex_add 5 = .ok (.dup_x1, 1) := by decide +kernel
theorem d_Ex_add_6 : decode c_Ex_add 6 = .ok (.iconst 1, 1) := by decide +kernel
theorem d_Ex_add_7 : decode c_Ex_add 7 = .ok (.iadd, 1) := by decide +kernel
theorem d_Ex_add_8 : decode c_Ex_add 8 = .ok (.putfield 24, 3) := by decide +kernel
theorem d_Ex_add_11 : decode c_Ex_add 11 = .ok (.istore 4, 2) := by decide +kernel
theorem d_Ex_add_13 : decode c_Ex_add 13 = .ok (.aload_n 0, 1) := by decide +kernel
theorem d_Ex_add_14 : decode c_Ex_add 14 = .ok (.getfield 9, 3) := by decide +kernel
theorem d_Ex_add_17 : decode c_Ex_add 17 = .ok (.iload 4, 2) := by decide +kernel
theorem d_Ex_add_19 : decode c_Ex_add 19 = .ok (.iload_n 1, 1) := by decide +kernel
theorem d_Ex_add_20 : decode c_Ex_add 20 = .ok (.iastore, 1) := by decide +kernel
theorem d_Ex_add_21 : decode c_Ex_add 21 = .ok (.aload_n 0, 1) := by decide +kernel
theorem d_Ex_add_22 : decode c_Ex_add 22 = .ok (.getfield 15, 3) := by decide +kernel
theorem d_Ex_add_25 : decode c_Ex_add 25 = .ok (.iload 4, 2) := by decide +kernel
theorem d_Ex_add_27 : decode c_Ex_add 27 = .ok (.iload_n 2, 1) := by decide +kernel
theorem d_Ex_add_28 : decode c_Ex_add 28 = .ok (.iastore, 1) := by decide +kernel
theorem d_Ex_add_29 : decode c_Ex_add 29 = .ok (.aload_n 0, 1) := by decide +kernel
theorem d_Ex_add_30 : decode c_Ex_add 30 = .ok (.getfield 18, 3) := by decide +kernel
theorem d_Ex_add_33 : decode c_Ex_add 33 = .ok (.iload 4, 2) := by decide +kernel
theorem d_Ex_add_35 : decode c_Ex_add 35 = .ok (.iload_n 3, 1) := by decide +kernel
theorem d_Ex_add_36 : decode c_Ex_add 36 = .ok (.iastore, 1) := by decide +kernel
theorem d_Ex_add_37 : decode c_Ex_add 37 = .ok (.aload_n 0, 1) := by decide +kernel
theorem d_Ex_add_38 : decode c_Ex_add 38 = .ok (.getfield 21, 3) := by decide +kernel
theorem d_Ex_add_41 : decode c_Ex_add 41 = .ok (.iload 4, 2) := by decide +kernel
theorem d_Ex_add_43 : decode c_Ex_add 43 = .ok (.aload_n 0, 1) := by decide +kernel
theorem d_Ex_add_44 : decode c_Ex_add 44 = .ok (.iload_n 1, 1) := by decide +kernel
theorem d_Ex_add_45 : decode c_Ex_add 45 = .ok (.iload_n 2, 1) := by decide +kernel
theorem d_Ex_add_46 : decode c_Ex_add 46 = .ok (.iload_n 3, 1) := by decide +kernel
theorem d_Ex_add_47 : decode c_Ex_add 47 = .ok (.invokevirtual 44, 3) := by decide +kernel
theorem d_Ex_add_50 : decode c_Ex_add 50 = .ok (.iastore, 1) := by decide +kernel
theorem d_Ex_add_51 : decode c_Ex_add 51 = .ok (.iload 4, 2) := by decide +kernel
theorem d_Ex_add_53 : decode c_Ex_add 53 = .ok (.ireturn, 1) := by decide +kernel
theorem d_Ex_depthFor_0 : decode c_Ex_depthFor 0 = .ok (.iload_n 1, 1) := by decide +kernel
theorem d_Ex_depthFor_1 : decode c_Ex_depthFor 1 = .ok (.tableswitch 54 5 7 #[27, 36, 36], 27) := by decide +kernel
theorem d_Ex_depthFor_28 : decode c_Ex_depthFor 28 = .ok (.aload_n 0, 1) := by decide +kernel
theorem d_Ex_depthFor_29 : decode c_Ex_depthFor 29 = .ok (.getfield 21, 3) := by decide +kernel
theorem d_Ex_depthFor_32 : decode c_Ex_depthFor 32 = .ok (.iload_n 2, 1) := by decide +kernel
theorem d_Ex_depthFor_33 : decode c_Ex_depthFor 33 = .ok (.iaload, 1) := by decide +kernel
theorem d_Ex_depthFor_34 : decode c_Ex_depthFor 34 = .ok (.iconst 1, 1) := by decide +kernel
theorem d_Ex_depthFor_35 : decode c_Ex_depthFor 35 = .ok (.iadd, 1) := by decide +kernel
theorem d_Ex_depthFor_36 : decode c_Ex_depthFor 36 = .ok (.ireturn, 1) := by decide +kernel
theorem d_Ex_depthFor_37 : decode c_Ex_depthFor 37 = .ok (.aload_n 0, 1) := by decide +kernel
theorem d_Ex_depthFor_38 : decode c_Ex_depthFor 38 = .ok (.getfield 21, 3) := by decide +kernel
theorem d_Ex_depthFor_41 : decode c_Ex_depthFor 41 = .ok (.iload_n 2, 1) := by decide +kernel
theorem d_Ex_depthFor_42 : decode c_Ex_depthFor 42 = .ok (.iaload, 1) := by decide +kernel
theorem d_Ex_depthFor_43 : decode c_Ex_depthFor 43 = .ok (.aload_n 0, 1) := by decide +kernel
theorem d_Ex_depthFor_44 : decode c_Ex_depthFor 44 = .ok (.getfield 21, 3) := by decide +kernel
theorem d_Ex_depthFor_47 : decode c_Ex_depthFor 47 = .ok (.iload_n 3, 1) := by decide +kernel
theorem d_Ex_depthFor_48 : decode c_Ex_depthFor 48 = .ok (.iaload, 1) := by decide +kernel
theorem d_Ex_depthFor_49 : decode c_Ex_depthFor 49 = .ok (.invokestatic 48, 3) := by decide +kernel
theorem d_Ex_depthFor_52 : decode c_Ex_depthFor 52 = .ok (.iconst 1, 1) := by decide +kernel
theorem d_Ex_depthFor_53 : decode c_Ex_depthFor 53 = .ok (.iadd, 1) := by decide +kernel
theorem d_Ex_depthFor_54 : decode c_Ex_depthFor 54 = .ok (.ireturn, 1) := by decide +kernel
theorem d_Ex_depthFor_55 : decode c_Ex_depthFor 55 = .ok (.iconst 0, 1) := by decide +kernel
theorem d_Ex_depthFor_56 : decode c_Ex_depthFor 56 = .ok (.ireturn, 1) := by decide +kernel
theorem d_Ex_trueIn_0 : decode c_Ex_trueIn 0 = .ok (.iconst 0, 1) := by decide +kernel
theorem d_Ex_trueIn_1 : decode c_Ex_trueIn 1 = .ok (.istore_n 2, 1) := by decide +kernel
theorem d_Ex_trueIn_2 : decode c_Ex_trueIn 2 = .ok (.iconst 0, 1) := by decide +kernel
theorem d_Ex_trueIn_3 : decode c_Ex_trueIn 3 = .ok (.istore_n 3, 1) := by decide +kernel
theorem d_Ex_trueIn_4 : decode c_Ex_trueIn 4 = .ok (.iload_n 3, 1) := by decide +kernel
theorem d_Ex_trueIn_5 : decode c_Ex_trueIn 5 = .ok (.aload_n 0, 1) := by decide +kernel
theorem d_Ex_trueIn_6 : decode c_Ex_trueIn 6 = .ok (.getfield 24, 3) := by decide +kernel
theorem d_Ex_trueIn_9 : decode c_Ex_trueIn 9 = .ok (.if_icmp .ge 25, 3) := by decide +kernel
theorem d_Ex_trueIn_12 : decode c_Ex_trueIn 12 = .ok (.aload_n 0, 1) := by decide +kernel
theorem d_Ex_trueIn_13 : decode c_Ex_trueIn 13 = .ok (.iload_n 3, 1) := by decide +kernel
theorem d_Ex_trueIn_14 : decode c_Ex_trueIn 14 = .ok (.iload_n 2, 1) := by decide +kernel
theorem d_Ex_trueIn_15 : decode c_Ex_trueIn 15 = .ok (.aload_n 1, 1) := by decide +kernel
theorem d_Ex_trueIn_16 : decode c_Ex_trueIn 16 = .ok (.invokevirtual 54, 3) := by decide +kernel
theorem d_Ex_trueIn_19 : decode c_Ex_trueIn 19 = .ok (.ifCond .eq 9, 3) := by decide +kernel
theorem d_Ex_trueIn_22 : decode c_Ex_trueIn 22 = .ok (.iload_n 2, 1) := by decide +kernel
theorem d_Ex_trueIn_23 : decode c_Ex_trueIn 23 = .ok (.iconst 1, 1) := by decide +kernel
theorem d_Ex_trueIn_24 : decode c_Ex_trueIn 24 = .ok (.iload_n 3, 1) := by decide +kernel
theorem d_Ex_trueIn_25 : decode c_Ex_trueIn 25 = .ok (.ishl, 1) := by decide +kernel
theorem d_Ex_trueIn_26 : decode c_Ex_trueIn 26 = .ok (.ior, 1) := by decide +kernel
theorem d_Ex_trueIn_27 : decode c_Ex_trueIn 27 = .ok (.istore_n 2, 1) := by decide +kernel
theorem d_Ex_trueIn_28 : decode c_Ex_trueIn 28 = .ok (.iinc 3 1, 3) := by decide +kernel
theorem d_Ex_trueIn_31 : decode c_Ex_trueIn 31 = .ok (.goto (-27), 3) := by decide +kernel
theorem d_Ex_trueIn_34 : decode c_Ex_trueIn 34 = .ok (.iload_n 2, 1) := by decide +kernel
theorem d_Ex_trueIn_35 : decode c_Ex_trueIn 35 = .ok (.ireturn, 1) := by decide +kernel
theorem d_Ex_holds_0 : decode c_Ex_holds 0 = .ok (.aload_n 0, 1) := by decide +kernel
theorem d_Ex_holds_1 : decode c_Ex_holds 1 = .ok (.getfield 15, 3) := by decide +kernel
theorem d_Ex_holds_4 : decode c_Ex_holds 4 = .ok (.iload_n 1, 1) := by decide +kernel
theorem d_Ex_holds_5 : decode c_Ex_holds 5 = .ok (.iaload, 1) := by decide +kernel
theorem d_Ex_holds_6 : decode c_Ex_holds 6 = .ok (.istore 4, 2) := by decide +kernel
theorem d_Ex_holds_8 : decode c_Ex_holds 8 = .ok (.aload_n 0, 1) := by decide +kernel
theorem d_Ex_holds_9 : decode c_Ex_holds 9 = .ok (.getfield 18, 3) := by decide +kernel
theorem d_Ex_holds_12 : decode c_Ex_holds 12 = .ok (.iload_n 1, 1) := by decide +kernel
theorem d_Ex_holds_13 : decode c_Ex_holds 13 = .ok (.iaload, 1) := by decide +kernel
theorem d_Ex_holds_14 : decode c_Ex_holds 14 = .ok (.istore 5, 2) := by decide +kernel
theorem d_Ex_holds_16 : decode c_Ex_holds 16 = .ok (.aload_n 0, 1) := by decide +kernel
theorem d_Ex_holds_17 : decode c_Ex_holds 17 = .ok (.getfield 9, 3) := by decide +kernel
theorem d_Ex_holds_20 : decode c_Ex_holds 20 = .ok (.iload_n 1, 1) := by decide +kernel
theorem d_Ex_holds_21 : decode c_Ex_holds 21 = .ok (.iaload, 1) := by decide +kernel
theorem d_Ex_holds_22 : decode c_Ex_holds 22 = .ok (.tableswitch 150 0 6 #[42, 52, 62, 72, 82, 111, 126], 42) := by decide +kernel
theorem d_Ex_holds_64 : decode c_Ex_holds 64 = .ok (.iload 4, 2) := by decide +kernel
theorem d_Ex_holds_66 : decode c_Ex_holds 66 = .ok (.aload_n 3, 1) := by decide +kernel
theorem d_Ex_holds_67 : decode c_Ex_holds 67 = .ok (.getfield 58, 3) := by decide +kernel
theorem d_Ex_holds_70 : decode c_Ex_holds 70 = .ok (.invokestatic 63, 3) := by decide +kernel
theorem d_Ex_holds_73 : decode c_Ex_holds 73 = .ok (.ireturn, 1) := by decide +kernel
theorem d_Ex_holds_74 : decode c_Ex_holds 74 = .ok (.iload 4, 2) := by decide +kernel
theorem d_Ex_holds_76 : decode c_Ex_holds 76 = .ok (.aload_n 3, 1) := by decide +kernel
theorem d_Ex_holds_77 : decode c_Ex_holds 77 = .ok (.getfield 67, 3) := by decide +kernel
theorem d_Ex_holds_80 : decode c_Ex_holds 80 = .ok (.invokestatic 63, 3) := by decide +kernel
theorem d_Ex_holds_83 : decode c_Ex_holds 83 = .ok (.ireturn, 1) := by decide +kernel
theorem d_Ex_holds_84 : decode c_Ex_holds 84 = .ok (.iload 4, 2) := by decide +kernel
theorem d_Ex_holds_86 : decode c_Ex_holds 86 = .ok (.aload_n 3, 1) := by decide +kernel
theorem d_Ex_holds_87 : decode c_Ex_holds 87 = .ok (.getfield 70, 3) := by decide +kernel
theorem d_Ex_holds_90 : decode c_Ex_holds 90 = .ok (.invokestatic 63, 3) := by decide +kernel
theorem d_Ex_holds_93 : decode c_Ex_holds 93 = .ok (.ireturn, 1) := by decide +kernel
theorem d_Ex_holds_94 : decode c_Ex_holds 94 = .ok (.iload 4, 2) := by decide +kernel
theorem d_Ex_holds_96 : decode c_Ex_holds 96 = .ok (.aload_n 3, 1) := by decide +kernel
theorem d_Ex_holds_97 : decode c_Ex_holds 97 = .ok (.getfield 73, 3) := by decide +kernel
theorem d_Ex_holds_100 : decode c_Ex_holds 100 = .ok (.invokestatic 63, 3) := by decide +kernel
theorem d_Ex_holds_103 : decode c_Ex_holds 103 = .ok (.ireturn, 1) := by decide +kernel
theorem d_Ex_holds_104 : decode c_Ex_holds 104 = .ok (.iload 4, 2) := by decide +kernel
theorem d_Ex_holds_106 : decode c_Ex_holds 106 = .ok (.aload_n 3, 1) := by decide +kernel
theorem d_Ex_holds_107 : decode c_Ex_holds 107 = .ok (.getfield 73, 3) := by decide +kernel
theorem d_Ex_holds_110 : decode c_Ex_holds 110 = .ok (.invokestatic 63, 3) := by decide +kernel
theorem d_Ex_holds_113 : decode c_Ex_holds 113 = .ok (.ifCond .eq 18, 3) := by decide +kernel
theorem d_Ex_holds_116 : decode c_Ex_holds 116 = .ok (.aload_n 3, 1) := by decide +kernel
theorem d_Ex_holds_117 : decode c_Ex_holds 117 = .ok (.iload 4, 2) := by decide +kernel
theorem d_Ex_holds_119 : decode c_Ex_holds 119 = .ok (.invokevirtual 76, 3) := by decide +kernel
theorem d_Ex_holds_122 : decode c_Ex_holds 122 = .ok (.iload 5, 2) := by decide +kernel
theorem d_Ex_holds_124 : decode c_Ex_holds 124 = .ok (.if_icmp .lt 7, 3) := by decide +kernel
theorem d_Ex_holds_127 : decode c_Ex_holds 127 = .ok (.iconst 1, 1) := by decide +kernel
theorem d_Ex_holds_128 : decode c_Ex_holds 128 = .ok (.goto 4, 3) := by decide +kernel
theorem d_Ex_holds_131 : decode c_Ex_holds 131 = .ok (.iconst 0, 1) := by decide +kernel
theorem d_Ex_holds_132 : decode c_Ex_holds 132 = .ok (.ireturn, 1) := by decide +kernel
theorem d_Ex_holds_133 : decode c_Ex_holds 133 = .ok (.iload 4, 2) := by decide +kernel
theorem d_Ex_holds_135 : decode c_Ex_holds 135 = .ok (.iload_n 2, 1) := by decide +kernel
theorem d_Ex_holds_136 : decode c_Ex_holds 136 = .ok (.invokestatic 63, 3) := by decide +kernel
theorem d_Ex_holds_139 : decode c_Ex_holds 139 = .ok (.ifCond .ne 7, 3) := by decide +kernel
theorem d_Ex_holds_142 : decode c_Ex_holds 142 = .ok (.iconst 1, 1) := by decide +kernel
theorem d_Ex_holds_143 : decode c_Ex_holds 143 = .ok (.goto 4, 3) := by decide +kernel
theorem d_Ex_holds_146 : decode c_Ex_holds 146 = .ok (.iconst 0, 1) := by decide +kernel
theorem d_Ex_holds_147 : decode c_Ex_holds 147 = .ok (.ireturn, 1) := by decide +kernel
theorem d_Ex_holds_148 : decode c_Ex_holds 148 = .ok (.iload 4, 2) := by decide +kernel
theorem d_Ex_holds_150 : decode c_Ex_holds 150 = .ok (.iload_n 2, 1) := by decide +kernel
theorem d_Ex_holds_151 : decode c_Ex_holds 151 = .ok (.invokestatic 63, 3) := by decide +kernel
theorem d_Ex_holds_154 : decode c_Ex_holds 154 = .ok (.ifCond .eq 16, 3) := by decide +kernel
theorem d_Ex_holds_157 : decode c_Ex_holds 157 = .ok (.iload 5, 2) := by decide +kernel
theorem d_Ex_holds_159 : decode c_Ex_holds 159 = .ok (.iload_n 2, 1) := by decide +kernel
theorem d_Ex_holds_160 : decode c_Ex_holds 160 = .ok (.invokestatic 63, 3) := by decide +kernel
theorem d_Ex_holds_163 : decode c_Ex_holds 163 = .ok (.ifCond .eq 7, 3) := by decide +kernel
theorem d_Ex_holds_166 : decode c_Ex_holds 166 = .ok (.iconst 1, 1) := by decide +kernel
theorem d_Ex_holds_167 : decode c_Ex_holds 167 = .ok (.goto 4, 3) := by decide +kernel
theorem d_Ex_holds_170 : decode c_Ex_holds 170 = .ok (.iconst 0, 1) := by decide +kernel
theorem d_Ex_holds_171 : decode c_Ex_holds 171 = .ok (.ireturn, 1) := by decide +kernel
theorem d_Ex_holds_172 : decode c_Ex_holds 172 = .ok (.iload 4, 2) := by decide +kernel
theorem d_Ex_holds_174 : decode c_Ex_holds 174 = .ok (.iload_n 2, 1) := by decide +kernel
theorem d_Ex_holds_175 : decode c_Ex_holds 175 = .ok (.invokestatic 63, 3) := by decide +kernel
theorem d_Ex_holds_178 : decode c_Ex_holds 178 = .ok (.ifCond .ne 12, 3) := by decide +kernel
theorem d_Ex_holds_181 : decode c_Ex_holds 181 = .ok (.iload 5, 2) := by decide +kernel
theorem d_Ex_holds_183 : decode c_Ex_holds 183 = .ok (.iload_n 2, 1) := by decide +kernel
theorem d_Ex_holds_184 : decode c_Ex_holds 184 = .ok (.invokestatic 63, 3) := by decide +kernel
theorem d_Ex_holds_187 : decode c_Ex_holds 187 = .ok (.ifCond .eq 7, 3) := by decide +kernel
theorem d_Ex_holds_190 : decode c_Ex_holds 190 = .ok (.iconst 1, 1) := by decide +kernel
theorem d_Ex_holds_191 : decode c_Ex_holds 191 = .ok (.goto 4, 3) := by decide +kernel
theorem d_Ex_holds_194 : decode c_Ex_holds 194 = .ok (.iconst 0, 1) := by decide +kernel
theorem d_Ex_holds_195 : decode c_Ex_holds 195 = .ok (.ireturn, 1) := by decide +kernel
theorem d_Tr_init_0 : decode c_Tr_init 0 = .ok (.aload_n 0, 1) := by decide +kernel
theorem d_Tr_init_1 : decode c_Tr_init 1 = .ok (.invokespecial 3, 3) := by decide +kernel
theorem d_Tr_init_4 : decode c_Tr_init 4 = .ok (.aload_n 0, 1) := by decide +kernel
theorem d_Tr_init_5 : decode c_Tr_init 5 = .ok (.bipush 12, 2) := by decide +kernel
theorem d_Tr_init_7 : decode c_Tr_init 7 = .ok (.newarray .int, 2) := by decide +kernel
theorem d_Tr_init_9 : decode c_Tr_init 9 = .ok (.putfield 9, 3) := by decide +kernel
theorem d_Tr_init_12 : decode c_Tr_init 12 = .ok (.aload_n 0, 1) := by decide +kernel
theorem d_Tr_init_13 : decode c_Tr_init 13 = .ok (.bipush 12, 2) := by decide +kernel
theorem d_Tr_init_15 : decode c_Tr_init 15 = .ok (.newarray .int, 2) := by decide +kernel
theorem d_Tr_init_17 : decode c_Tr_init 17 = .ok (.putfield 15, 3) := by decide +kernel
theorem d_Tr_init_20 : decode c_Tr_init 20 = .ok (.aload_n 0, 1) := by decide +kernel
theorem d_Tr_init_21 : decode c_Tr_init 21 = .ok (.bipush 12, 2) := by decide +kernel
theorem d_Tr_init_23 : decode c_Tr_init 23 = .ok (.newarray .int, 2) := by decide +kernel
theorem d_Tr_init_25 : decode c_Tr_init 25 = .ok (.putfield 18, 3) := by decide +kernel
theorem d_Tr_init_28 : decode c_Tr_init 28 = .ok (.aload_n 0, 1) := by decide +kernel
theorem d_Tr_init_29 : decode c_Tr_init 29 = .ok (.iconst 3, 1) := by decide +kernel
theorem d_Tr_init_30 : decode c_Tr_init 30 = .ok (.newarray .int, 2) := by decide +kernel
theorem d_Tr_init_32 : decode c_Tr_init 32 = .ok (.putfield 21, 3) := by decide +kernel
theorem d_Tr_init_35 : decode c_Tr_init 35 = .ok (.return_, 1) := by decide +kernel
theorem d_Tr_add_0 : decode c_Tr_add 0 = .ok (.aload_n 0, 1) := by decide +kernel
theorem d_Tr_add_1 : decode c_Tr_add 1 = .ok (.dup, 1) := by decide +kernel
theorem d_Tr_add_2 : decode c_Tr_add 2 = .ok (.getfield 24, 3) := by decide +kernel
theorem d_Tr_add_5 : decode c_Tr_add 5 = .ok (.dup_x1, 1) := by decide +kernel
theorem d_Tr_add_6 : decode c_Tr_add 6 = .ok (.iconst 1, 1) := by decide +kernel
theorem d_Tr_add_7 : decode c_Tr_add 7 = .ok (.iadd, 1) := by decide +kernel
theorem d_Tr_add_8 : decode c_Tr_add 8 = .ok (.putfield 24, 3) := by decide +kernel
theorem d_Tr_add_11 : decode c_Tr_add 11 = .ok (.istore 5, 2) := by decide +kernel
theorem d_Tr_add_13 : decode c_Tr_add 13 = .ok (.aload_n 0, 1) := by decide +kernel
theorem d_Tr_add_14 : decode c_Tr_add 14 = .ok (.getfield 9, 3) := by decide +kernel
theorem d_Tr_add_17 : decode c_Tr_add 17 = .ok (.iload 5, 2) := by decide +kernel
theorem d_Tr_add_19 : decode c_Tr_add 19 = .ok (.iload_n 2, 1) := by decide +kernel
theorem d_Tr_add_20 : decode c_Tr_add 20 = .ok (.iastore, 1) := by decide +kernel
theorem d_Tr_add_21 : decode c_Tr_add 21 = .ok (.aload_n 0, 1) := by decide +kernel
theorem d_Tr_add_22 : decode c_Tr_add 22 = .ok (.getfield 15, 3) := by decide +kernel
theorem d_Tr_add_25 : decode c_Tr_add 25 = .ok (.iload 5, 2) := by decide +kernel
theorem d_Tr_add_27 : decode c_Tr_add 27 = .ok (.iload_n 3, 1) := by decide +kernel
theorem d_Tr_add_28 : decode c_Tr_add 28 = .ok (.iastore, 1) := by decide +kernel
theorem d_Tr_add_29 : decode c_Tr_add 29 = .ok (.aload_n 0, 1) := by decide +kernel
theorem d_Tr_add_30 : decode c_Tr_add 30 = .ok (.getfield 18, 3) := by decide +kernel
theorem d_Tr_add_33 : decode c_Tr_add 33 = .ok (.iload 5, 2) := by decide +kernel
theorem d_Tr_add_35 : decode c_Tr_add 35 = .ok (.iload 4, 2) := by decide +kernel
theorem d_Tr_add_37 : decode c_Tr_add 37 = .ok (.iastore, 1) := by decide +kernel
theorem d_Tr_add_38 : decode c_Tr_add 38 = .ok (.aload_n 0, 1) := by decide +kernel
theorem d_Tr_add_39 : decode c_Tr_add 39 = .ok (.getfield 21, 3) := by decide +kernel
theorem d_Tr_add_42 : decode c_Tr_add 42 = .ok (.iload_n 1, 1) := by decide +kernel
theorem d_Tr_add_43 : decode c_Tr_add 43 = .ok (.dup2, 1) := by decide +kernel
theorem d_Tr_add_44 : decode c_Tr_add 44 = .ok (.iaload, 1) := by decide +kernel
theorem d_Tr_add_45 : decode c_Tr_add 45 = .ok (.iconst 1, 1) := by decide +kernel
theorem d_Tr_add_46 : decode c_Tr_add 46 = .ok (.iload 5, 2) := by decide +kernel
theorem d_Tr_add_48 : decode c_Tr_add 48 = .ok (.ishl, 1) := by decide +kernel
theorem d_Tr_add_49 : decode c_Tr_add 49 = .ok (.ior, 1) := by decide +kernel
theorem d_Tr_add_50 : decode c_Tr_add 50 = .ok (.iastore, 1) := by decide +kernel
theorem d_Tr_add_51 : decode c_Tr_add 51 = .ok (.iload 5, 2) := by decide +kernel
theorem d_Tr_add_53 : decode c_Tr_add 53 = .ok (.ireturn, 1) := by decide +kernel
theorem d_Tr_enabledIn_0 : decode c_Tr_enabledIn 0 = .ok (.iconst 0, 1) := by decide +kernel
theorem d_Tr_enabledIn_1 : decode c_Tr_enabledIn 1 = .ok (.istore_n 2, 1) := by decide +kernel
theorem d_Tr_enabledIn_2 : decode c_Tr_enabledIn 2 = .ok (.iconst 0, 1) := by decide +kernel
theorem d_Tr_enabledIn_3 : decode c_Tr_enabledIn 3 = .ok (.istore_n 3, 1) := by decide +kernel
theorem d_Tr_enabledIn_4 : decode c_Tr_enabledIn 4 = .ok (.iload_n 3, 1) := by decide +kernel
theorem d_Tr_enabledIn_5 : decode c_Tr_enabledIn 5 = .ok (.aload_n 0, 1) := by decide +kernel
theorem d_Tr_enabledIn_6 : decode c_Tr_enabledIn 6 = .ok (.getfield 24, 3) := by decide +kernel
theorem d_Tr_enabledIn_9 : decode c_Tr_enabledIn 9 = .ok (.if_icmp .ge 28, 3) := by decide +kernel
theorem d_Tr_enabledIn_12 : decode c_Tr_enabledIn 12 = .ok (.aload_n 0, 1) := by decide +kernel
theorem d_Tr_enabledIn_13 : decode c_Tr_enabledIn 13 = .ok (.getfield 9, 3) := by decide +kernel
theorem d_Tr_enabledIn_16 : decode c_Tr_enabledIn 16 = .ok (.iload_n 3, 1) := by decide +kernel
theorem d_Tr_enabledIn_17 : decode c_Tr_enabledIn 17 = .ok (.iaload, 1) := by decide +kernel
theorem d_Tr_enabledIn_18 : decode c_Tr_enabledIn 18 = .ok (.iload_n 1, 1) := by decide +kernel
theorem d_Tr_enabledIn_19 : decode c_Tr_enabledIn 19 = .ok (.iconst (-1), 1) := by decide +kernel
theorem d_Tr_enabledIn_20 : decode c_Tr_enabledIn 20 = .ok (.ixor, 1) := by decide +kernel
theorem d_Tr_enabledIn_21 : decode c_Tr_enabledIn 21 = .ok (.iand, 1) := by decide +kernel
theorem d_Tr_enabledIn_22 : decode c_Tr_enabledIn 22 = .ok (.ifCond .ne 9, 3) := by decide +kernel
theorem d_Tr_enabledIn_25 : decode c_Tr_enabledIn 25 = .ok (.iload_n 2, 1) := by decide +kernel
theorem d_Tr_enabledIn_26 : decode c_Tr_enabledIn 26 = .ok (.iconst 1, 1) := by decide +kernel
theorem d_Tr_enabledIn_27 : decode c_Tr_enabledIn 27 = .ok (.iload_n 3, 1) := by decide +kernel
theorem d_Tr_enabledIn_28 : decode c_Tr_enabledIn 28 = .ok (.ishl, 1) := by decide +kernel
theorem d_Tr_enabledIn_29 : decode c_Tr_enabledIn 29 = .ok (.ior, 1) := by decide +kernel
theorem d_Tr_enabledIn_30 : decode c_Tr_enabledIn 30 = .ok (.istore_n 2, 1) := by decide +kernel
theorem d_Tr_enabledIn_31 : decode c_Tr_enabledIn 31 = .ok (.iinc 3 1, 3) := by decide +kernel
theorem d_Tr_enabledIn_34 : decode c_Tr_enabledIn 34 = .ok (.goto (-30), 3) := by decide +kernel
theorem d_Tr_enabledIn_37 : decode c_Tr_enabledIn 37 = .ok (.iload_n 2, 1) := by decide +kernel
theorem d_Tr_enabledIn_38 : decode c_Tr_enabledIn 38 = .ok (.ireturn, 1) := by decide +kernel
theorem d_Tr_dueIn_0 : decode c_Tr_dueIn 0 = .ok (.aload_n 0, 1) := by decide +kernel
theorem d_Tr_dueIn_1 : decode c_Tr_dueIn 1 = .ok (.iload_n 1, 1) := by decide +kernel
theorem d_Tr_dueIn_2 : decode c_Tr_dueIn 2 = .ok (.invokevirtual 28, 3) := by decide +kernel
theorem d_Tr_dueIn_5 : decode c_Tr_dueIn 5 = .ok (.istore_n 3, 1) := by decide +kernel
theorem d_Tr_dueIn_6 : decode c_Tr_dueIn 6 = .ok (.iconst 0, 1) := by decide +kernel
theorem d_Tr_dueIn_7 : decode c_Tr_dueIn 7 = .ok (.istore 4, 2) := by decide +kernel
theorem d_Tr_dueIn_9 : decode c_Tr_dueIn 9 = .ok (.iload 4, 2) := by decide +kernel
theorem d_Tr_dueIn_11 : decode c_Tr_dueIn 11 = .ok (.aload_n 0, 1) := by decide +kernel
theorem d_Tr_dueIn_12 : decode c_Tr_dueIn 12 = .ok (.getfield 24, 3) := by decide +kernel
theorem d_Tr_dueIn_15 : decode c_Tr_dueIn 15 = .ok (.if_icmp .ge 32, 3) := by decide +kernel
theorem d_Tr_dueIn_18 : decode c_Tr_dueIn 18 = .ok (.aload_n 0, 1) := by decide +kernel
theorem d_Tr_dueIn_19 : decode c_Tr_dueIn 19 = .ok (.getfield 18, 3) := by decide +kernel
theorem d_Tr_dueIn_22 : decode c_Tr_dueIn 22 = .ok (.iload 4, 2) := by decide +kernel
theorem d_Tr_dueIn_24 : decode c_Tr_dueIn 24 = .ok (.iaload, 1) := by decide +kernel
theorem d_Tr_dueIn_25 : decode c_Tr_dueIn 25 = .ok (.iload_n 2, 1) := by decide +kernel
theorem d_Tr_dueIn_26 : decode c_Tr_dueIn 26 = .ok (.invokestatic 32, 3) := by decide +kernel
theorem d_Tr_dueIn_29 : decode c_Tr_dueIn 29 = .ok (.ifCond .ne 12, 3) := by decide +kernel
theorem d_Tr_dueIn_32 : decode c_Tr_dueIn 32 = .ok (.iload_n 3, 1) := by decide +kernel
theorem d_Tr_dueIn_33 : decode c_Tr_dueIn 33 = .ok (.iconst 1, 1) := by decide +kernel
theorem d_Tr_dueIn_34 : decode c_Tr_dueIn 34 = .ok (.iload 4, 2) := by decide +kernel
theorem d_Tr_dueIn_36 : decode c_Tr_dueIn 36 = .ok (.ishl, 1) := by decide +kernel
theorem d_Tr_dueIn_37 : decode c_Tr_dueIn 37 = .ok (.iconst (-1), 1) := by decide +kernel
theorem d_Tr_dueIn_38 : decode c_Tr_dueIn 38 = .ok (.ixor, 1) := by decide +kernel
theorem d_Tr_dueIn_39 : decode c_Tr_dueIn 39 = .ok (.iand, 1) := by decide +kernel
theorem d_Tr_dueIn_40 : decode c_Tr_dueIn 40 = .ok (.istore_n 3, 1) := by decide +kernel
theorem d_Tr_dueIn_41 : decode c_Tr_dueIn 41 = .ok (.iinc 4 1, 3) := by decide +kernel
theorem d_Tr_dueIn_44 : decode c_Tr_dueIn 44 = .ok (.goto (-35), 3) := by decide +kernel
theorem d_Tr_dueIn_47 : decode c_Tr_dueIn 47 = .ok (.iload_n 3, 1) := by decide +kernel
theorem d_Tr_dueIn_48 : decode c_Tr_dueIn 48 = .ok (.ireturn, 1) := by decide +kernel
theorem d_Tr_withoutRivals_0 : decode c_Tr_withoutRivals 0 = .ok (.iconst 0, 1) := by decide +kernel
theorem d_Tr_withoutRivals_1 : decode c_Tr_withoutRivals 1 = .ok (.istore_n 2, 1) := by decide +kernel
theorem d_Tr_withoutRivals_2 : decode c_Tr_withoutRivals 2 = .ok (.iconst 0, 1) := by decide +kernel
theorem d_Tr_withoutRivals_3 : decode c_Tr_withoutRivals 3 = .ok (.istore_n 3, 1) := by decide +kernel
theorem d_Tr_withoutRivals_4 : decode c_Tr_withoutRivals 4 = .ok (.iconst 0, 1) := by decide +kernel
theorem d_Tr_withoutRivals_5 : decode c_Tr_withoutRivals 5 = .ok (.istore 4, 2) := by decide +kernel
theorem d_Tr_withoutRivals_7 : decode c_Tr_withoutRivals 7 = .ok (.iload 4, 2) := by decide +kernel
theorem d_Tr_withoutRivals_9 : decode c_Tr_withoutRivals 9 = .ok (.aload_n 0, 1) := by decide +kernel
theorem d_Tr_withoutRivals_10 : decode c_Tr_withoutRivals 10 = .ok (.getfield 24, 3) := by decide +kernel
theorem d_Tr_withoutRivals_13 : decode c_Tr_withoutRivals 13 = .ok (.if_icmp .ge 47, 3) := by decide +kernel
theorem d_Tr_withoutRivals_16 : decode c_Tr_withoutRivals 16 = .ok (.iload 4, 2) := by decide +kernel
theorem d_Tr_withoutRivals_18 : decode c_Tr_withoutRivals 18 = .ok (.iload_n 1, 1) := by decide +kernel
theorem d_Tr_withoutRivals_19 : decode c_Tr_withoutRivals 19 = .ok (.invokestatic 32, 3) := by decide +kernel
theorem d_Tr_withoutRivals_22 : decode c_Tr_withoutRivals 22 = .ok (.ifCond .eq 32, 3) := by decide +kernel
theorem d_Tr_withoutRivals_25 : decode c_Tr_withoutRivals 25 = .ok (.aload_n 0, 1) := by decide +kernel
theorem d_Tr_withoutRivals_26 : decode c_Tr_withoutRivals 26 = .ok (.getfield 9, 3) := by decide +kernel
theorem d_Tr_withoutRivals_29 : decode c_Tr_withoutRivals 29 = .ok (.iload 4, 2) := by decide +kernel
theorem d_Tr_withoutRivals_31 : decode c_Tr_withoutRivals 31 = .ok (.iaload, 1) := by decide +kernel
theorem d_Tr_withoutRivals_32 : decode c_Tr_withoutRivals 32 = .ok (.iload_n 3, 1) := by decide +kernel
theorem d_Tr_withoutRivals_33 : decode c_Tr_withoutRivals 33 = .ok (.iand, 1) := by decide +kernel
theorem d_Tr_withoutRivals_34 : decode c_Tr_withoutRivals 34 = .ok (.ifCond .ne 20, 3) := by decide +kernel
theorem d_Tr_withoutRivals_37 : decode c_Tr_withoutRivals 37 = .ok (.iload_n 2, 1) := by decide +kernel
theorem d_Tr_withoutRivals_38 : decode c_Tr_withoutRivals 38 = .ok (.iconst 1, 1) := by decide +kernel
theorem d_Tr_withoutRivals_39 : decode c_Tr_withoutRivals 39 = .ok (.iload 4, 2) := by decide +kernel
theorem d_Tr_withoutRivals_41 : decode c_Tr_withoutRivals 41 = .ok (.ishl, 1) := by decide +kernel
theorem d_Tr_withoutRivals_42 : decode c_Tr_withoutRivals 42 = .ok (.ior, 1) := by decide +kernel
theorem d_Tr_withoutRivals_43 : decode c_Tr_withoutRivals 43 = .ok (.istore_n 2, 1) := by decide +kernel
theorem d_Tr_withoutRivals_44 : decode c_Tr_withoutRivals 44 = .ok (.iload_n 3, 1) := by decide +kernel
theorem d_Tr_withoutRivals_45 : decode c_Tr_withoutRivals 45 = .ok (.aload_n 0, 1) := by decide +kernel
theorem d_Tr_withoutRivals_46 : decode c_Tr_withoutRivals 46 = .ok (.getfield 9, 3) := by decide +kernel
theorem d_Tr_withoutRivals_49 : decode c_Tr_withoutRivals 49 = .ok (.iload 4, 2) := by decide +kernel
theorem d_Tr_withoutRivals_51 : decode c_Tr_withoutRivals 51 = .ok (.iaload, 1) := by decide +kernel
theorem d_Tr_withoutRivals_52 : decode c_Tr_withoutRivals 52 = .ok (.ior, 1) := by decide +kernel
theorem d_Tr_withoutRivals_53 : decode c_Tr_withoutRivals 53 = .ok (.istore_n 3, 1) := by decide +kernel
theorem d_Tr_withoutRivals_54 : decode c_Tr_withoutRivals 54 = .ok (.iinc 4 1, 3) := by decide +kernel
theorem d_Tr_withoutRivals_57 : decode c_Tr_withoutRivals 57 = .ok (.goto (-50), 3) := by decide +kernel
theorem d_Tr_withoutRivals_60 : decode c_Tr_withoutRivals 60 = .ok (.iload_n 2, 1) := by decide +kernel
theorem d_Tr_withoutRivals_61 : decode c_Tr_withoutRivals 61 = .ok (.ireturn, 1) := by decide +kernel
theorem d_Tr_preceding_0 : decode c_Tr_preceding 0 = .ok (.aload_n 0, 1) := by decide +kernel
theorem d_Tr_preceding_1 : decode c_Tr_preceding 1 = .ok (.aload_n 0, 1) := by decide +kernel
theorem d_Tr_preceding_2 : decode c_Tr_preceding 2 = .ok (.getfield 9, 3) := by decide +kernel
theorem d_Tr_preceding_5 : decode c_Tr_preceding 5 = .ok (.iload_n 1, 1) := by decide +kernel
theorem d_Tr_preceding_6 : decode c_Tr_preceding 6 = .ok (.invokevirtual 36, 3) := by decide +kernel
theorem d_Tr_preceding_9 : decode c_Tr_preceding 9 = .ok (.ireturn, 1) := by decide +kernel
theorem d_Tr_succeeding_0 : decode c_Tr_succeeding 0 = .ok (.aload_n 0, 1) := by decide +kernel
theorem d_Tr_succeeding_1 : decode c_Tr_succeeding 1 = .ok (.aload_n 0, 1) := by decide +kernel
theorem d_Tr_succeeding_2 : decode c_Tr_succeeding 2 = .ok (.getfield 15, 3) := by decide +kernel
theorem d_Tr_succeeding_5 : decode c_Tr_succeeding 5 = .ok (.iload_n 1, 1) := by decide +kernel
theorem d_Tr_succeeding_6 : decode c_Tr_succeeding 6 = .ok (.invokevirtual 36, 3) := by decide +kernel
theorem d_Tr_succeeding_9 : decode c_Tr_succeeding 9 = .ok (.ireturn, 1) := by decide +kernel
theorem d_Tr_union_0 : decode c_Tr_union 0 = .ok (.iconst 0, 1) := by decide +kernel
theorem d_Tr_union_1 : decode c_Tr_union 1 = .ok (.istore_n 3, 1) := by decide +kernel
theorem d_Tr_union_2 : decode c_Tr_union 2 = .ok (.iconst 0, 1) := by decide +kernel
theorem d_Tr_union_3 : decode c_Tr_union 3 = .ok (.istore 4, 2) := by decide +kernel
theorem d_Tr_union_5 : decode c_Tr_union 5 = .ok (.iload 4, 2) := by decide +kernel
theorem d_Tr_union_7 : decode c_Tr_union 7 = .ok (.aload_n 0, 1) := by decide +kernel
theorem d_Tr_union_8 : decode c_Tr_union 8 = .ok (.getfield 24, 3) := by decide +kernel
theorem d_Tr_union_11 : decode c_Tr_union 11 = .ok (.if_icmp .ge 25, 3) := by decide +kernel
theorem d_Tr_union_14 : decode c_Tr_union 14 = .ok (.iload 4, 2) := by decide +kernel
theorem d_Tr_union_16 : decode c_Tr_union 16 = .ok (.iload_n 2, 1) := by decide +kernel
theorem d_Tr_union_17 : decode c_Tr_union 17 = .ok (.invokestatic 32, 3) := by decide +kernel
theorem d_Tr_union_20 : decode c_Tr_union 20 = .ok (.ifCond .eq 10, 3) := by decide +kernel
theorem d_Tr_union_23 : decode c_Tr_union 23 = .ok (.iload_n 3, 1) := by decide +kernel
theorem d_Tr_union_24 : decode c_Tr_union 24 = .ok (.aload_n 1, 1) := by decide +kernel
theorem d_Tr_union_25 : decode c_Tr_union 25 = .ok (.iload 4, 2) := by decide +kernel
theorem d_Tr_union_27 : decode c_Tr_union 27 = .ok (.iaload, 1) := by decide +kernel
theorem d_Tr_union_28 : decode c_Tr_union 28 = .ok (.ior, 1) := by decide +kernel
theorem d_Tr_union_29 : decode c_Tr_union 29 = .ok (.istore_n 3, 1) := by decide +kernel
theorem d_Tr_union_30 : decode c_Tr_union 30 = .ok (.iinc 4 1, 3) := by decide +kernel
theorem d_Tr_union_33 : decode c_Tr_union 33 = .ok (.goto (-28), 3) := by decide +kernel
theorem d_Tr_union_36 : decode c_Tr_union 36 = .ok (.iload_n 3, 1) := by decide +kernel
theorem d_Tr_union_37 : decode c_Tr_union 37 = .ok (.ireturn, 1) := by decide +kernel
theorem d_Or_init_0 : decode c_Or_init 0 = .ok (.aload_n 0, 1) := by decide +kernel
theorem d_Or_init_1 : decode c_Or_init 1 = .ok (.invokespecial 3, 3) := by decide +kernel
theorem d_Or_init_4 : decode c_Or_init 4 = .ok (.aload_n 0, 1) := by decide +kernel
theorem d_Or_init_5 : decode c_Or_init 5 = .ok (.iconst 4, 1) := by decide +kernel
theorem d_Or_init_6 : decode c_Or_init 6 = .ok (.newarray .int, 2) := by decide +kernel
theorem d_Or_init_8 : decode c_Or_init 8 = .ok (.putfield 9, 3) := by decide +kernel
theorem d_Or_init_11 : decode c_Or_init 11 = .ok (.aload_n 0, 1) := by decide +kernel
theorem d_Or_init_12 : decode c_Or_init 12 = .ok (.iconst 4, 1) := by decide +kernel
theorem d_Or_init_13 : decode c_Or_init 13 = .ok (.newarray .int, 2) := by decide +kernel
theorem d_Or_init_15 : decode c_Or_init 15 = .ok (.putfield 15, 3) := by decide +kernel
theorem d_Or_init_18 : decode c_Or_init 18 = .ok (.aload_n 0, 1) := by decide +kernel
theorem d_Or_init_19 : decode c_Or_init 19 = .ok (.iconst 4, 1) := by decide +kernel
theorem d_Or_init_20 : decode c_Or_init 20 = .ok (.newarray .int, 2) := by decide +kernel
theorem d_Or_init_22 : decode c_Or_init 22 = .ok (.putfield 18, 3) := by decide +kernel
theorem d_Or_init_25 : decode c_Or_init 25 = .ok (.return_, 1) := by decide +kernel
theorem d_Or_add_0 : decode c_Or_add 0 = .ok (.aload_n 0, 1) := by decide +kernel
theorem d_Or_add_1 : decode c_Or_add 1 = .ok (.dup, 1) := by decide +kernel
theorem d_Or_add_2 : decode c_Or_add 2 = .ok (.getfield 21, 3) := by decide +kernel
theorem d_Or_add_5 : decode c_Or_add 5 = .ok (.dup_x1, 1) := by decide +kernel
theorem d_Or_add_6 : decode c_Or_add 6 = .ok (.iconst 1, 1) := by decide +kernel
theorem d_Or_add_7 : decode c_Or_add 7 = .ok (.iadd, 1) := by decide +kernel
theorem d_Or_add_8 : decode c_Or_add 8 = .ok (.putfield 21, 3) := by decide +kernel
theorem d_Or_add_11 : decode c_Or_add 11 = .ok (.istore 4, 2) := by decide +kernel
theorem d_Or_add_13 : decode c_Or_add 13 = .ok (.aload_n 0, 1) := by decide +kernel
theorem d_Or_add_14 : decode c_Or_add 14 = .ok (.getfield 9, 3) := by decide +kernel
theorem d_Or_add_17 : decode c_Or_add 17 = .ok (.iload 4, 2) := by decide +kernel
theorem d_Or_add_19 : decode c_Or_add 19 = .ok (.iload_n 1, 1) := by decide +kernel
theorem d_Or_add_20 : decode c_Or_add 20 = .ok (.iastore, 1) := by decide +kernel
theorem d_Or_add_21 : decode c_Or_add 21 = .ok (.aload_n 0, 1) := by decide +kernel
theorem d_Or_add_22 : decode c_Or_add 22 = .ok (.getfield 15, 3) := by decide +kernel
theorem d_Or_add_25 : decode c_Or_add 25 = .ok (.iload 4, 2) := by decide +kernel
theorem d_Or_add_27 : decode c_Or_add 27 = .ok (.iload_n 2, 1) := by decide +kernel
theorem d_Or_add_28 : decode c_Or_add 28 = .ok (.iastore, 1) := by decide +kernel
theorem d_Or_add_29 : decode c_Or_add 29 = .ok (.aload_n 0, 1) := by decide +kernel
theorem d_Or_add_30 : decode c_Or_add 30 = .ok (.getfield 18, 3) := by decide +kernel
theorem d_Or_add_33 : decode c_Or_add 33 = .ok (.iload 4, 2) := by decide +kernel
theorem d_Or_add_35 : decode c_Or_add 35 = .ok (.iload_n 3, 1) := by decide +kernel
theorem d_Or_add_36 : decode c_Or_add 36 = .ok (.iastore, 1) := by decide +kernel
theorem d_Or_add_37 : decode c_Or_add 37 = .ok (.iload 4, 2) := by decide +kernel
theorem d_Or_add_39 : decode c_Or_add 39 = .ok (.ireturn, 1) := by decide +kernel
theorem d_Or_rulingOver_0 : decode c_Or_rulingOver 0 = .ok (.iconst 0, 1) := by decide +kernel
theorem d_Or_rulingOver_1 : decode c_Or_rulingOver 1 = .ok (.istore_n 3, 1) := by decide +kernel
theorem d_Or_rulingOver_2 : decode c_Or_rulingOver 2 = .ok (.iload_n 3, 1) := by decide +kernel
theorem d_Or_rulingOver_3 : decode c_Or_rulingOver 3 = .ok (.aload_n 0, 1) := by decide +kernel
theorem d_Or_rulingOver_4 : decode c_Or_rulingOver 4 = .ok (.getfield 21, 3) := by decide +kernel
theorem d_Or_rulingOver_7 : decode c_Or_rulingOver 7 = .ok (.if_icmp .ge 34, 3) := by decide +kernel
theorem d_Or_rulingOver_10 : decode c_Or_rulingOver 10 = .ok (.aload_n 0, 1) := by decide +kernel
theorem d_Or_rulingOver_11 : decode c_Or_rulingOver 11 = .ok (.getfield 15, 3) := by decide +kernel
theorem d_Or_rulingOver_14 : decode c_Or_rulingOver 14 = .ok (.iload_n 3, 1) := by decide +kernel
theorem d_Or_rulingOver_15 : decode c_Or_rulingOver 15 = .ok (.iaload, 1) := by decide +kernel
theorem d_Or_rulingOver_16 : decode c_Or_rulingOver 16 = .ok (.iload_n 1, 1) := by decide +kernel
theorem d_Or_rulingOver_17 : decode c_Or_rulingOver 17 = .ok (.if_icmp .ne 18, 3) := by decide +kernel
theorem d_Or_rulingOver_20 : decode c_Or_rulingOver 20 = .ok (.aload_n 0, 1) := by decide +kernel
theorem d_Or_rulingOver_21 : decode c_Or_rulingOver 21 = .ok (.getfield 9, 3) := by decide +kernel
theorem d_Or_rulingOver_24 : decode c_Or_rulingOver 24 = .ok (.iload_n 3, 1) := by decide +kernel
theorem d_Or_rulingOver_25 : decode c_Or_rulingOver 25 = .ok (.iaload, 1) := by decide +kernel
theorem d_Or_rulingOver_26 : decode c_Or_rulingOver 26 = .ok (.iload_n 2, 1) := by decide +kernel
theorem d_Or_rulingOver_27 : decode c_Or_rulingOver 27 = .ok (.invokestatic 25, 3) := by decide +kernel
theorem d_Or_rulingOver_30 : decode c_Or_rulingOver 30 = .ok (.ifCond .eq 5, 3) := by decide +kernel
theorem d_Or_rulingOver_33 : decode c_Or_rulingOver 33 = .ok (.iload_n 3, 1) := by decide +kernel
theorem d_Or_rulingOver_34 : decode c_Or_rulingOver 34 = .ok (.ireturn, 1) := by decide +kernel
theorem d_Or_rulingOver_35 : decode c_Or_rulingOver 35 = .ok (.iinc 3 1, 3) := by decide +kernel
theorem d_Or_rulingOver_38 : decode c_Or_rulingOver 38 = .ok (.goto (-36), 3) := by decide +kernel
theorem d_Or_rulingOver_41 : decode c_Or_rulingOver 41 = .ok (.iconst (-1), 1) := by decide +kernel
theorem d_Or_rulingOver_42 : decode c_Or_rulingOver 42 = .ok (.ireturn, 1) := by decide +kernel
theorem d_Or_forcedSteps_0 : decode c_Or_forcedSteps 0 = .ok (.aload_n 0, 1) := by decide +kernel
theorem d_Or_forcedSteps_1 : decode c_Or_forcedSteps 1 = .ok (.getfield 18, 3) := by decide +kernel
theorem d_Or_forcedSteps_4 : decode c_Or_forcedSteps 4 = .ok (.iload_n 1, 1) := by decide +kernel
theorem d_Or_forcedSteps_5 : decode c_Or_forcedSteps 5 = .ok (.iaload, 1) := by decide +kernel
theorem d_Or_forcedSteps_6 : decode c_Or_forcedSteps 6 = .ok (.iconst (-1), 1) := by decide +kernel
theorem d_Or_forcedSteps_7 : decode c_Or_forcedSteps 7 = .ok (.if_icmp .ne 7, 3) := by decide +kernel
theorem d_Or_forcedSteps_10 : decode c_Or_forcedSteps 10 = .ok (.iload_n 2, 1) := by decide +kernel
theorem d_Or_forcedSteps_11 : decode c_Or_forcedSteps 11 = .ok (.goto 9, 3) := by decide +kernel
theorem d_Or_forcedSteps_14 : decode c_Or_forcedSteps 14 = .ok (.aload_n 0, 1) := by decide +kernel
theorem d_Or_forcedSteps_15 : decode c_Or_forcedSteps 15 = .ok (.getfield 18, 3) := by decide +kernel
theorem d_Or_forcedSteps_18 : decode c_Or_forcedSteps 18 = .ok (.iload_n 1, 1) := by decide +kernel
theorem d_Or_forcedSteps_19 : decode c_Or_forcedSteps 19 = .ok (.iaload, 1) := by decide +kernel
theorem d_Or_forcedSteps_20 : decode c_Or_forcedSteps 20 = .ok (.ireturn, 1) := by decide +kernel
theorem d_Or_fixedBy_0 : decode c_Or_fixedBy 0 = .ok (.iconst 0, 1) := by decide +kernel
theorem d_Or_fixedBy_1 : decode c_Or_fixedBy 1 = .ok (.istore_n 2, 1) := by decide +kernel
theorem d_Or_fixedBy_2 : decode c_Or_fixedBy 2 = .ok (.iconst 0, 1) := by decide +kernel
theorem d_Or_fixedBy_3 : decode c_Or_fixedBy 3 = .ok (.istore_n 3, 1) := by decide +kernel
theorem d_Or_fixedBy_4 : decode c_Or_fixedBy 4 = .ok (.iload_n 3, 1) := by decide +kernel
theorem d_Or_fixedBy_5 : decode c_Or_fixedBy 5 = .ok (.aload_n 0, 1) := by decide +kernel
theorem d_Or_fixedBy_6 : decode c_Or_fixedBy 6 = .ok (.getfield 21, 3) := by decide +kernel
theorem d_Or_fixedBy_9 : decode c_Or_fixedBy 9 = .ok (.if_icmp .ge 31, 3) := by decide +kernel
theorem d_Or_fixedBy_12 : decode c_Or_fixedBy 12 = .ok (.aload_n 0, 1) := by decide +kernel
theorem d_Or_fixedBy_13 : decode c_Or_fixedBy 13 = .ok (.getfield 9, 3) := by decide +kernel
theorem d_Or_fixedBy_16 : decode c_Or_fixedBy 16 = .ok (.iload_n 3, 1) := by decide +kernel
theorem d_Or_fixedBy_17 : decode c_Or_fixedBy 17 = .ok (.iaload, 1) := by decide +kernel
theorem d_Or_fixedBy_18 : decode c_Or_fixedBy 18 = .ok (.iload_n 1, 1) := by decide +kernel
theorem d_Or_fixedBy_19 : decode c_Or_fixedBy 19 = .ok (.invokestatic 25, 3) := by decide +kernel
theorem d_Or_fixedBy_22 : decode c_Or_fixedBy 22 = .ok (.ifCond .eq 12, 3) := by decide +kernel
theorem d_Or_fixedBy_25 : decode c_Or_fixedBy 25 = .ok (.iload_n 2, 1) := by decide +kernel
theorem d_Or_fixedBy_26 : decode c_Or_fixedBy 26 = .ok (.aload_n 0, 1) := by decide +kernel
theorem d_Or_fixedBy_27 : decode c_Or_fixedBy 27 = .ok (.iload_n 3, 1) := by decide +kernel
theorem d_Or_fixedBy_28 : decode c_Or_fixedBy 28 = .ok (.iconst 0, 1) := by decide +kernel
theorem d_Or_fixedBy_29 : decode c_Or_fixedBy 29 = .ok (.invokevirtual 29, 3) := by decide +kernel
theorem d_Or_fixedBy_32 : decode c_Or_fixedBy 32 = .ok (.ior, 1) := by decide +kernel
theorem d_Or_fixedBy_33 : decode c_Or_fixedBy 33 = .ok (.istore_n 2, 1) := by decide +kernel
theorem d_Or_fixedBy_34 : decode c_Or_fixedBy 34 = .ok (.iinc 3 1, 3) := by decide +kernel
theorem d_Or_fixedBy_37 : decode c_Or_fixedBy 37 = .ok (.goto (-33), 3) := by decide +kernel
theorem d_Or_fixedBy_40 : decode c_Or_fixedBy 40 = .ok (.iload_n 2, 1) := by decide +kernel
theorem d_Or_fixedBy_41 : decode c_Or_fixedBy 41 = .ok (.ireturn, 1) := by decide +kernel
theorem d_Ac_init_0 : decode c_Ac_init 0 = .ok (.aload_n 0, 1) := by decide +kernel
theorem d_Ac_init_1 : decode c_Ac_init 1 = .ok (.invokespecial 3, 3) := by decide +kernel
theorem d_Ac_init_4 : decode c_Ac_init 4 = .ok (.aload_n 0, 1) := by decide +kernel
theorem d_Ac_init_5 : decode c_Ac_init 5 = .ok (.bipush 12, 2) := by decide +kernel
theorem d_Ac_init_7 : decode c_Ac_init 7 = .ok (.newarray .int, 2) := by decide +kernel
theorem d_Ac_init_9 : decode c_Ac_init 9 = .ok (.putfield 9, 3) := by decide +kernel
theorem d_Ac_init_12 : decode c_Ac_init 12 = .ok (.aload_n 0, 1) := by decide +kernel
theorem d_Ac_init_13 : decode c_Ac_init 13 = .ok (.bipush 12, 2) := by decide +kernel
theorem d_Ac_init_15 : decode c_Ac_init 15 = .ok (.newarray .int, 2) := by decide +kernel
theorem d_Ac_init_17 : decode c_Ac_init 17 = .ok (.putfield 15, 3) := by decide +kernel
theorem d_Ac_init_20 : decode c_Ac_init 20 = .ok (.aload_n 0, 1) := by decide +kernel
theorem d_Ac_init_21 : decode c_Ac_init 21 = .ok (.bipush 12, 2) := by decide +kernel
theorem d_Ac_init_23 : decode c_Ac_init 23 = .ok (.newarray .int, 2) := by decide +kernel
theorem d_Ac_init_25 : decode c_Ac_init 25 = .ok (.putfield 18, 3) := by decide +kernel
theorem d_Ac_init_28 : decode c_Ac_init 28 = .ok (.aload_n 0, 1) := by decide +kernel
theorem d_Ac_init_29 : decode c_Ac_init 29 = .ok (.bipush 12, 2) := by decide +kernel
theorem d_Ac_init_31 : decode c_Ac_init 31 = .ok (.newarray .int, 2) := by decide +kernel
theorem d_Ac_init_33 : decode c_Ac_init 33 = .ok (.putfield 21, 3) := by decide +kernel
theorem d_Ac_init_36 : decode c_Ac_init 36 = .ok (.aload_n 0, 1) := by decide +kernel
theorem d_Ac_init_37 : decode c_Ac_init 37 = .ok (.bipush 12, 2) := by decide +kernel
theorem d_Ac_init_39 : decode c_Ac_init 39 = .ok (.newarray .int, 2) := by decide +kernel
theorem d_Ac_init_41 : decode c_Ac_init 41 = .ok (.putfield 24, 3) := by decide +kernel
theorem d_Ac_init_44 : decode c_Ac_init 44 = .ok (.return_, 1) := by decide +kernel
theorem d_Ac_isQualifier_0 : decode c_Ac_isQualifier 0 = .ok (.iload_n 0, 1) := by decide +kernel
theorem d_Ac_isQualifier_1 : decode c_Ac_isQualifier 1 = .ok (.ifCond .lt 13, 3) := by decide +kernel
theorem d_Ac_isQualifier_4 : decode c_Ac_isQualifier 4 = .ok (.iload_n 0, 1) := by decide +kernel
theorem d_Ac_isQualifier_5 : decode c_Ac_isQualifier 5 = .ok (.bipush 9, 2) := by decide +kernel
theorem d_Ac_isQualifier_7 : decode c_Ac_isQualifier 7 = .ok (.if_icmp .gt 7, 3) := by decide +kernel
theorem d_Ac_isQualifier_10 : decode c_Ac_isQualifier 10 = .ok (.iconst 1, 1) := by decide +kernel
theorem d_Ac_isQualifier_11 : decode c_Ac_isQualifier 11 = .ok (.goto 4, 3) := by decide +kernel
theorem d_Ac_isQualifier_14 : decode c_Ac_isQualifier 14 = .ok (.iconst 0, 1) := by decide +kernel
theorem d_Ac_isQualifier_15 : decode c_Ac_isQualifier 15 = .ok (.ireturn, 1) := by decide +kernel
theorem d_Ac_add_0 : decode c_Ac_add 0 = .ok (.aload_n 0, 1) := by decide +kernel
theorem d_Ac_add_1 : decode c_Ac_add 1 = .ok (.dup, 1) := by decide +kernel
theorem d_Ac_add_2 : decode c_Ac_add 2 = .ok (.getfield 27, 3) := by decide +kernel
theorem d_Ac_add_5 : decode c_Ac_add 5 = .ok (.dup_x1, 1) := by decide +kernel
theorem d_Ac_add_6 : decode c_Ac_add 6 = .ok (.iconst 1, 1) := by decide +kernel
theorem d_Ac_add_7 : decode c_Ac_add 7 = .ok (.iadd, 1) := by decide +kernel
theorem d_Ac_add_8 : decode c_Ac_add 8 = .ok (.putfield 27, 3) := by decide +kernel
theorem d_Ac_add_11 : decode c_Ac_add 11 = .ok (.istore 5, 2) := by decide +kernel
theorem d_Ac_add_13 : decode c_Ac_add 13 = .ok (.aload_n 0, 1) := by decide +kernel
theorem d_Ac_add_14 : decode c_Ac_add 14 = .ok (.getfield 9, 3) := by decide +kernel
theorem d_Ac_add_17 : decode c_Ac_add 17 = .ok (.iload 5, 2) := by decide +kernel
theorem d_Ac_add_19 : decode c_Ac_add 19 = .ok (.iload_n 1, 1) := by decide +kernel
theorem d_Ac_add_20 : decode c_Ac_add 20 = .ok (.iastore, 1) := by decide +kernel
theorem d_Ac_add_21 : decode c_Ac_add 21 = .ok (.aload_n 0, 1) := by decide +kernel
theorem d_Ac_add_22 : decode c_Ac_add 22 = .ok (.getfield 15, 3) := by decide +kernel
theorem d_Ac_add_25 : decode c_Ac_add 25 = .ok (.iload 5, 2) := by decide +kernel
theorem d_Ac_add_27 : decode c_Ac_add 27 = .ok (.iload_n 2, 1) := by decide +kernel
theorem d_Ac_add_28 : decode c_Ac_add 28 = .ok (.iastore, 1) := by decide +kernel
theorem d_Ac_add_29 : decode c_Ac_add 29 = .ok (.aload_n 0, 1) := by decide +kernel
theorem d_Ac_add_30 : decode c_Ac_add 30 = .ok (.getfield 18, 3) := by decide +kernel
theorem d_Ac_add_33 : decode c_Ac_add 33 = .ok (.iload 5, 2) := by decide +kernel
theorem d_Ac_add_35 : decode c_Ac_add 35 = .ok (.iload_n 3, 1) := by decide +kernel
theorem d_Ac_add_36 : decode c_Ac_add 36 = .ok (.iastore, 1) := by decide +kernel
theorem d_Ac_add_37 : decode c_Ac_add 37 = .ok (.aload_n 0, 1) := by decide +kernel
theorem d_Ac_add_38 : decode c_Ac_add 38 = .ok (.getfield 21, 3) := by decide +kernel
theorem d_Ac_add_41 : decode c_Ac_add 41 = .ok (.iload 5, 2) := by decide +kernel
theorem d_Ac_add_43 : decode c_Ac_add 43 = .ok (.iload 4, 2) := by decide +kernel
theorem d_Ac_add_45 : decode c_Ac_add 45 = .ok (.iastore, 1) := by decide +kernel
theorem d_Ac_add_46 : decode c_Ac_add 46 = .ok (.iload 5, 2) := by decide +kernel
theorem d_Ac_add_48 : decode c_Ac_add 48 = .ok (.ireturn, 1) := by decide +kernel
theorem d_Ac_isStored_0 : decode c_Ac_isStored 0 = .ok (.iload_n 1, 1) := by decide +kernel
theorem d_Ac_isStored_1 : decode c_Ac_isStored 1 = .ok (.ifCond .lt 26, 3) := by decide +kernel
theorem d_Ac_isStored_4 : decode c_Ac_isStored 4 = .ok (.iload_n 1, 1) := by decide +kernel
theorem d_Ac_isStored_5 : decode c_Ac_isStored 5 = .ok (.aload_n 0, 1) := by decide +kernel
theorem d_Ac_isStored_6 : decode c_Ac_isStored 6 = .ok (.getfield 27, 3) := by decide +kernel
theorem d_Ac_isStored_9 : decode c_Ac_isStored 9 = .ok (.if_icmp .ge 18, 3) := by decide +kernel
theorem d_Ac_isStored_12 : decode c_Ac_isStored 12 = .ok (.iload_n 1, 1) := by decide +kernel
theorem d_Ac_isStored_13 : decode c_Ac_isStored 13 = .ok (.aload_n 0, 1) := by decide +kernel
theorem d_Ac_isStored_14 : decode c_Ac_isStored 14 = .ok (.getfield 31, 3) := by decide +kernel
theorem d_Ac_isStored_17 : decode c_Ac_isStored 17 = .ok (.invokestatic 34, 3) := by decide +kernel
theorem d_Ac_isStored_20 : decode c_Ac_isStored 20 = .ok (.ifCond .eq 7, 3) := by decide +kernel
theorem d_Ac_isStored_23 : decode c_Ac_isStored 23 = .ok (.iconst 1, 1) := by decide +kernel
theorem d_Ac_isStored_24 : decode c_Ac_isStored 24 = .ok (.goto 4, 3) := by decide +kernel
theorem d_Ac_isStored_27 : decode c_Ac_isStored 27 = .ok (.iconst 0, 1) := by decide +kernel
theorem d_Ac_isStored_28 : decode c_Ac_isStored 28 = .ok (.ireturn, 1) := by decide +kernel
theorem d_Ac_forgetStored_0 : decode c_Ac_forgetStored 0 = .ok (.aload_n 0, 1) := by decide +kernel
theorem d_Ac_forgetStored_1 : decode c_Ac_forgetStored 1 = .ok (.iconst 0, 1) := by decide +kernel
theorem d_Ac_forgetStored_2 : decode c_Ac_forgetStored 2 = .ok (.putfield 31, 3) := by decide +kernel
theorem d_Ac_forgetStored_5 : decode c_Ac_forgetStored 5 = .ok (.return_, 1) := by decide +kernel
theorem d_Ac_grow_0 : decode c_Ac_grow 0 = .ok (.iconst 0, 1) := by decide +kernel
theorem d_Ac_grow_1 : decode c_Ac_grow 1 = .ok (.istore_n 2, 1) := by decide +kernel
theorem d_Ac_grow_2 : decode c_Ac_grow 2 = .ok (.iload_n 2, 1) := by decide +kernel
theorem d_Ac_grow_3 : decode c_Ac_grow 3 = .ok (.aload_n 0, 1) := by decide +kernel
theorem d_Ac_grow_4 : decode c_Ac_grow 4 = .ok (.getfield 27, 3) := by decide +kernel
theorem d_Ac_grow_7 : decode c_Ac_grow 7 = .ok (.if_icmp .ge 30, 3) := by decide +kernel
theorem d_Ac_grow_10 : decode c_Ac_grow 10 = .ok (.iload_n 2, 1) := by decide +kernel
theorem d_Ac_grow_11 : decode c_Ac_grow 11 = .ok (.aload_n 0, 1) := by decide +kernel
theorem d_Ac_grow_12 : decode c_Ac_grow 12 = .ok (.getfield 31, 3) := by decide +kernel
theorem d_Ac_grow_15 : decode c_Ac_grow 15 = .ok (.invokestatic 34, 3) := by decide +kernel
theorem d_Ac_grow_18 : decode c_Ac_grow 18 = .ok (.ifCond .eq 13, 3) := by decide +kernel
theorem d_Ac_grow_21 : decode c_Ac_grow 21 = .ok (.aload_n 0, 1) := by decide +kernel
theorem d_Ac_grow_22 : decode c_Ac_grow 22 = .ok (.getfield 24, 3) := by decide +kernel
theorem d_Ac_grow_25 : decode c_Ac_grow 25 = .ok (.iload_n 2, 1) := by decide +kernel
theorem d_Ac_grow_26 : decode c_Ac_grow 26 = .ok (.dup2, 1) := by decide +kernel
theorem d_Ac_grow_27 : decode c_Ac_grow 27 = .ok (.iaload, 1) := by decide +kernel
theorem d_Ac_grow_28 : decode c_Ac_grow 28 = .ok (.iload_n 1, 1) := by decide +kernel
theorem d_Ac_grow_29 : decode c_Ac_grow 29 = .ok (.iadd, 1) := by decide +kernel
theorem d_Ac_grow_30 : decode c_Ac_grow 30 = .ok (.iastore, 1) := by decide +kernel
theorem d_Ac_grow_31 : decode c_Ac_grow 31 = .ok (.iinc 2 1, 3) := by decide +kernel
theorem d_Ac_grow_34 : decode c_Ac_grow 34 = .ok (.goto (-32), 3) := by decide +kernel
theorem d_Ac_grow_37 : decode c_Ac_grow 37 = .ok (.return_, 1) := by decide +kernel
theorem d_Ac_workOut_0 : decode c_Ac_workOut 0 = .ok (.aload_n 0, 1) := by decide +kernel
theorem d_Ac_workOut_1 : decode c_Ac_workOut 1 = .ok (.iload_n 1, 1) := by decide +kernel
theorem d_Ac_workOut_2 : decode c_Ac_workOut 2 = .ok (.invokevirtual 38, 3) := by decide +kernel
theorem d_Ac_workOut_5 : decode c_Ac_workOut 5 = .ok (.istore 4, 2) := by decide +kernel
theorem d_Ac_workOut_7 : decode c_Ac_workOut 7 = .ok (.iconst 0, 1) := by decide +kernel
theorem d_Ac_workOut_8 : decode c_Ac_workOut 8 = .ok (.istore 5, 2) := by decide +kernel
theorem d_Ac_workOut_10 : decode c_Ac_workOut 10 = .ok (.iconst 0, 1) := by decide +kernel
theorem d_Ac_workOut_11 : decode c_Ac_workOut 11 = .ok (.istore 6, 2) := by decide +kernel
theorem d_Ac_workOut_13 : decode c_Ac_workOut 13 = .ok (.iload 6, 2) := by decide +kernel
theorem d_Ac_workOut_15 : decode c_Ac_workOut 15 = .ok (.aload_n 0, 1) := by decide +kernel
theorem d_Ac_workOut_16 : decode c_Ac_workOut 16 = .ok (.getfield 27, 3) := by decide +kernel
theorem d_Ac_workOut_19 : decode c_Ac_workOut 19 = .ok (.if_icmp .ge 89, 3) := by decide +kernel
theorem d_Ac_workOut_22 : decode c_Ac_workOut 22 = .ok (.aload_n 0, 1) := by decide +kernel
theorem d_Ac_workOut_23 : decode c_Ac_workOut 23 = .ok (.getfield 9, 3) := by decide +kernel
theorem d_Ac_workOut_26 : decode c_Ac_workOut 26 = .ok (.iload 6, 2) := by decide +kernel
theorem d_Ac_workOut_28 : decode c_Ac_workOut 28 = .ok (.iaload, 1) := by decide +kernel
theorem d_Ac_workOut_29 : decode c_Ac_workOut 29 = .ok (.istore 7, 2) := by decide +kernel
theorem d_Ac_workOut_31 : decode c_Ac_workOut 31 = .ok (.iload 7, 2) := by decide +kernel
theorem d_Ac_workOut_33 : decode c_Ac_workOut 33 = .ok (.iload_n 1, 1) := by decide +kernel
theorem d_Ac_workOut_34 : decode c_Ac_workOut 34 = .ok (.invokestatic 34, 3) := by decide +kernel
theorem d_Ac_workOut_37 : decode c_Ac_workOut 37 = .ok (.istore 8, 2) := by decide +kernel
theorem d_Ac_workOut_39 : decode c_Ac_workOut 39 = .ok (.iload 7, 2) := by decide +kernel
theorem d_Ac_workOut_41 : decode c_Ac_workOut 41 = .ok (.iload_n 2, 1) := by decide +kernel
theorem d_Ac_workOut_42 : decode c_Ac_workOut 42 = .ok (.invokestatic 34, 3) := by decide +kernel
theorem d_Ac_workOut_45 : decode c_Ac_workOut 45 = .ok (.istore 9, 2) := by decide +kernel
theorem d_Ac_workOut_47 : decode c_Ac_workOut 47 = .ok (.aload_n 0, 1) := by decide +kernel
theorem d_Ac_workOut_48 : decode c_Ac_workOut 48 = .ok (.iload 6, 2) := by decide +kernel
theorem d_Ac_workOut_50 : decode c_Ac_workOut 50 = .ok (.aload_n 0, 1) := by decide +kernel
theorem d_Ac_workOut_51 : decode c_Ac_workOut 51 = .ok (.getfield 18, 3) := by decide +kernel
theorem d_Ac_workOut_54 : decode c_Ac_workOut 54 = .ok (.iload 6, 2) := by decide +kernel
theorem d_Ac_workOut_56 : decode c_Ac_workOut 56 = .ok (.iaload, 1) := by decide +kernel
theorem d_Ac_workOut_57 : decode c_Ac_workOut 57 = .ok (.iload 4, 2) := by decide +kernel
theorem d_Ac_workOut_59 : decode c_Ac_workOut 59 = .ok (.invokestatic 34, 3) := by decide +kernel
theorem d_Ac_workOut_62 : decode c_Ac_workOut 62 = .ok (.iload 8, 2) := by decide +kernel
theorem d_Ac_workOut_64 : decode c_Ac_workOut 64 = .ok (.aload_n 3, 1) := by decide +kernel
theorem d_Ac_workOut_65 : decode c_Ac_workOut 65 = .ok (.iload 7, 2) := by decide +kernel
theorem d_Ac_workOut_67 : decode c_Ac_workOut 67 = .ok (.iaload, 1) := by decide +kernel
theorem d_Ac_workOut_68 : decode c_Ac_workOut 68 = .ok (.invokevirtual 42, 3) := by decide +kernel
theorem d_Ac_workOut_71 : decode c_Ac_workOut 71 = .ok (.aload_n 0, 1) := by decide +kernel
theorem d_Ac_workOut_72 : decode c_Ac_workOut 72 = .ok (.iload 6, 2) := by decide +kernel
theorem d_Ac_workOut_74 : decode c_Ac_workOut 74 = .ok (.iload 8, 2) := by decide +kernel
theorem d_Ac_workOut_76 : decode c_Ac_workOut 76 = .ok (.iload 9, 2) := by decide +kernel
theorem d_Ac_workOut_78 : decode c_Ac_workOut 78 = .ok (.aload_n 3, 1) := by decide +kernel
theorem d_Ac_workOut_79 : decode c_Ac_workOut 79 = .ok (.iload 7, 2) := by decide +kernel
theorem d_Ac_workOut_81 : decode c_Ac_workOut 81 = .ok (.iaload, 1) := by decide +kernel
theorem d_Ac_workOut_82 : decode c_Ac_workOut 82 = .ok (.invokevirtual 46, 3) := by decide +kernel
theorem d_Ac_workOut_85 : decode c_Ac_workOut 85 = .ok (.ifCond .eq 17, 3) := by decide +kernel
theorem d_Ac_workOut_88 : decode c_Ac_workOut 88 = .ok (.iload 5, 2) := by decide +kernel
theorem d_Ac_workOut_90 : decode c_Ac_workOut 90 = .ok (.iconst 1, 1) := by decide +kernel
theorem d_Ac_workOut_91 : decode c_Ac_workOut 91 = .ok (.aload_n 0, 1) := by decide +kernel
theorem d_Ac_workOut_92 : decode c_Ac_workOut 92 = .ok (.getfield 18, 3) := by decide +kernel
theorem d_Ac_workOut_95 : decode c_Ac_workOut 95 = .ok (.iload 6, 2) := by decide +kernel
theorem d_Ac_workOut_97 : decode c_Ac_workOut 97 = .ok (.iaload, 1) := by decide +kernel
theorem d_Ac_workOut_98 : decode c_Ac_workOut 98 = .ok (.ishl, 1) := by decide +kernel
theorem d_Ac_workOut_99 : decode c_Ac_workOut 99 = .ok (.ior, 1) := by decide +kernel
theorem d_Ac_workOut_100 : decode c_Ac_workOut 100 = .ok (.istore 5, 2) := by decide +kernel
theorem d_Ac_workOut_102 : decode c_Ac_workOut 102 = .ok (.iinc 6 1, 3) := by decide +kernel
theorem d_Ac_workOut_105 : decode c_Ac_workOut 105 = .ok (.goto (-92), 3) := by decide +kernel
theorem d_Ac_workOut_108 : decode c_Ac_workOut 108 = .ok (.iload 5, 2) := by decide +kernel
theorem d_Ac_workOut_110 : decode c_Ac_workOut 110 = .ok (.iload 4, 2) := by decide +kernel
theorem d_Ac_workOut_112 : decode c_Ac_workOut 112 = .ok (.iconst (-1), 1) := by decide +kernel
theorem d_Ac_workOut_113 : decode c_Ac_workOut 113 = .ok (.ixor, 1) := by decide +kernel
theorem d_Ac_workOut_114 : decode c_Ac_workOut 114 = .ok (.iand, 1) := by decide +kernel
theorem d_Ac_workOut_115 : decode c_Ac_workOut 115 = .ok (.ireturn, 1) := by decide +kernel
theorem d_Ac_resetVariables_0 : decode c_Ac_resetVariables 0 = .ok (.iconst 0, 1) := by decide +kernel
theorem d_Ac_resetVariables_1 : decode c_Ac_resetVariables 1 = .ok (.istore_n 2, 1) := by decide +kernel
theorem d_Ac_resetVariables_2 : decode c_Ac_resetVariables 2 = .ok (.iconst 0, 1) := by decide +kernel
theorem d_Ac_resetVariables_3 : decode c_Ac_resetVariables 3 = .ok (.istore_n 3, 1) := by decide +kernel
theorem d_Ac_resetVariables_4 : decode c_Ac_resetVariables 4 = .ok (.iload_n 3, 1) := by decide +kernel
theorem d_Ac_resetVariables_5 : decode c_Ac_resetVariables 5 = .ok (.aload_n 0, 1) := by decide +kernel
theorem d_Ac_resetVariables_6 : decode c_Ac_resetVariables 6 = .ok (.getfield 27, 3) := by decide +kernel
theorem d_Ac_resetVariables_9 : decode c_Ac_resetVariables 9 = .ok (.if_icmp .ge 43, 3) := by decide +kernel
theorem d_Ac_resetVariables_12 : decode c_Ac_resetVariables 12 = .ok (.aload_n 0, 1) := by decide +kernel
theorem d_Ac_resetVariables_13 : decode c_Ac_resetVariables 13 = .ok (.getfield 15, 3) := by decide +kernel
theorem d_Ac_resetVariables_16 : decode c_Ac_resetVariables 16 = .ok (.iload_n 3, 1) := by decide +kernel
theorem d_Ac_resetVariables_17 : decode c_Ac_resetVariables 17 = .ok (.iaload, 1) := by decide +kernel
theorem d_Ac_resetVariables_18 : decode c_Ac_resetVariables 18 = .ok (.iconst 1, 1) := by decide +kernel
theorem d_Ac_resetVariables_19 : decode c_Ac_resetVariables 19 = .ok (.if_icmp .ne 27, 3) := by decide +kernel
theorem d_Ac_resetVariables_22 : decode c_Ac_resetVariables 22 = .ok (.aload_n 0, 1) := by decide +kernel
theorem d_Ac_resetVariables_23 : decode c_Ac_resetVariables 23 = .ok (.getfield 9, 3) := by decide +kernel
theorem d_Ac_resetVariables_26 : decode c_Ac_resetVariables 26 = .ok (.iload_n 3, 1) := by decide +kernel
theorem d_Ac_resetVariables_27 : decode c_Ac_resetVariables 27 = .ok (.iaload, 1) := by decide +kernel
theorem d_Ac_resetVariables_28 : decode c_Ac_resetVariables 28 = .ok (.iload_n 1, 1) := by decide +kernel
theorem d_Ac_resetVariables_29 : decode c_Ac_resetVariables 29 = .ok (.invokestatic 34, 3) := by decide +kernel
theorem d_Ac_resetVariables_32 : decode c_Ac_resetVariables 32 = .ok (.ifCond .eq 14, 3) := by decide +kernel
theorem d_Ac_resetVariables_35 : decode c_Ac_resetVariables 35 = .ok (.iload_n 2, 1) := by decide +kernel
theorem d_Ac_resetVariables_36 : decode c_Ac_resetVariables 36 = .ok (.iconst 1, 1) := by decide +kernel
theorem d_Ac_resetVariables_37 : decode c_Ac_resetVariables 37 = .ok (.aload_n 0, 1) := by decide +kernel
theorem d_Ac_resetVariables_38 : decode c_Ac_resetVariables 38 = .ok (.getfield 18, 3) := by decide +kernel
theorem d_Ac_resetVariables_41 : decode c_Ac_resetVariables 41 = .ok (.iload_n 3, 1) := by decide +kernel
theorem d_Ac_resetVariables_42 : decode c_Ac_resetVariables 42 = .ok (.iaload, 1) := by decide +kernel
theorem d_Ac_resetVariables_43 : decode c_Ac_resetVariables 43 = .ok (.ishl, 1) := by decide +kernel
theorem d_Ac_resetVariables_44 : decode c_Ac_resetVariables 44 = .ok (.ior, 1) := by decide +kernel
theorem d_Ac_resetVariables_45 : decode c_Ac_resetVariables 45 = .ok (.istore_n 2, 1) := by decide +kernel
theorem d_Ac_resetVariables_46 : decode c_Ac_resetVariables 46 = .ok (.iinc 3 1, 3) := by decide +kernel
theorem d_Ac_resetVariables_49 : decode c_Ac_resetVariables 49 = .ok (.goto (-45), 3) := by decide +kernel
theorem d_Ac_resetVariables_52 : decode c_Ac_resetVariables 52 = .ok (.iload_n 2, 1) := by decide +kernel
theorem d_Ac_resetVariables_53 : decode c_Ac_resetVariables 53 = .ok (.ireturn, 1) := by decide +kernel
theorem d_Ac_store_0 : decode c_Ac_store 0 = .ok (.iload_n 2, 1) := by decide +kernel
theorem d_Ac_store_1 : decode c_Ac_store 1 = .ok (.ifCond .eq 20, 3) := by decide +kernel
theorem d_Ac_store_4 : decode c_Ac_store 4 = .ok (.aload_n 0, 1) := by decide +kernel
theorem d_Ac_store_5 : decode c_Ac_store 5 = .ok (.dup, 1) := by decide +kernel
theorem d_Ac_store_6 : decode c_Ac_store 6 = .ok (.getfield 31, 3) := by decide +kernel
theorem d_Ac_store_9 : decode c_Ac_store 9 = .ok (.iconst 1, 1) := by decide +kernel
theorem d_Ac_store_10 : decode c_Ac_store 10 = .ok (.iload_n 1, 1) := by decide +kernel
theorem d_Ac_store_11 : decode c_Ac_store 11 = .ok (.ishl, 1) := by decide +kernel
theorem d_Ac_store_12 : decode c_Ac_store 12 = .ok (.iconst (-1), 1) := by decide +kernel
theorem d_Ac_store_13 : decode c_Ac_store 13 = .ok (.ixor, 1) := by decide +kernel
theorem d_Ac_store_14 : decode c_Ac_store 14 = .ok (.iand, 1) := by decide +kernel
theorem d_Ac_store_15 : decode c_Ac_store 15 = .ok (.putfield 31, 3) := by decide +kernel
theorem d_Ac_store_18 : decode c_Ac_store 18 = .ok (.goto 47, 3) := by decide +kernel
theorem d_Ac_store_21 : decode c_Ac_store 21 = .ok (.iload_n 3, 1) := by decide +kernel
theorem d_Ac_store_22 : decode c_Ac_store 22 = .ok (.ifCond .eq 43, 3) := by decide +kernel
theorem d_Ac_store_25 : decode c_Ac_store 25 = .ok (.iload_n 1, 1) := by decide +kernel
theorem d_Ac_store_26 : decode c_Ac_store 26 = .ok (.aload_n 0, 1) := by decide +kernel
theorem d_Ac_store_27 : decode c_Ac_store 27 = .ok (.getfield 31, 3) := by decide +kernel
theorem d_Ac_store_30 : decode c_Ac_store 30 = .ok (.invokestatic 34, 3) := by decide +kernel
theorem d_Ac_store_33 : decode c_Ac_store 33 = .ok (.ifCond .ne 32, 3) := by decide +kernel
theorem d_Ac_store_36 : decode c_Ac_store 36 = .ok (.aload_n 0, 1) := by decide +kernel
theorem d_Ac_store_37 : decode c_Ac_store 37 = .ok (.iload_n 1, 1) := by decide +kernel
theorem d_Ac_store_38 : decode c_Ac_store 38 = .ok (.iload 4, 2) := by decide +kernel
theorem d_Ac_store_40 : decode c_Ac_store 40 = .ok (.invokevirtual 50, 3) := by decide +kernel
theorem d_Ac_store_43 : decode c_Ac_store 43 = .ok (.ifCond .eq 22, 3) := by decide +kernel
theorem d_Ac_store_46 : decode c_Ac_store 46 = .ok (.aload_n 0, 1) := by decide +kernel
theorem d_Ac_store_47 : decode c_Ac_store 47 = .ok (.dup, 1) := by decide +kernel
theorem d_Ac_store_48 : decode c_Ac_store 48 = .ok (.getfield 31, 3) := by decide +kernel
theorem d_Ac_store_51 : decode c_Ac_store 51 = .ok (.iconst 1, 1) := by decide +kernel
theorem d_Ac_store_52 : decode c_Ac_store 52 = .ok (.iload_n 1, 1) := by decide +kernel
theorem d_Ac_store_53 : decode c_Ac_store 53 = .ok (.ishl, 1) := by decide +kernel
theorem d_Ac_store_54 : decode c_Ac_store 54 = .ok (.ior, 1) := by decide +kernel
theorem d_Ac_store_55 : decode c_Ac_store 55 = .ok (.putfield 31, 3) := by decide +kernel
theorem d_Ac_store_58 : decode c_Ac_store 58 = .ok (.aload_n 0, 1) := by decide +kernel
theorem d_Ac_store_59 : decode c_Ac_store 59 = .ok (.getfield 24, 3) := by decide +kernel
theorem d_Ac_store_62 : decode c_Ac_store 62 = .ok (.iload_n 1, 1) := by decide +kernel
theorem d_Ac_store_63 : decode c_Ac_store 63 = .ok (.iconst 0, 1) := by decide +kernel
theorem d_Ac_store_64 : decode c_Ac_store 64 = .ok (.iastore, 1) := by decide +kernel
theorem d_Ac_store_65 : decode c_Ac_store 65 = .ok (.return_, 1) := by decide +kernel
theorem d_Ac_storesAt_0 : decode c_Ac_storesAt 0 = .ok (.aload_n 0, 1) := by decide +kernel
theorem d_Ac_storesAt_1 : decode c_Ac_storesAt 1 = .ok (.getfield 15, 3) := by decide +kernel
theorem d_Ac_storesAt_4 : decode c_Ac_storesAt 4 = .ok (.iload_n 1, 1) := by decide +kernel
theorem d_Ac_storesAt_5 : decode c_Ac_storesAt 5 = .ok (.iaload, 1) := by decide +kernel
theorem d_Ac_storesAt_6 : decode c_Ac_storesAt 6 = .ok (.tableswitch 64 2 9 #[46, 64, 64, 64, 64, 46, 48, 46], 46) := by decide +kernel
theorem d_Ac_storesAt_52 : decode c_Ac_storesAt 52 = .ok (.iconst 1, 1) := by decide +kernel
theorem d_Ac_storesAt_53 : decode c_Ac_storesAt 53 = .ok (.ireturn, 1) := by decide +kernel
theorem d_Ac_storesAt_54 : decode c_Ac_storesAt 54 = .ok (.iload_n 2, 1) := by decide +kernel
theorem d_Ac_storesAt_55 : decode c_Ac_storesAt 55 = .ok (.aload_n 0, 1) := by decide +kernel
theorem d_Ac_storesAt_56 : decode c_Ac_storesAt 56 = .ok (.getfield 21, 3) := by decide +kernel
theorem d_Ac_storesAt_59 : decode c_Ac_storesAt 59 = .ok (.iload_n 1, 1) := by decide +kernel
theorem d_Ac_storesAt_60 : decode c_Ac_storesAt 60 = .ok (.iaload, 1) := by decide +kernel
theorem d_Ac_storesAt_61 : decode c_Ac_storesAt 61 = .ok (.if_icmp .lt 7, 3) := by decide +kernel
theorem d_Ac_storesAt_64 : decode c_Ac_storesAt 64 = .ok (.iconst 1, 1) := by decide +kernel
theorem d_Ac_storesAt_65 : decode c_Ac_storesAt 65 = .ok (.goto 4, 3) := by decide +kernel
theorem d_Ac_storesAt_68 : decode c_Ac_storesAt 68 = .ok (.iconst 0, 1) := by decide +kernel
theorem d_Ac_storesAt_69 : decode c_Ac_storesAt 69 = .ok (.ireturn, 1) := by decide +kernel
theorem d_Ac_storesAt_70 : decode c_Ac_storesAt 70 = .ok (.iconst 0, 1) := by decide +kernel
theorem d_Ac_storesAt_71 : decode c_Ac_storesAt 71 = .ok (.ireturn, 1) := by decide +kernel
theorem d_Ac_isOn_0 : decode c_Ac_isOn 0 = .ok (.iload_n 1, 1) := by decide +kernel
theorem d_Ac_isOn_1 : decode c_Ac_isOn 1 = .ok (.aload_n 0, 1) := by decide +kernel
theorem d_Ac_isOn_2 : decode c_Ac_isOn 2 = .ok (.getfield 31, 3) := by decide +kernel
theorem d_Ac_isOn_5 : decode c_Ac_isOn 5 = .ok (.invokestatic 34, 3) := by decide +kernel
theorem d_Ac_isOn_8 : decode c_Ac_isOn 8 = .ok (.istore 5, 2) := by decide +kernel
theorem d_Ac_isOn_10 : decode c_Ac_isOn 10 = .ok (.aload_n 0, 1) := by decide +kernel
theorem d_Ac_isOn_11 : decode c_Ac_isOn 11 = .ok (.getfield 21, 3) := by decide +kernel
theorem d_Ac_isOn_14 : decode c_Ac_isOn 14 = .ok (.iload_n 1, 1) := by decide +kernel
theorem d_Ac_isOn_15 : decode c_Ac_isOn 15 = .ok (.iaload, 1) := by decide +kernel
theorem d_Ac_isOn_16 : decode c_Ac_isOn 16 = .ok (.istore 6, 2) := by decide +kernel
theorem d_Ac_isOn_18 : decode c_Ac_isOn 18 = .ok (.aload_n 0, 1) := by decide +kernel
theorem d_Ac_isOn_19 : decode c_Ac_isOn 19 = .ok (.getfield 15, 3) := by decide +kernel
theorem d_Ac_isOn_22 : decode c_Ac_isOn 22 = .ok (.iload_n 1, 1) := by decide +kernel
theorem d_Ac_isOn_23 : decode c_Ac_isOn 23 = .ok (.iaload, 1) := by decide +kernel
theorem d_Ac_isOn_24 : decode c_Ac_isOn 24 = .ok (.tableswitch 167 0 9 #[56, 167, 58, 61, 78, 95, 109, 123, 58, 145], 56) := by decide +kernel
theorem d_Ac_isOn_80 : decode c_Ac_isOn 80 = .ok (.iload_n 2, 1) := by decide +kernel
theorem d_Ac_isOn_81 : decode c_Ac_isOn 81 = .ok (.ireturn, 1) := by decide +kernel
theorem d_Ac_isOn_82 : decode c_Ac_isOn 82 = .ok (.iload 5, 2) := by decide +kernel
theorem d_Ac_isOn_84 : decode c_Ac_isOn 84 = .ok (.ireturn, 1) := by decide +kernel
theorem d_Ac_isOn_85 : decode c_Ac_isOn 85 = .ok (.iload_n 2, 1) := by decide +kernel
theorem d_Ac_isOn_86 : decode c_Ac_isOn 86 = .ok (.ifCond .eq 14, 3) := by decide +kernel
theorem d_Ac_isOn_89 : decode c_Ac_isOn 89 = .ok (.iload 4, 2) := by decide +kernel
theorem d_Ac_isOn_91 : decode c_Ac_isOn 91 = .ok (.iload 6, 2) := by decide +kernel
theorem d_Ac_isOn_93 : decode c_Ac_isOn 93 = .ok (.if_icmp .ge 7, 3) := by decide +kernel
theorem d_Ac_isOn_96 : decode c_Ac_isOn 96 = .ok (.iconst 1, 1) := by decide +kernel
theorem d_Ac_isOn_97 : decode c_Ac_isOn 97 = .ok (.goto 4, 3) := by decide +kernel
theorem d_Ac_isOn_100 : decode c_Ac_isOn 100 = .ok (.iconst 0, 1) := by decide +kernel
theorem d_Ac_isOn_101 : decode c_Ac_isOn 101 = .ok (.ireturn, 1) := by decide +kernel
theorem d_Ac_isOn_102 : decode c_Ac_isOn 102 = .ok (.iload_n 2, 1) := by decide +kernel
theorem d_Ac_isOn_103 : decode c_Ac_isOn 103 = .ok (.ifCond .eq 14, 3) := by decide +kernel
theorem d_Ac_isOn_106 : decode c_Ac_isOn 106 = .ok (.iload 4, 2) := by decide +kernel
theorem d_Ac_isOn_108 : decode c_Ac_isOn 108 = .ok (.iload 6, 2) := by decide +kernel
theorem d_Ac_isOn_110 : decode c_Ac_isOn 110 = .ok (.if_icmp .lt 7, 3) := by decide +kernel
theorem d_Ac_isOn_113 : decode c_Ac_isOn 113 = .ok (.iconst 1, 1) := by decide +kernel
theorem d_Ac_isOn_114 : decode c_Ac_isOn 114 = .ok (.goto 4, 3) := by decide +kernel
theorem d_Ac_isOn_117 : decode c_Ac_isOn 117 = .ok (.iconst 0, 1) := by decide +kernel
theorem d_Ac_isOn_118 : decode c_Ac_isOn 118 = .ok (.ireturn, 1) := by decide +kernel
theorem d_Ac_isOn_119 : decode c_Ac_isOn 119 = .ok (.iload_n 2, 1) := by decide +kernel
theorem d_Ac_isOn_120 : decode c_Ac_isOn 120 = .ok (.ifCond .eq 11, 3) := by decide +kernel
theorem d_Ac_isOn_123 : decode c_Ac_isOn 123 = .ok (.iload_n 3, 1) := by decide +kernel
theorem d_Ac_isOn_124 : decode c_Ac_isOn 124 = .ok (.ifCond .ne 7, 3) := by decide +kernel
theorem d_Ac_isOn_127 : decode c_Ac_isOn 127 = .ok (.iconst 1, 1) := by decide +kernel
theorem d_Ac_isOn_128 : decode c_Ac_isOn 128 = .ok (.goto 4, 3) := by decide +kernel
theorem d_Ac_isOn_131 : decode c_Ac_isOn 131 = .ok (.iconst 0, 1) := by decide +kernel
theorem d_Ac_isOn_132 : decode c_Ac_isOn 132 = .ok (.ireturn, 1) := by decide +kernel
theorem d_Ac_isOn_133 : decode c_Ac_isOn 133 = .ok (.iload_n 3, 1) := by decide +kernel
theorem d_Ac_isOn_134 : decode c_Ac_isOn 134 = .ok (.ifCond .eq 11, 3) := by decide +kernel
theorem d_Ac_isOn_137 : decode c_Ac_isOn 137 = .ok (.iload_n 2, 1) := by decide +kernel
theorem d_Ac_isOn_138 : decode c_Ac_isOn 138 = .ok (.ifCond .ne 7, 3) := by decide +kernel
theorem d_Ac_isOn_141 : decode c_Ac_isOn 141 = .ok (.iconst 1, 1) := by decide +kernel
theorem d_Ac_isOn_142 : decode c_Ac_isOn 142 = .ok (.goto 4, 3) := by decide +kernel
theorem d_Ac_isOn_145 : decode c_Ac_isOn 145 = .ok (.iconst 0, 1) := by decide +kernel
theorem d_Ac_isOn_146 : decode c_Ac_isOn 146 = .ok (.ireturn, 1) := by decide +kernel
theorem d_Ac_isOn_147 : decode c_Ac_isOn 147 = .ok (.iload 5, 2) := by decide +kernel
theorem d_Ac_isOn_149 : decode c_Ac_isOn 149 = .ok (.ifCond .eq 18, 3) := by decide +kernel
theorem d_Ac_isOn_152 : decode c_Ac_isOn 152 = .ok (.aload_n 0, 1) := by decide +kernel
theorem d_Ac_isOn_153 : decode c_Ac_isOn 153 = .ok (.getfield 24, 3) := by decide +kernel
theorem d_Ac_isOn_156 : decode c_Ac_isOn 156 = .ok (.iload_n 1, 1) := by decide +kernel
theorem d_Ac_isOn_157 : decode c_Ac_isOn 157 = .ok (.iaload, 1) := by decide +kernel
theorem d_Ac_isOn_158 : decode c_Ac_isOn 158 = .ok (.iload 6, 2) := by decide +kernel
theorem d_Ac_isOn_160 : decode c_Ac_isOn 160 = .ok (.if_icmp .lt 7, 3) := by decide +kernel
theorem d_Ac_isOn_163 : decode c_Ac_isOn 163 = .ok (.iconst 1, 1) := by decide +kernel
theorem d_Ac_isOn_164 : decode c_Ac_isOn 164 = .ok (.goto 4, 3) := by decide +kernel
theorem d_Ac_isOn_167 : decode c_Ac_isOn 167 = .ok (.iconst 0, 1) := by decide +kernel
theorem d_Ac_isOn_168 : decode c_Ac_isOn 168 = .ok (.ireturn, 1) := by decide +kernel
theorem d_Ac_isOn_169 : decode c_Ac_isOn 169 = .ok (.iload 5, 2) := by decide +kernel
theorem d_Ac_isOn_171 : decode c_Ac_isOn 171 = .ok (.ifCond .eq 18, 3) := by decide +kernel
theorem d_Ac_isOn_174 : decode c_Ac_isOn 174 = .ok (.aload_n 0, 1) := by decide +kernel
theorem d_Ac_isOn_175 : decode c_Ac_isOn 175 = .ok (.getfield 24, 3) := by decide +kernel
theorem d_Ac_isOn_178 : decode c_Ac_isOn 178 = .ok (.iload_n 1, 1) := by decide +kernel
theorem d_Ac_isOn_179 : decode c_Ac_isOn 179 = .ok (.iaload, 1) := by decide +kernel
theorem d_Ac_isOn_180 : decode c_Ac_isOn 180 = .ok (.iload 6, 2) := by decide +kernel
theorem d_Ac_isOn_182 : decode c_Ac_isOn 182 = .ok (.if_icmp .ge 7, 3) := by decide +kernel
theorem d_Ac_isOn_185 : decode c_Ac_isOn 185 = .ok (.iconst 1, 1) := by decide +kernel
theorem d_Ac_isOn_186 : decode c_Ac_isOn 186 = .ok (.goto 4, 3) := by decide +kernel
theorem d_Ac_isOn_189 : decode c_Ac_isOn 189 = .ok (.iconst 0, 1) := by decide +kernel
theorem d_Ac_isOn_190 : decode c_Ac_isOn 190 = .ok (.ireturn, 1) := by decide +kernel
theorem d_Ac_isOn_191 : decode c_Ac_isOn 191 = .ok (.iconst 0, 1) := by decide +kernel
theorem d_Ac_isOn_192 : decode c_Ac_isOn 192 = .ok (.ireturn, 1) := by decide +kernel
end
section
/-! tables of meanings and their soundness, by program -/
abbrev rm_Fc_isLine : Room := { frames := 0, cells := 0, slots := 0, locals := 0 }
def ws_Fc_isLine : List Cond := .code y_Fc_isLine c_Fc_isLine 1 (some .boolean) :: TB
abbrev MC_Fc_isLine (κ : fx_K) : List fx_V → fx_S → (Int32 → fx_S → Prop) → Prop := fx_Met κ.1 κ.2.1 vwCl κ.2.2.1 κ.2.2.2 lyX nwl y_Fc_isLine ws_Fc_isLine rm_Fc_isLine true
def tt_Fc_isLine (κ : fx_K) (post : Int32 → fx_S → Prop) : List (Nat × fx_M fx_S) := [(0, fm_load 0 1),
  (1, fm_iflt 14 4),
  (4, fm_load 0 5),
  (5, fm_const 8 7),
  (7, fm_cmpge 14 10),
  (10, fm_const 1 11),
  (11, fm_goto 15),
  (14, fm_const 0 15),
  (15, fm_zret post)]
set_option maxHeartbeats 4000000 in
set_option maxRecDepth 100000 in
theorem mo_Fc_isLine {κ : fx_K} (hq : fx_I κ lyX.length) {av : List fx_V} {S : fx_S} {post : Int32 → fx_S → Prop} (hlen : av.length ≤ 1) (body : ∀ J : fx_J fx_S, (∀ r ∈ tt_Fc_isLine κ post, fx_Snd J r.1 r.2) → (∀ pc k ls st S, J pc (ls.take k) st S → J pc ls st S) → J 0 av [] S) : MC_Fc_isLine κ av S post := by
  refine fx_Met_of (cc := c_Fc_isLine) (nL := 1) (ret := (some .boolean)) (by decide) rfl hq hlen ?_
  intro p e s m args below meth c hC hr hnw
  refine body _ ?_ fx_W_take
  have hF := hC.1
  have hts := hC.1.2.2.2.2
  have hm : ∀ {w : Cond}, w ∈ TB → w.before args s = true := fun h => hts _ (List.mem_cons_of_mem _ h)
  refine List.forall_mem_cons.mpr ⟨fs_load_n hF d_Fc_isLine_0 rfl, ?_⟩
  refine List.forall_mem_cons.mpr ⟨fs_iflt hF d_Fc_isLine_1 (by decide), ?_⟩
  refine List.forall_mem_cons.mpr ⟨fs_load_n hF d_Fc_isLine_4 rfl, ?_⟩
  refine List.forall_mem_cons.mpr ⟨fs_bipush hF d_Fc_isLine_5 (by decide), ?_⟩
  refine List.forall_mem_cons.mpr ⟨fs_cmpge hF d_Fc_isLine_7 (by decide), ?_⟩
  refine List.forall_mem_cons.mpr ⟨fs_const hF d_Fc_isLine_10 (by decide), ?_⟩
  refine List.forall_mem_cons.mpr ⟨fs_goto hF d_Fc_isLine_11 (by decide), ?_⟩
  refine List.forall_mem_cons.mpr ⟨fs_const hF d_Fc_isLine_14 (by decide), ?_⟩
  refine List.forall_mem_cons.mpr ⟨fs_zret hC hr d_Fc_isLine_15, ?_⟩
  exact fun _ h => absurd h List.not_mem_nil
abbrev rm_Fc_isSpan : Room := { frames := 0, cells := 0, slots := 0, locals := 0 }
def ws_Fc_isSpan : List Cond := .code y_Fc_isSpan c_Fc_isSpan 1 (some .boolean) :: TB
abbrev MC_Fc_isSpan (κ : fx_K) : List fx_V → fx_S → (Int32 → fx_S → Prop) → Prop := fx_Met κ.1 κ.2.1 vwCl κ.2.2.1 κ.2.2.2 lyX nwl y_Fc_isSpan ws_Fc_isSpan rm_Fc_isSpan true
def tt_Fc_isSpan (κ : fx_K) (post : Int32 → fx_S → Prop) : List (Nat × fx_M fx_S) := [(0, fm_load 0 1),
  (1, fm_iflt 14 4),
  (4, fm_load 0 5),
  (5, fm_const 1000000 7),
  (7, fm_cmpgt 14 10),
  (10, fm_const 1 11),
  (11, fm_goto 15),
  (14, fm_const 0 15),
  (15, fm_zret post)]
set_option maxHeartbeats 4000000 in
set_option maxRecDepth 100000 in
theorem mo_Fc_isSpan {κ : fx_K} (hq : fx_I κ lyX.length) {av : List fx_V} {S : fx_S} {post : Int32 → fx_S → Prop} (hlen : av.length ≤ 1) (body : ∀ J : fx_J fx_S, (∀ r ∈ tt_Fc_isSpan κ post, fx_Snd J r.1 r.2) → (∀ pc k ls st S, J pc (ls.take k) st S → J pc ls st S) → J 0 av [] S) : MC_Fc_isSpan κ av S post := by
  refine fx_Met_of (cc := c_Fc_isSpan) (nL := 1) (ret := (some .boolean)) (by decide) rfl hq hlen ?_
  intro p e s m args below meth c hC hr hnw
  refine body _ ?_ fx_W_take
  have hF := hC.1
  have hts := hC.1.2.2.2.2
  have hm : ∀ {w : Cond}, w ∈ TB → w.before args s = true := fun h => hts _ (List.mem_cons_of_mem _ h)
  refine List.forall_mem_cons.mpr ⟨fs_load_n hF d_Fc_isSpan_0 rfl, ?_⟩
  refine List.forall_mem_cons.mpr ⟨fs_iflt hF d_Fc_isSpan_1 (by decide), ?_⟩
  refine List.forall_mem_cons.mpr ⟨fs_load_n hF d_Fc_isSpan_4 rfl, ?_⟩
  refine List.forall_mem_cons.mpr ⟨fs_ldc hF (hm wd_296) d_Fc_isSpan_5, ?_⟩
  refine List.forall_mem_cons.mpr ⟨fs_cmpgt hF d_Fc_isSpan_7 (by decide), ?_⟩
  refine List.forall_mem_cons.mpr ⟨fs_const hF d_Fc_isSpan_10 (by decide), ?_⟩
  refine List.forall_mem_cons.mpr ⟨fs_goto hF d_Fc_isSpan_11 (by decide), ?_⟩
  refine List.forall_mem_cons.mpr ⟨fs_const hF d_Fc_isSpan_14 (by decide), ?_⟩
  refine List.forall_mem_cons.mpr ⟨fs_zret hC hr d_Fc_isSpan_15, ?_⟩
  exact fun _ h => absurd h List.not_mem_nil
abbrev rm_Fc_isIn : Room := { frames := 0, cells := 0, slots := 0, locals := 0 }
def ws_Fc_isIn : List Cond := .code y_Fc_isIn c_Fc_isIn 2 (some .boolean) :: TB
abbrev MC_Fc_isIn (κ : fx_K) : List fx_V → fx_S → (Int32 → fx_S → Prop) → Prop := fx_Met κ.1 κ.2.1 vwCl κ.2.2.1 κ.2.2.2 lyX nwl y_Fc_isIn ws_Fc_isIn rm_Fc_isIn true
def tt_Fc_isIn (κ : fx_K) (post : Int32 → fx_S → Prop) : List (Nat × fx_M fx_S) := [(0, fm_load 1 1),
  (1, fm_load 0 2),
  (2, fm_ishr 3),
  (3, fm_const 1 4),
  (4, fm_iand 5),
  (5, fm_ifeq 12 8),
  (8, fm_const 1 9),
  (9, fm_goto 13),
  (12, fm_const 0 13),
  (13, fm_zret post)]
set_option maxHeartbeats 4000000 in
set_option maxRecDepth 100000 in
theorem mo_Fc_isIn {κ : fx_K} (hq : fx_I κ lyX.length) {av : List fx_V} {S : fx_S} {post : Int32 → fx_S → Prop} (hlen : av.length ≤ 2) (body : ∀ J : fx_J fx_S, (∀ r ∈ tt_Fc_isIn κ post, fx_Snd J r.1 r.2) → (∀ pc k ls st S, J pc (ls.take k) st S → J pc ls st S) → J 0 av [] S) : MC_Fc_isIn κ av S post := by
  refine fx_Met_of (cc := c_Fc_isIn) (nL := 2) (ret := (some .boolean)) (by decide) rfl hq hlen ?_
  intro p e s m args below meth c hC hr hnw
  refine body _ ?_ fx_W_take
  have hF := hC.1
  have hts := hC.1.2.2.2.2
  have hm : ∀ {w : Cond}, w ∈ TB → w.before args s = true := fun h => hts _ (List.mem_cons_of_mem _ h)
  refine List.forall_mem_cons.mpr ⟨fs_load_n hF d_Fc_isIn_0 rfl, ?_⟩
  refine List.forall_mem_cons.mpr ⟨fs_load_n hF d_Fc_isIn_1 rfl, ?_⟩
  refine List.forall_mem_cons.mpr ⟨fs_ishr hF d_Fc_isIn_2, ?_⟩
  refine List.forall_mem_cons.mpr ⟨fs_const hF d_Fc_isIn_3 (by decide), ?_⟩
  refine List.forall_mem_cons.mpr ⟨fs_iand hF d_Fc_isIn_4, ?_⟩
  refine List.forall_mem_cons.mpr ⟨fs_ifeq hF d_Fc_isIn_5 (by decide), ?_⟩
  refine List.forall_mem_cons.mpr ⟨fs_const hF d_Fc_isIn_8 (by decide), ?_⟩
  refine List.forall_mem_cons.mpr ⟨fs_goto hF d_Fc_isIn_9 (by decide), ?_⟩
  refine List.forall_mem_cons.mpr ⟨fs_const hF d_Fc_isIn_12 (by decide), ?_⟩
  refine List.forall_mem_cons.mpr ⟨fs_zret hC hr d_Fc_isIn_13, ?_⟩
  exact fun _ h => absurd h List.not_mem_nil
abbrev rm_St_add : Room := { frames := 0, cells := 0, slots := 0, locals := 0 }
def ws_St_add : List Cond := .code y_St_add c_St_add 4 (some .int) :: TB
abbrev MC_St_add (κ : fx_K) : List fx_V → fx_S → (Int32 → fx_S → Prop) → Prop := fx_Met κ.1 κ.2.1 vwCl κ.2.2.1 κ.2.2.2 lyX nwl y_St_add ws_St_add rm_St_add true
def tt_St_add (κ : fx_K) (post : Int32 → fx_S → Prop) : List (Nat × fx_M fx_S) := [(0, fm_loada 0 1),
  (1, fm_dup 2),
  (2, fm_get 1 2 5),
  (5, fm_dupx1 6),
  (6, fm_const 1 7),
  (7, fm_iadd 8),
  (8, fm_put 1 2 11),
  (11, fm_store 3 12),
  (12, fm_loada 0 13),
  (13, fm_getr 1 8 16),
  (16, fm_load 3 17),
  (17, fm_load 1 18),
  (18, fm_ast lnXI 19),
  (19, fm_loada 0 20),
  (20, fm_getr 1 9 23),
  (23, fm_load 1 24),
  (24, fm_dup2 25),
  (25, fm_ald lnXI 26),
  (26, fm_const 1 27),
  (27, fm_load 3 28),
  (28, fm_ishl 29),
  (29, fm_ior 30),
  (30, fm_ast lnXI 31),
  (31, fm_load 2 32),
  (32, fm_ifeq 47 35),
  (35, fm_loada 0 36),
  (36, fm_dup 37),
  (37, fm_get 1 3 40),
  (40, fm_const 1 41),
  (41, fm_load 3 42),
  (42, fm_ishl 43),
  (43, fm_ior 44),
  (44, fm_put 1 3 47),
  (47, fm_load 3 48),
  (48, fm_ret post)]
set_option maxHeartbeats 4000000 in
set_option maxRecDepth 100000 in
theorem mo_St_add {κ : fx_K} (hq : fx_I κ lyX.length) {av : List fx_V} {S : fx_S} {post : Int32 → fx_S → Prop} (hlen : av.length ≤ 4) (body : ∀ J : fx_J fx_S, (∀ r ∈ tt_St_add κ post, fx_Snd J r.1 r.2) → (∀ pc k ls st S, J pc (ls.take k) st S → J pc ls st S) → J 0 av [] S) : MC_St_add κ av S post := by
  refine fx_Met_of (cc := c_St_add) (nL := 4) (ret := (some .int)) (by decide) rfl hq hlen ?_
  intro p e s m args below meth c hC hr hnw
  refine body _ ?_ fx_W_take
  have hF := hC.1
  have hts := hC.1.2.2.2.2
  have hm : ∀ {w : Cond}, w ∈ TB → w.before args s = true := fun h => hts _ (List.mem_cons_of_mem _ h)
  have g18 : ∀ (Q : State → Prop) (pc : Nat), decode c_St_add pc = .ok (.getfield 18, 3) → fx_Snd (fx_W p κ.1 e rm_St_add s m args below meth c Q (fx_A κ.2.2.2 lyX.length) 0 0 (fx_P κ.2.1 vwCl κ.2.2.1 κ.2.2.2 lyX) κ.2.2.2 4) pc (fm_get 1 2 (pc + 3)) := fun Q pc hd => fs_get hC (cN := 1) (j := 2) (ci := 1) (C := R_St) (T := T_St) (N := 4) rfl rfl rfl (by decide) (fun w h => List.mem_cons_of_mem _ (in_St w h)) (hm wd_59) hd
  have g9 : ∀ (Q : State → Prop) (pc : Nat), decode c_St_add pc = .ok (.getfield 9, 3) → fx_Snd (fx_W p κ.1 e rm_St_add s m args below meth c Q (fx_A κ.2.2.2 lyX.length) 0 0 (fx_P κ.2.1 vwCl κ.2.2.1 κ.2.2.2 lyX) κ.2.2.2 4) pc (fm_getr 1 8 (pc + 3)) := fun Q pc hd => fs_getr hC (cN := 1) (j := 0) (ci := 1) (C := R_St) (T := T_St) (N := 4) rfl rfl rfl (by decide) (fun w h => List.mem_cons_of_mem _ (in_St w h)) (hm wd_55) hd
  have g15 : ∀ (Q : State → Prop) (pc : Nat), decode c_St_add pc = .ok (.getfield 15, 3) → fx_Snd (fx_W p κ.1 e rm_St_add s m args below meth c Q (fx_A κ.2.2.2 lyX.length) 0 0 (fx_P κ.2.1 vwCl κ.2.2.1 κ.2.2.2 lyX) κ.2.2.2 4) pc (fm_getr 1 9 (pc + 3)) := fun Q pc hd => fs_getr hC (cN := 1) (j := 1) (ci := 1) (C := R_St) (T := T_St) (N := 4) rfl rfl rfl (by decide) (fun w h => List.mem_cons_of_mem _ (in_St w h)) (hm wd_57) hd
  have g22 : ∀ (Q : State → Prop) (pc : Nat), decode c_St_add pc = .ok (.getfield 22, 3) → fx_Snd (fx_W p κ.1 e rm_St_add s m args below meth c Q (fx_A κ.2.2.2 lyX.length) 0 0 (fx_P κ.2.1 vwCl κ.2.2.1 κ.2.2.2 lyX) κ.2.2.2 4) pc (fm_get 1 3 (pc + 3)) := fun Q pc hd => fs_get hC (cN := 1) (j := 3) (ci := 1) (C := R_St) (T := T_St) (N := 4) rfl rfl rfl (by decide) (fun w h => List.mem_cons_of_mem _ (in_St w h)) (hm wd_61) hd
  refine List.forall_mem_cons.mpr ⟨fs_loada_n hF d_St_add_0 rfl, ?_⟩
  refine List.forall_mem_cons.mpr ⟨fs_dup hF d_St_add_1, ?_⟩
  refine List.forall_mem_cons.mpr ⟨g18 _ 2 d_St_add_2, ?_⟩
  refine List.forall_mem_cons.mpr ⟨fs_dupx1 hF d_St_add_5, ?_⟩
  refine List.forall_mem_cons.mpr ⟨fs_const hF d_St_add_6 (by decide), ?_⟩
  refine List.forall_mem_cons.mpr ⟨fs_iadd hF d_St_add_7, ?_⟩
  refine List.forall_mem_cons.mpr ⟨fs_put hC (cN := 1) (j := 2) (ci := 1) (C := R_St) (T := T_St) (N := 4) rfl rfl rfl (by decide) ty_St tk_St nm_St rfl (by decide +kernel) (fun w h => List.mem_cons_of_mem _ (in_St w h)) (hm wd_59) d_St_add_8, ?_⟩
  refine List.forall_mem_cons.mpr ⟨fs_store_n hF d_St_add_11 rfl (by decide), ?_⟩
  refine List.forall_mem_cons.mpr ⟨fs_loada_n hF d_St_add_12 rfl, ?_⟩
  refine List.forall_mem_cons.mpr ⟨g9 _ 13 d_St_add_13, ?_⟩
  refine List.forall_mem_cons.mpr ⟨fs_load_n hF d_St_add_16 rfl, ?_⟩
  refine List.forall_mem_cons.mpr ⟨fs_load_n hF d_St_add_17 rfl, ?_⟩
  refine List.forall_mem_cons.mpr ⟨fs_ast hC lkXI d_St_add_18, ?_⟩
  refine List.forall_mem_cons.mpr ⟨fs_loada_n hF d_St_add_19 rfl, ?_⟩
  refine List.forall_mem_cons.mpr ⟨g15 _ 20 d_St_add_20, ?_⟩
  refine List.forall_mem_cons.mpr ⟨fs_load_n hF d_St_add_23 rfl, ?_⟩
  refine List.forall_mem_cons.mpr ⟨fs_dup2 hF d_St_add_24, ?_⟩
  refine List.forall_mem_cons.mpr ⟨fs_ald hC lkXI d_St_add_25, ?_⟩
  refine List.forall_mem_cons.mpr ⟨fs_const hF d_St_add_26 (by decide), ?_⟩
  refine List.forall_mem_cons.mpr ⟨fs_load_n hF d_St_add_27 rfl, ?_⟩
  refine List.forall_mem_cons.mpr ⟨fs_ishl hF d_St_add_28, ?_⟩
  refine List.forall_mem_cons.mpr ⟨fs_ior hF d_St_add_29, ?_⟩
  refine List.forall_mem_cons.mpr ⟨fs_ast hC lkXI d_St_add_30, ?_⟩
  refine List.forall_mem_cons.mpr ⟨fs_load_n hF d_St_add_31 rfl, ?_⟩
  refine List.forall_mem_cons.mpr ⟨fs_ifeq hF d_St_add_32 (by decide), ?_⟩
  refine List.forall_mem_cons.mpr ⟨fs_loada_n hF d_St_add_35 rfl, ?_⟩
  refine List.forall_mem_cons.mpr ⟨fs_dup hF d_St_add_36, ?_⟩
  refine List.forall_mem_cons.mpr ⟨g22 _ 37 d_St_add_37, ?_⟩
  refine List.forall_mem_cons.mpr ⟨fs_const hF d_St_add_40 (by decide), ?_⟩
  refine List.forall_mem_cons.mpr ⟨fs_load_n hF d_St_add_41 rfl, ?_⟩
  refine List.forall_mem_cons.mpr ⟨fs_ishl hF d_St_add_42, ?_⟩
  refine List.forall_mem_cons.mpr ⟨fs_ior hF d_St_add_43, ?_⟩
  refine List.forall_mem_cons.mpr ⟨fs_put hC (cN := 1) (j := 3) (ci := 1) (C := R_St) (T := T_St) (N := 4) rfl rfl rfl (by decide) ty_St tk_St nm_St rfl (by decide +kernel) (fun w h => List.mem_cons_of_mem _ (in_St w h)) (hm wd_61) d_St_add_44, ?_⟩
  refine List.forall_mem_cons.mpr ⟨fs_load_n hF d_St_add_47 rfl, ?_⟩
  refine List.forall_mem_cons.mpr ⟨fs_ret hC hr d_St_add_48, ?_⟩
  exact fun _ h => absurd h List.not_mem_nil
abbrev rm_St_has : Room := { frames := 0, cells := 0, slots := 0, locals := 0 }
def ws_St_has : List Cond := .code y_St_has c_St_has 2 (some .boolean) :: TB
abbrev MC_St_has (κ : fx_K) : List fx_V → fx_S → (Int32 → fx_S → Prop) → Prop := fx_Met κ.1 κ.2.1 vwCl κ.2.2.1 κ.2.2.2 lyX nwl y_St_has ws_St_has rm_St_has true
def tt_St_has (κ : fx_K) (post : Int32 → fx_S → Prop) : List (Nat × fx_M fx_S) := [(0, fm_load 1 1),
  (1, fm_iflt 16 4),
  (4, fm_load 1 5),
  (5, fm_loada 0 6),
  (6, fm_get 1 2 9),
  (9, fm_cmpge 16 12),
  (12, fm_const 1 13),
  (13, fm_goto 17),
  (16, fm_const 0 17),
  (17, fm_zret post)]
set_option maxHeartbeats 4000000 in
set_option maxRecDepth 100000 in
theorem mo_St_has {κ : fx_K} (hq : fx_I κ lyX.length) {av : List fx_V} {S : fx_S} {post : Int32 → fx_S → Prop} (hlen : av.length ≤ 2) (body : ∀ J : fx_J fx_S, (∀ r ∈ tt_St_has κ post, fx_Snd J r.1 r.2) → (∀ pc k ls st S, J pc (ls.take k) st S → J pc ls st S) → J 0 av [] S) : MC_St_has κ av S post := by
  refine fx_Met_of (cc := c_St_has) (nL := 2) (ret := (some .boolean)) (by decide) rfl hq hlen ?_
  intro p e s m args below meth c hC hr hnw
  refine body _ ?_ fx_W_take
  have hF := hC.1
  have hts := hC.1.2.2.2.2
  have hm : ∀ {w : Cond}, w ∈ TB → w.before args s = true := fun h => hts _ (List.mem_cons_of_mem _ h)
  have g18 : ∀ (Q : State → Prop) (pc : Nat), decode c_St_has pc = .ok (.getfield 18, 3) → fx_Snd (fx_W p κ.1 e rm_St_has s m args below meth c Q (fx_A κ.2.2.2 lyX.length) 0 0 (fx_P κ.2.1 vwCl κ.2.2.1 κ.2.2.2 lyX) κ.2.2.2 2) pc (fm_get 1 2 (pc + 3)) := fun Q pc hd => fs_get hC (cN := 1) (j := 2) (ci := 1) (C := R_St) (T := T_St) (N := 4) rfl rfl rfl (by decide) (fun w h => List.mem_cons_of_mem _ (in_St w h)) (hm wd_59) hd
  refine List.forall_mem_cons.mpr ⟨fs_load_n hF d_St_has_0 rfl, ?_⟩
  refine List.forall_mem_cons.mpr ⟨fs_iflt hF d_St_has_1 (by decide), ?_⟩
  refine List.forall_mem_cons.mpr ⟨fs_load_n hF d_St_has_4 rfl, ?_⟩
  refine List.forall_mem_cons.mpr ⟨fs_loada_n hF d_St_has_5 rfl, ?_⟩
  refine List.forall_mem_cons.mpr ⟨g18 _ 6 d_St_has_6, ?_⟩
  refine List.forall_mem_cons.mpr ⟨fs_cmpge hF d_St_has_9 (by decide), ?_⟩
  refine List.forall_mem_cons.mpr ⟨fs_const hF d_St_has_12 (by decide), ?_⟩
  refine List.forall_mem_cons.mpr ⟨fs_goto hF d_St_has_13 (by decide), ?_⟩
  refine List.forall_mem_cons.mpr ⟨fs_const hF d_St_has_16 (by decide), ?_⟩
  refine List.forall_mem_cons.mpr ⟨fs_zret hC hr d_St_has_17, ?_⟩
  exact fun _ h => absurd h List.not_mem_nil
abbrev rm_St_all : Room := { frames := 0, cells := 0, slots := 0, locals := 0 }
def ws_St_all : List Cond := .code y_St_all c_St_all 1 (some .int) :: TB
abbrev MC_St_all (κ : fx_K) : List fx_V → fx_S → (Int32 → fx_S → Prop) → Prop := fx_Met κ.1 κ.2.1 vwCl κ.2.2.1 κ.2.2.2 lyX nwl y_St_all ws_St_all rm_St_all true
def tt_St_all (κ : fx_K) (post : Int32 → fx_S → Prop) : List (Nat × fx_M fx_S) := [(0, fm_const 1 1),
  (1, fm_loada 0 2),
  (2, fm_get 1 2 5),
  (5, fm_ishl 6),
  (6, fm_const 1 7),
  (7, fm_isub 8),
  (8, fm_ret post)]
set_option maxHeartbeats 4000000 in
set_option maxRecDepth 100000 in
theorem mo_St_all {κ : fx_K} (hq : fx_I κ lyX.length) {av : List fx_V} {S : fx_S} {post : Int32 → fx_S → Prop} (hlen : av.length ≤ 1) (body : ∀ J : fx_J fx_S, (∀ r ∈ tt_St_all κ post, fx_Snd J r.1 r.2) → (∀ pc k ls st S, J pc (ls.take k) st S → J pc ls st S) → J 0 av [] S) : MC_St_all κ av S post := by
  refine fx_Met_of (cc := c_St_all) (nL := 1) (ret := (some .int)) (by decide) rfl hq hlen ?_
  intro p e s m args below meth c hC hr hnw
  refine body _ ?_ fx_W_take
  have hF := hC.1
  have hts := hC.1.2.2.2.2
  have hm : ∀ {w : Cond}, w ∈ TB → w.before args s = true := fun h => hts _ (List.mem_cons_of_mem _ h)
  have g18 : ∀ (Q : State → Prop) (pc : Nat), decode c_St_all pc = .ok (.getfield 18, 3) → fx_Snd (fx_W p κ.1 e rm_St_all s m args below meth c Q (fx_A κ.2.2.2 lyX.length) 0 0 (fx_P κ.2.1 vwCl κ.2.2.1 κ.2.2.2 lyX) κ.2.2.2 1) pc (fm_get 1 2 (pc + 3)) := fun Q pc hd => fs_get hC (cN := 1) (j := 2) (ci := 1) (C := R_St) (T := T_St) (N := 4) rfl rfl rfl (by decide) (fun w h => List.mem_cons_of_mem _ (in_St w h)) (hm wd_59) hd
  refine List.forall_mem_cons.mpr ⟨fs_const hF d_St_all_0 (by decide), ?_⟩
  refine List.forall_mem_cons.mpr ⟨fs_loada_n hF d_St_all_1 rfl, ?_⟩
  refine List.forall_mem_cons.mpr ⟨g18 _ 2 d_St_all_2, ?_⟩
  refine List.forall_mem_cons.mpr ⟨fs_ishl hF d_St_all_5, ?_⟩
  refine List.forall_mem_cons.mpr ⟨fs_const hF d_St_all_6 (by decide), ?_⟩
  refine List.forall_mem_cons.mpr ⟨fs_isub hF d_St_all_7, ?_⟩
  refine List.forall_mem_cons.mpr ⟨fs_ret hC hr d_St_all_8, ?_⟩
  exact fun _ h => absurd h List.not_mem_nil
abbrev rm_St_partWithAll : Room := { frames := 0, cells := 0, slots := 0, locals := 0 }
def ws_St_partWithAll : List Cond := .code y_St_partWithAll c_St_partWithAll 3 (some .int) :: TB
abbrev MC_St_partWithAll (κ : fx_K) : List fx_V → fx_S → (Int32 → fx_S → Prop) → Prop := fx_Met κ.1 κ.2.1 vwCl κ.2.2.1 κ.2.2.2 lyX nwl y_St_partWithAll ws_St_partWithAll rm_St_partWithAll true
def tt_St_partWithAll (κ : fx_K) (post : Int32 → fx_S → Prop) : List (Nat × fx_M fx_S) := [(0, fm_const 0 1),
  (1, fm_store 2 2),
  (2, fm_load 2 3),
  (3, fm_const 3 4),
  (4, fm_cmpge 28 7),
  (7, fm_load 1 8),
  (8, fm_loada 0 9),
  (9, fm_getr 1 9 12),
  (12, fm_load 2 13),
  (13, fm_ald lnXI 14),
  (14, fm_const (-1) 15),
  (15, fm_ixor 16),
  (16, fm_iand 17),
  (17, fm_ifne 22 20),
  (20, fm_load 2 21),
  (21, fm_ret post),
  (22, fm_inc 2 1 25),
  (25, fm_goto 2),
  (28, fm_const (-1) 29),
  (29, fm_ret post)]
set_option maxHeartbeats 4000000 in
set_option maxRecDepth 100000 in
theorem mo_St_partWithAll {κ : fx_K} (hq : fx_I κ lyX.length) {av : List fx_V} {S : fx_S} {post : Int32 → fx_S → Prop} (hlen : av.length ≤ 3) (body : ∀ J : fx_J fx_S, (∀ r ∈ tt_St_partWithAll κ post, fx_Snd J r.1 r.2) → (∀ pc k ls st S, J pc (ls.take k) st S → J pc ls st S) → J 0 av [] S) : MC_St_partWithAll κ av S post := by
  refine fx_Met_of (cc := c_St_partWithAll) (nL := 3) (ret := (some .int)) (by decide) rfl hq hlen ?_
  intro p e s m args below meth c hC hr hnw
  refine body _ ?_ fx_W_take
  have hF := hC.1
  have hts := hC.1.2.2.2.2
  have hm : ∀ {w : Cond}, w ∈ TB → w.before args s = true := fun h => hts _ (List.mem_cons_of_mem _ h)
  have g15 : ∀ (Q : State → Prop) (pc : Nat), decode c_St_partWithAll pc = .ok (.getfield 15, 3) → fx_Snd (fx_W p κ.1 e rm_St_partWithAll s m args below meth c Q (fx_A κ.2.2.2 lyX.length) 0 0 (fx_P κ.2.1 vwCl κ.2.2.1 κ.2.2.2 lyX) κ.2.2.2 3) pc (fm_getr 1 9 (pc + 3)) := fun Q pc hd => fs_getr hC (cN := 1) (j := 1) (ci := 1) (C := R_St) (T := T_St) (N := 4) rfl rfl rfl (by decide) (fun w h => List.mem_cons_of_mem _ (in_St w h)) (hm wd_57) hd
  refine List.forall_mem_cons.mpr ⟨fs_const hF d_St_partWithAll_0 (by decide), ?_⟩
  refine List.forall_mem_cons.mpr ⟨fs_store_n hF d_St_partWithAll_1 rfl (by decide), ?_⟩
  refine List.forall_mem_cons.mpr ⟨fs_load_n hF d_St_partWithAll_2 rfl, ?_⟩
  refine List.forall_mem_cons.mpr ⟨fs_const hF d_St_partWithAll_3 (by decide), ?_⟩
  refine List.forall_mem_cons.mpr ⟨fs_cmpge hF d_St_partWithAll_4 (by decide), ?_⟩
  refine List.forall_mem_cons.mpr ⟨fs_load_n hF d_St_partWithAll_7 rfl, ?_⟩
  refine List.forall_mem_cons.mpr ⟨fs_loada_n hF d_St_partWithAll_8 rfl, ?_⟩
  refine List.forall_mem_cons.mpr ⟨g15 _ 9 d_St_partWithAll_9, ?_⟩
  refine List.forall_mem_cons.mpr ⟨fs_load_n hF d_St_partWithAll_12 rfl, ?_⟩
  refine List.forall_mem_cons.mpr ⟨fs_ald hC lkXI d_St_partWithAll_13, ?_⟩
  refine List.forall_mem_cons.mpr ⟨fs_const hF d_St_partWithAll_14 (by decide), ?_⟩
  refine List.forall_mem_cons.mpr ⟨fs_ixor hF d_St_partWithAll_15, ?_⟩
  refine List.forall_mem_cons.mpr ⟨fs_iand hF d_St_partWithAll_16, ?_⟩
  refine List.forall_mem_cons.mpr ⟨fs_ifne hF d_St_partWithAll_17 (by decide), ?_⟩
  refine List.forall_mem_cons.mpr ⟨fs_load_n hF d_St_partWithAll_20 rfl, ?_⟩
  refine List.forall_mem_cons.mpr ⟨fs_ret hC hr d_St_partWithAll_21, ?_⟩
  refine List.forall_mem_cons.mpr ⟨fs_inc hF d_St_partWithAll_22 (by decide) (by decide), ?_⟩
  refine List.forall_mem_cons.mpr ⟨fs_goto hF d_St_partWithAll_25 (by decide), ?_⟩
  refine List.forall_mem_cons.mpr ⟨fs_const hF d_St_partWithAll_28 (by decide), ?_⟩
  refine List.forall_mem_cons.mpr ⟨fs_ret hC hr d_St_partWithAll_29, ?_⟩
  exact fun _ h => absurd h List.not_mem_nil
abbrev rm_Ti_begin : Room := { frames := 1, cells := 0, slots := 0, locals := 21 }
def ws_Ti_begin : List Cond := .code y_Ti_begin c_Ti_begin 5 none :: TB
abbrev MC_Ti_begin (κ : fx_K) : List fx_V → fx_S → (Int32 → fx_S → Prop) → Prop := fx_Met κ.1 κ.2.1 vwCl κ.2.2.1 κ.2.2.2 lyX nwl y_Ti_begin ws_Ti_begin rm_Ti_begin false
def tt_Ti_begin (κ : fx_K) (post : Int32 → fx_S → Prop) : List (Nat × fx_M fx_S) := [(0, fm_loada 0 1),
  (1, fm_load 1 2),
  (2, fm_put 6 5 5),
  (5, fm_loada 0 6),
  (6, fm_const 0 7),
  (7, fm_put 6 6 10),
  (10, fm_const 0 11),
  (11, fm_store 4 13),
  (13, fm_load 4 15),
  (15, fm_const 8 17),
  (17, fm_cmpge 74 20),
  (20, fm_loada 0 21),
  (21, fm_getr 6 26 24),
  (24, fm_load 4 26),
  (26, fm_loada 2 27),
  (27, fm_load 4 29),
  (29, fm_ald lnXI 30),
  (30, fm_load 3 31),
  (31, fm_iadd 32),
  (32, fm_ast lnXI 33),
  (33, fm_load 4 35),
  (35, fm_loada 0 36),
  (36, fm_get 6 5 39),
  (39, fm_calls true 2 (MC_Fc_isIn κ) 42),
  (42, fm_ifeq 68 45),
  (45, fm_loada 0 46),
  (46, fm_getr 6 26 49),
  (49, fm_load 4 51),
  (51, fm_ald lnXI 52),
  (52, fm_ifeq 68 55),
  (55, fm_loada 0 56),
  (56, fm_dup 57),
  (57, fm_get 6 6 60),
  (60, fm_const 1 61),
  (61, fm_load 4 63),
  (63, fm_ishl 64),
  (64, fm_ior 65),
  (65, fm_put 6 6 68),
  (68, fm_inc 4 1 71),
  (71, fm_goto 13),
  (74, fm_loada 0 75),
  (75, fm_const 0 76),
  (76, fm_put 6 7 79),
  (79, fm_loada 0 80),
  (80, fm_const 0 81),
  (81, fm_put 6 8 84),
  (84, fm_loada 0 85),
  (85, fm_const 0 86),
  (86, fm_put 6 9 89),
  (89, fm_loada 0 90),
  (90, fm_const 0 91),
  (91, fm_put 6 10 94),
  (94, fm_vret post)]
set_option maxHeartbeats 4000000 in
set_option maxRecDepth 100000 in
theorem mo_Ti_begin {κ : fx_K} (hq : fx_I κ lyX.length) {av : List fx_V} {S : fx_S} {post : Int32 → fx_S → Prop} (hlen : av.length ≤ 5) (body : ∀ J : fx_J fx_S, (∀ r ∈ tt_Ti_begin κ post, fx_Snd J r.1 r.2) → (∀ pc k ls st S, J pc (ls.take k) st S → J pc ls st S) → J 0 av [] S) : MC_Ti_begin κ av S post := by
  refine fx_Met_of (cc := c_Ti_begin) (nL := 5) (ret := none) (by decide) rfl hq hlen ?_
  intro p e s m args below meth c hC hr hnw
  refine body _ ?_ fx_W_take
  have hF := hC.1
  have hts := hC.1.2.2.2.2
  have hm : ∀ {w : Cond}, w ∈ TB → w.before args s = true := fun h => hts _ (List.mem_cons_of_mem _ h)
  have g9 : ∀ (Q : State → Prop) (pc : Nat), decode c_Ti_begin pc = .ok (.getfield 9, 3) → fx_Snd (fx_W p κ.1 e rm_Ti_begin s m args below meth c Q (fx_A κ.2.2.2 lyX.length) 0 0 (fx_P κ.2.1 vwCl κ.2.2.1 κ.2.2.2 lyX) κ.2.2.2 5) pc (fm_getr 6 26 (pc + 3)) := fun Q pc hd => fs_getr hC (cN := 6) (j := 0) (ci := 6) (C := R_Ti) (T := T_Ti) (N := 11) rfl rfl rfl (by decide) (fun w h => List.mem_cons_of_mem _ (in_Ti w h)) (hm wd_175) hd
  have g18 : ∀ (Q : State → Prop) (pc : Nat), decode c_Ti_begin pc = .ok (.getfield 18, 3) → fx_Snd (fx_W p κ.1 e rm_Ti_begin s m args below meth c Q (fx_A κ.2.2.2 lyX.length) 0 0 (fx_P κ.2.1 vwCl κ.2.2.1 κ.2.2.2 lyX) κ.2.2.2 5) pc (fm_get 6 5 (pc + 3)) := fun Q pc hd => fs_get hC (cN := 6) (j := 5) (ci := 6) (C := R_Ti) (T := T_Ti) (N := 11) rfl rfl rfl (by decide) (fun w h => List.mem_cons_of_mem _ (in_Ti w h)) (hm wd_183) hd
  have g22 : ∀ (Q : State → Prop) (pc : Nat), decode c_Ti_begin pc = .ok (.getfield 22, 3) → fx_Snd (fx_W p κ.1 e rm_Ti_begin s m args below meth c Q (fx_A κ.2.2.2 lyX.length) 0 0 (fx_P κ.2.1 vwCl κ.2.2.1 κ.2.2.2 lyX) κ.2.2.2 5) pc (fm_get 6 6 (pc + 3)) := fun Q pc hd => fs_get hC (cN := 6) (j := 6) (ci := 6) (C := R_Ti) (T := T_Ti) (N := 11) rfl rfl rfl (by decide) (fun w h => List.mem_cons_of_mem _ (in_Ti w h)) (hm wd_186) hd
  refine List.forall_mem_cons.mpr ⟨fs_loada_n hF d_Ti_begin_0 rfl, ?_⟩
  refine List.forall_mem_cons.mpr ⟨fs_load_n hF d_Ti_begin_1 rfl, ?_⟩
  refine List.forall_mem_cons.mpr ⟨fs_put hC (cN := 6) (j := 5) (ci := 6) (C := R_Ti) (T := T_Ti) (N := 11) rfl rfl rfl (by decide) ty_Ti tk_Ti nm_Ti rfl (by decide +kernel) (fun w h => List.mem_cons_of_mem _ (in_Ti w h)) (hm wd_183) d_Ti_begin_2, ?_⟩
  refine List.forall_mem_cons.mpr ⟨fs_loada_n hF d_Ti_begin_5 rfl, ?_⟩
  refine List.forall_mem_cons.mpr ⟨fs_const hF d_Ti_begin_6 (by decide), ?_⟩
  refine List.forall_mem_cons.mpr ⟨fs_put hC (cN := 6) (j := 6) (ci := 6) (C := R_Ti) (T := T_Ti) (N := 11) rfl rfl rfl (by decide) ty_Ti tk_Ti nm_Ti rfl (by decide +kernel) (fun w h => List.mem_cons_of_mem _ (in_Ti w h)) (hm wd_186) d_Ti_begin_7, ?_⟩
  refine List.forall_mem_cons.mpr ⟨fs_const hF d_Ti_begin_10 (by decide), ?_⟩
  refine List.forall_mem_cons.mpr ⟨fs_store hF d_Ti_begin_11 (by decide), ?_⟩
  refine List.forall_mem_cons.mpr ⟨fs_load hF d_Ti_begin_13, ?_⟩
  refine List.forall_mem_cons.mpr ⟨fs_bipush hF d_Ti_begin_15 (by decide), ?_⟩
  refine List.forall_mem_cons.mpr ⟨fs_cmpge hF d_Ti_begin_17 (by decide), ?_⟩
  refine List.forall_mem_cons.mpr ⟨fs_loada_n hF d_Ti_begin_20 rfl, ?_⟩
  refine List.forall_mem_cons.mpr ⟨g9 _ 21 d_Ti_begin_21, ?_⟩
  refine List.forall_mem_cons.mpr ⟨fs_load hF d_Ti_begin_24, ?_⟩
  refine List.forall_mem_cons.mpr ⟨fs_loada_n hF d_Ti_begin_26 rfl, ?_⟩
  refine List.forall_mem_cons.mpr ⟨fs_load hF d_Ti_begin_27, ?_⟩
  refine List.forall_mem_cons.mpr ⟨fs_ald hC lkXI d_Ti_begin_29, ?_⟩
  refine List.forall_mem_cons.mpr ⟨fs_load_n hF d_Ti_begin_30 rfl, ?_⟩
  refine List.forall_mem_cons.mpr ⟨fs_iadd hF d_Ti_begin_31, ?_⟩
  refine List.forall_mem_cons.mpr ⟨fs_ast hC lkXI d_Ti_begin_32, ?_⟩
  refine List.forall_mem_cons.mpr ⟨fs_load hF d_Ti_begin_33, ?_⟩
  refine List.forall_mem_cons.mpr ⟨fs_loada_n hF d_Ti_begin_35 rfl, ?_⟩
  refine List.forall_mem_cons.mpr ⟨g18 _ 36 d_Ti_begin_36, ?_⟩
  refine List.forall_mem_cons.mpr ⟨fs_callSN hC nwl_ok hnw ⟨va_cnB 2 hts (tb_good wd_369) rfl rfl rfl (hnw _ (List.mem_of_getElem? (i := 28) rfl)) (hm wd_32) pd_Fc_isIn ⟨Nat.le_of_ble_eq_true rfl, Nat.le_of_ble_eq_true rfl⟩, hm wd_368⟩ d_Ti_begin_39, ?_⟩
  refine List.forall_mem_cons.mpr ⟨fs_ifeq hF d_Ti_begin_42 (by decide), ?_⟩
  refine List.forall_mem_cons.mpr ⟨fs_loada_n hF d_Ti_begin_45 rfl, ?_⟩
  refine List.forall_mem_cons.mpr ⟨g9 _ 46 d_Ti_begin_46, ?_⟩
  refine List.forall_mem_cons.mpr ⟨fs_load hF d_Ti_begin_49, ?_⟩
  refine List.forall_mem_cons.mpr ⟨fs_ald hC lkXI d_Ti_begin_51, ?_⟩
  refine List.forall_mem_cons.mpr ⟨fs_ifeq hF d_Ti_begin_52 (by decide), ?_⟩
  refine List.forall_mem_cons.mpr ⟨fs_loada_n hF d_Ti_begin_55 rfl, ?_⟩
  refine List.forall_mem_cons.mpr ⟨fs_dup hF d_Ti_begin_56, ?_⟩
  refine List.forall_mem_cons.mpr ⟨g22 _ 57 d_Ti_begin_57, ?_⟩
  refine List.forall_mem_cons.mpr ⟨fs_const hF d_Ti_begin_60 (by decide), ?_⟩
  refine List.forall_mem_cons.mpr ⟨fs_load hF d_Ti_begin_61, ?_⟩
  refine List.forall_mem_cons.mpr ⟨fs_ishl hF d_Ti_begin_63, ?_⟩
  refine List.forall_mem_cons.mpr ⟨fs_ior hF d_Ti_begin_64, ?_⟩
  refine List.forall_mem_cons.mpr ⟨fs_put hC (cN := 6) (j := 6) (ci := 6) (C := R_Ti) (T := T_Ti) (N := 11) rfl rfl rfl (by decide) ty_Ti tk_Ti nm_Ti rfl (by decide +kernel) (fun w h => List.mem_cons_of_mem _ (in_Ti w h)) (hm wd_186) d_Ti_begin_65, ?_⟩
  refine List.forall_mem_cons.mpr ⟨fs_inc hF d_Ti_begin_68 (by decide) (by decide), ?_⟩
  refine List.forall_mem_cons.mpr ⟨fs_goto hF d_Ti_begin_71 (by decide), ?_⟩
  refine List.forall_mem_cons.mpr ⟨fs_loada_n hF d_Ti_begin_74 rfl, ?_⟩
  refine List.forall_mem_cons.mpr ⟨fs_const hF d_Ti_begin_75 (by decide), ?_⟩
  refine List.forall_mem_cons.mpr ⟨fs_put hC (cN := 6) (j := 7) (ci := 6) (C := R_Ti) (T := T_Ti) (N := 11) rfl rfl rfl (by decide) ty_Ti tk_Ti nm_Ti rfl (by decide +kernel) (fun w h => List.mem_cons_of_mem _ (in_Ti w h)) (hm wd_187) d_Ti_begin_76, ?_⟩
  refine List.forall_mem_cons.mpr ⟨fs_loada_n hF d_Ti_begin_79 rfl, ?_⟩
  refine List.forall_mem_cons.mpr ⟨fs_const hF d_Ti_begin_80 (by decide), ?_⟩
  refine List.forall_mem_cons.mpr ⟨fs_put hC (cN := 6) (j := 8) (ci := 6) (C := R_Ti) (T := T_Ti) (N := 11) rfl rfl rfl (by decide) ty_Ti tk_Ti nm_Ti rfl (by decide +kernel) (fun w h => List.mem_cons_of_mem _ (in_Ti w h)) (hm wd_189) d_Ti_begin_81, ?_⟩
  refine List.forall_mem_cons.mpr ⟨fs_loada_n hF d_Ti_begin_84 rfl, ?_⟩
  refine List.forall_mem_cons.mpr ⟨fs_const hF d_Ti_begin_85 (by decide), ?_⟩
  refine List.forall_mem_cons.mpr ⟨fs_put hC (cN := 6) (j := 9) (ci := 6) (C := R_Ti) (T := T_Ti) (N := 11) rfl rfl rfl (by decide) ty_Ti tk_Ti nm_Ti rfl (by decide +kernel) (fun w h => List.mem_cons_of_mem _ (in_Ti w h)) (hm wd_191) d_Ti_begin_86, ?_⟩
  refine List.forall_mem_cons.mpr ⟨fs_loada_n hF d_Ti_begin_89 rfl, ?_⟩
  refine List.forall_mem_cons.mpr ⟨fs_const hF d_Ti_begin_90 (by decide), ?_⟩
  refine List.forall_mem_cons.mpr ⟨fs_put hC (cN := 6) (j := 10) (ci := 6) (C := R_Ti) (T := T_Ti) (N := 11) rfl rfl rfl (by decide) ty_Ti tk_Ti nm_Ti rfl (by decide +kernel) (fun w h => List.mem_cons_of_mem _ (in_Ti w h)) (hm wd_193) d_Ti_begin_91, ?_⟩
  refine List.forall_mem_cons.mpr ⟨fs_vret hC hr d_Ti_begin_94, ?_⟩
  exact fun _ h => absurd h List.not_mem_nil
abbrev rm_Ti_sense : Room := { frames := 0, cells := 0, slots := 0, locals := 0 }
def ws_Ti_sense : List Cond := .code y_Ti_sense c_Ti_sense 3 none :: TB
abbrev MC_Ti_sense (κ : fx_K) : List fx_V → fx_S → (Int32 → fx_S → Prop) → Prop := fx_Met κ.1 κ.2.1 vwCl κ.2.2.1 κ.2.2.2 lyX nwl y_Ti_sense ws_Ti_sense rm_Ti_sense false
def tt_Ti_sense (κ : fx_K) (post : Int32 → fx_S → Prop) : List (Nat × fx_M fx_S) := [(0, fm_loada 0 1),
  (1, fm_load 2 2),
  (2, fm_put 6 2 5),
  (5, fm_loada 0 6),
  (6, fm_load 2 7),
  (7, fm_load 1 8),
  (8, fm_const (-1) 9),
  (9, fm_ixor 10),
  (10, fm_iand 11),
  (11, fm_put 6 3 14),
  (14, fm_loada 0 15),
  (15, fm_load 1 16),
  (16, fm_load 2 17),
  (17, fm_const (-1) 18),
  (18, fm_ixor 19),
  (19, fm_iand 20),
  (20, fm_put 6 4 23),
  (23, fm_vret post)]
set_option maxHeartbeats 4000000 in
set_option maxRecDepth 100000 in
theorem mo_Ti_sense {κ : fx_K} (hq : fx_I κ lyX.length) {av : List fx_V} {S : fx_S} {post : Int32 → fx_S → Prop} (hlen : av.length ≤ 3) (body : ∀ J : fx_J fx_S, (∀ r ∈ tt_Ti_sense κ post, fx_Snd J r.1 r.2) → (∀ pc k ls st S, J pc (ls.take k) st S → J pc ls st S) → J 0 av [] S) : MC_Ti_sense κ av S post := by
  refine fx_Met_of (cc := c_Ti_sense) (nL := 3) (ret := none) (by decide) rfl hq hlen ?_
  intro p e s m args below meth c hC hr hnw
  refine body _ ?_ fx_W_take
  have hF := hC.1
  have hts := hC.1.2.2.2.2
  have hm : ∀ {w : Cond}, w ∈ TB → w.before args s = true := fun h => hts _ (List.mem_cons_of_mem _ h)
  refine List.forall_mem_cons.mpr ⟨fs_loada_n hF d_Ti_sense_0 rfl, ?_⟩
  refine List.forall_mem_cons.mpr ⟨fs_load_n hF d_Ti_sense_1 rfl, ?_⟩
  refine List.forall_mem_cons.mpr ⟨fs_put hC (cN := 6) (j := 2) (ci := 6) (C := R_Ti) (T := T_Ti) (N := 11) rfl rfl rfl (by decide) ty_Ti tk_Ti nm_Ti rfl (by decide +kernel) (fun w h => List.mem_cons_of_mem _ (in_Ti w h)) (hm wd_177) d_Ti_sense_2, ?_⟩
  refine List.forall_mem_cons.mpr ⟨fs_loada_n hF d_Ti_sense_5 rfl, ?_⟩
  refine List.forall_mem_cons.mpr ⟨fs_load_n hF d_Ti_sense_6 rfl, ?_⟩
  refine List.forall_mem_cons.mpr ⟨fs_load_n hF d_Ti_sense_7 rfl, ?_⟩
  refine List.forall_mem_cons.mpr ⟨fs_const hF d_Ti_sense_8 (by decide), ?_⟩
  refine List.forall_mem_cons.mpr ⟨fs_ixor hF d_Ti_sense_9, ?_⟩
  refine List.forall_mem_cons.mpr ⟨fs_iand hF d_Ti_sense_10, ?_⟩
  refine List.forall_mem_cons.mpr ⟨fs_put hC (cN := 6) (j := 3) (ci := 6) (C := R_Ti) (T := T_Ti) (N := 11) rfl rfl rfl (by decide) ty_Ti tk_Ti nm_Ti rfl (by decide +kernel) (fun w h => List.mem_cons_of_mem _ (in_Ti w h)) (hm wd_179) d_Ti_sense_11, ?_⟩
  refine List.forall_mem_cons.mpr ⟨fs_loada_n hF d_Ti_sense_14 rfl, ?_⟩
  refine List.forall_mem_cons.mpr ⟨fs_load_n hF d_Ti_sense_15 rfl, ?_⟩
  refine List.forall_mem_cons.mpr ⟨fs_load_n hF d_Ti_sense_16 rfl, ?_⟩
  refine List.forall_mem_cons.mpr ⟨fs_const hF d_Ti_sense_17 (by decide), ?_⟩
  refine List.forall_mem_cons.mpr ⟨fs_ixor hF d_Ti_sense_18, ?_⟩
  refine List.forall_mem_cons.mpr ⟨fs_iand hF d_Ti_sense_19, ?_⟩
  refine List.forall_mem_cons.mpr ⟨fs_put hC (cN := 6) (j := 4) (ci := 6) (C := R_Ti) (T := T_Ti) (N := 11) rfl rfl rfl (by decide) ty_Ti tk_Ti nm_Ti rfl (by decide +kernel) (fun w h => List.mem_cons_of_mem _ (in_Ti w h)) (hm wd_181) d_Ti_sense_20, ?_⟩
  refine List.forall_mem_cons.mpr ⟨fs_vret hC hr d_Ti_sense_23, ?_⟩
  exact fun _ h => absurd h List.not_mem_nil
abbrev rm_Ti_timeOf : Room := { frames := 1, cells := 0, slots := 0, locals := 21 }
def ws_Ti_timeOf : List Cond := .code y_Ti_timeOf c_Ti_timeOf 2 (some .int) :: TB
abbrev MC_Ti_timeOf (κ : fx_K) : List fx_V → fx_S → (Int32 → fx_S → Prop) → Prop := fx_Met κ.1 κ.2.1 vwCl κ.2.2.1 κ.2.2.2 lyX nwl y_Ti_timeOf ws_Ti_timeOf rm_Ti_timeOf true
def tt_Ti_timeOf (κ : fx_K) (post : Int32 → fx_S → Prop) : List (Nat × fx_M fx_S) := [(0, fm_load 1 1),
  (1, fm_loada 0 2),
  (2, fm_get 6 6 5),
  (5, fm_calls true 2 (MC_Fc_isIn κ) 8),
  (8, fm_ifeq 20 11),
  (11, fm_loada 0 12),
  (12, fm_getr 6 26 15),
  (15, fm_load 1 16),
  (16, fm_ald lnXI 17),
  (17, fm_goto 21),
  (20, fm_const 0 21),
  (21, fm_ret post)]
set_option maxHeartbeats 4000000 in
set_option maxRecDepth 100000 in
theorem mo_Ti_timeOf {κ : fx_K} (hq : fx_I κ lyX.length) {av : List fx_V} {S : fx_S} {post : Int32 → fx_S → Prop} (hlen : av.length ≤ 2) (body : ∀ J : fx_J fx_S, (∀ r ∈ tt_Ti_timeOf κ post, fx_Snd J r.1 r.2) → (∀ pc k ls st S, J pc (ls.take k) st S → J pc ls st S) → J 0 av [] S) : MC_Ti_timeOf κ av S post := by
  refine fx_Met_of (cc := c_Ti_timeOf) (nL := 2) (ret := (some .int)) (by decide) rfl hq hlen ?_
  intro p e s m args below meth c hC hr hnw
  refine body _ ?_ fx_W_take
  have hF := hC.1
  have hts := hC.1.2.2.2.2
  have hm : ∀ {w : Cond}, w ∈ TB → w.before args s = true := fun h => hts _ (List.mem_cons_of_mem _ h)
  have g22 : ∀ (Q : State → Prop) (pc : Nat), decode c_Ti_timeOf pc = .ok (.getfield 22, 3) → fx_Snd (fx_W p κ.1 e rm_Ti_timeOf s m args below meth c Q (fx_A κ.2.2.2 lyX.length) 0 0 (fx_P κ.2.1 vwCl κ.2.2.1 κ.2.2.2 lyX) κ.2.2.2 2) pc (fm_get 6 6 (pc + 3)) := fun Q pc hd => fs_get hC (cN := 6) (j := 6) (ci := 6) (C := R_Ti) (T := T_Ti) (N := 11) rfl rfl rfl (by decide) (fun w h => List.mem_cons_of_mem _ (in_Ti w h)) (hm wd_186) hd
  have g9 : ∀ (Q : State → Prop) (pc : Nat), decode c_Ti_timeOf pc = .ok (.getfield 9, 3) → fx_Snd (fx_W p κ.1 e rm_Ti_timeOf s m args below meth c Q (fx_A κ.2.2.2 lyX.length) 0 0 (fx_P κ.2.1 vwCl κ.2.2.1 κ.2.2.2 lyX) κ.2.2.2 2) pc (fm_getr 6 26 (pc + 3)) := fun Q pc hd => fs_getr hC (cN := 6) (j := 0) (ci := 6) (C := R_Ti) (T := T_Ti) (N := 11) rfl rfl rfl (by decide) (fun w h => List.mem_cons_of_mem _ (in_Ti w h)) (hm wd_175) hd
  refine List.forall_mem_cons.mpr ⟨fs_load_n hF d_Ti_timeOf_0 rfl, ?_⟩
  refine List.forall_mem_cons.mpr ⟨fs_loada_n hF d_Ti_timeOf_1 rfl, ?_⟩
  refine List.forall_mem_cons.mpr ⟨g22 _ 2 d_Ti_timeOf_2, ?_⟩
  refine List.forall_mem_cons.mpr ⟨fs_callSN hC nwl_ok hnw ⟨va_cnB 2 hts (tb_good wd_369) rfl rfl rfl (hnw _ (List.mem_of_getElem? (i := 28) rfl)) (hm wd_32) pd_Fc_isIn ⟨Nat.le_of_ble_eq_true rfl, Nat.le_of_ble_eq_true rfl⟩, hm wd_368⟩ d_Ti_timeOf_5, ?_⟩
  refine List.forall_mem_cons.mpr ⟨fs_ifeq hF d_Ti_timeOf_8 (by decide), ?_⟩
  refine List.forall_mem_cons.mpr ⟨fs_loada_n hF d_Ti_timeOf_11 rfl, ?_⟩
  refine List.forall_mem_cons.mpr ⟨g9 _ 12 d_Ti_timeOf_12, ?_⟩
  refine List.forall_mem_cons.mpr ⟨fs_load_n hF d_Ti_timeOf_15 rfl, ?_⟩
  refine List.forall_mem_cons.mpr ⟨fs_ald hC lkXI d_Ti_timeOf_16, ?_⟩
  refine List.forall_mem_cons.mpr ⟨fs_goto hF d_Ti_timeOf_17 (by decide), ?_⟩
  refine List.forall_mem_cons.mpr ⟨fs_const hF d_Ti_timeOf_20 (by decide), ?_⟩
  refine List.forall_mem_cons.mpr ⟨fs_ret hC hr d_Ti_timeOf_21, ?_⟩
  exact fun _ h => absurd h List.not_mem_nil
abbrev rm_Ti_endEdges : Room := { frames := 0, cells := 0, slots := 0, locals := 0 }
def ws_Ti_endEdges : List Cond := .code y_Ti_endEdges c_Ti_endEdges 1 none :: TB
abbrev MC_Ti_endEdges (κ : fx_K) : List fx_V → fx_S → (Int32 → fx_S → Prop) → Prop := fx_Met κ.1 κ.2.1 vwCl κ.2.2.1 κ.2.2.2 lyX nwl y_Ti_endEdges ws_Ti_endEdges rm_Ti_endEdges false
def tt_Ti_endEdges (κ : fx_K) (post : Int32 → fx_S → Prop) : List (Nat × fx_M fx_S) := [(0, fm_loada 0 1),
  (1, fm_const 0 2),
  (2, fm_put 6 3 5),
  (5, fm_loada 0 6),
  (6, fm_const 0 7),
  (7, fm_put 6 4 10),
  (10, fm_vret post)]
set_option maxHeartbeats 4000000 in
set_option maxRecDepth 100000 in
theorem mo_Ti_endEdges {κ : fx_K} (hq : fx_I κ lyX.length) {av : List fx_V} {S : fx_S} {post : Int32 → fx_S → Prop} (hlen : av.length ≤ 1) (body : ∀ J : fx_J fx_S, (∀ r ∈ tt_Ti_endEdges κ post, fx_Snd J r.1 r.2) → (∀ pc k ls st S, J pc (ls.take k) st S → J pc ls st S) → J 0 av [] S) : MC_Ti_endEdges κ av S post := by
  refine fx_Met_of (cc := c_Ti_endEdges) (nL := 1) (ret := none) (by decide) rfl hq hlen ?_
  intro p e s m args below meth c hC hr hnw
  refine body _ ?_ fx_W_take
  have hF := hC.1
  have hts := hC.1.2.2.2.2
  have hm : ∀ {w : Cond}, w ∈ TB → w.before args s = true := fun h => hts _ (List.mem_cons_of_mem _ h)
  refine List.forall_mem_cons.mpr ⟨fs_loada_n hF d_Ti_endEdges_0 rfl, ?_⟩
  refine List.forall_mem_cons.mpr ⟨fs_const hF d_Ti_endEdges_1 (by decide), ?_⟩
  refine List.forall_mem_cons.mpr ⟨fs_put hC (cN := 6) (j := 3) (ci := 6) (C := R_Ti) (T := T_Ti) (N := 11) rfl rfl rfl (by decide) ty_Ti tk_Ti nm_Ti rfl (by decide +kernel) (fun w h => List.mem_cons_of_mem _ (in_Ti w h)) (hm wd_179) d_Ti_endEdges_2, ?_⟩
  refine List.forall_mem_cons.mpr ⟨fs_loada_n hF d_Ti_endEdges_5 rfl, ?_⟩
  refine List.forall_mem_cons.mpr ⟨fs_const hF d_Ti_endEdges_6 (by decide), ?_⟩
  refine List.forall_mem_cons.mpr ⟨fs_put hC (cN := 6) (j := 4) (ci := 6) (C := R_Ti) (T := T_Ti) (N := 11) rfl rfl rfl (by decide) ty_Ti tk_Ti nm_Ti rfl (by decide +kernel) (fun w h => List.mem_cons_of_mem _ (in_Ti w h)) (hm wd_181) d_Ti_endEdges_7, ?_⟩
  refine List.forall_mem_cons.mpr ⟨fs_vret hC hr d_Ti_endEdges_10, ?_⟩
  exact fun _ h => absurd h List.not_mem_nil
abbrev rm_Ti_moveTo : Room := { frames := 0, cells := 0, slots := 0, locals := 0 }
def ws_Ti_moveTo : List Cond := .code y_Ti_moveTo c_Ti_moveTo 3 (some .boolean) :: TB
abbrev MC_Ti_moveTo (κ : fx_K) : List fx_V → fx_S → (Int32 → fx_S → Prop) → Prop := fx_Met κ.1 κ.2.1 vwCl κ.2.2.1 κ.2.2.2 lyX nwl y_Ti_moveTo ws_Ti_moveTo rm_Ti_moveTo true
def tt_Ti_moveTo (κ : fx_K) (post : Int32 → fx_S → Prop) : List (Nat × fx_M fx_S) := [(0, fm_load 2 1),
  (1, fm_ifne 14 4),
  (4, fm_load 1 5),
  (5, fm_loada 0 6),
  (6, fm_get 6 5 9),
  (9, fm_cmpne 14 12),
  (12, fm_const 0 13),
  (13, fm_zret post),
  (14, fm_loada 0 15),
  (15, fm_load 1 16),
  (16, fm_put 6 5 19),
  (19, fm_loada 0 20),
  (20, fm_dup 21),
  (21, fm_get 6 6 24),
  (24, fm_load 1 25),
  (25, fm_iand 26),
  (26, fm_put 6 6 29),
  (29, fm_loada 0 30),
  (30, fm_dup 31),
  (31, fm_get 6 7 34),
  (34, fm_load 2 35),
  (35, fm_ior 36),
  (36, fm_put 6 7 39),
  (39, fm_loada 0 40),
  (40, fm_dup 41),
  (41, fm_get 6 8 44),
  (44, fm_const 1 45),
  (45, fm_iadd 46),
  (46, fm_put 6 8 49),
  (49, fm_const 1 50),
  (50, fm_zret post)]
set_option maxHeartbeats 4000000 in
set_option maxRecDepth 100000 in
theorem mo_Ti_moveTo {κ : fx_K} (hq : fx_I κ lyX.length) {av : List fx_V} {S : fx_S} {post : Int32 → fx_S → Prop} (hlen : av.length ≤ 3) (body : ∀ J : fx_J fx_S, (∀ r ∈ tt_Ti_moveTo κ post, fx_Snd J r.1 r.2) → (∀ pc k ls st S, J pc (ls.take k) st S → J pc ls st S) → J 0 av [] S) : MC_Ti_moveTo κ av S post := by
  refine fx_Met_of (cc := c_Ti_moveTo) (nL := 3) (ret := (some .boolean)) (by decide) rfl hq hlen ?_
  intro p e s m args below meth c hC hr hnw
  refine body _ ?_ fx_W_take
  have hF := hC.1
  have hts := hC.1.2.2.2.2
  have hm : ∀ {w : Cond}, w ∈ TB → w.before args s = true := fun h => hts _ (List.mem_cons_of_mem _ h)
  have g18 : ∀ (Q : State → Prop) (pc : Nat), decode c_Ti_moveTo pc = .ok (.getfield 18, 3) → fx_Snd (fx_W p κ.1 e rm_Ti_moveTo s m args below meth c Q (fx_A κ.2.2.2 lyX.length) 0 0 (fx_P κ.2.1 vwCl κ.2.2.1 κ.2.2.2 lyX) κ.2.2.2 3) pc (fm_get 6 5 (pc + 3)) := fun Q pc hd => fs_get hC (cN := 6) (j := 5) (ci := 6) (C := R_Ti) (T := T_Ti) (N := 11) rfl rfl rfl (by decide) (fun w h => List.mem_cons_of_mem _ (in_Ti w h)) (hm wd_183) hd
  have g22 : ∀ (Q : State → Prop) (pc : Nat), decode c_Ti_moveTo pc = .ok (.getfield 22, 3) → fx_Snd (fx_W p κ.1 e rm_Ti_moveTo s m args below meth c Q (fx_A κ.2.2.2 lyX.length) 0 0 (fx_P κ.2.1 vwCl κ.2.2.1 κ.2.2.2 lyX) κ.2.2.2 3) pc (fm_get 6 6 (pc + 3)) := fun Q pc hd => fs_get hC (cN := 6) (j := 6) (ci := 6) (C := R_Ti) (T := T_Ti) (N := 11) rfl rfl rfl (by decide) (fun w h => List.mem_cons_of_mem _ (in_Ti w h)) (hm wd_186) hd
  have g29 : ∀ (Q : State → Prop) (pc : Nat), decode c_Ti_moveTo pc = .ok (.getfield 29, 3) → fx_Snd (fx_W p κ.1 e rm_Ti_moveTo s m args below meth c Q (fx_A κ.2.2.2 lyX.length) 0 0 (fx_P κ.2.1 vwCl κ.2.2.1 κ.2.2.2 lyX) κ.2.2.2 3) pc (fm_get 6 7 (pc + 3)) := fun Q pc hd => fs_get hC (cN := 6) (j := 7) (ci := 6) (C := R_Ti) (T := T_Ti) (N := 11) rfl rfl rfl (by decide) (fun w h => List.mem_cons_of_mem _ (in_Ti w h)) (hm wd_187) hd
  have g32 : ∀ (Q : State → Prop) (pc : Nat), decode c_Ti_moveTo pc = .ok (.getfield 32, 3) → fx_Snd (fx_W p κ.1 e rm_Ti_moveTo s m args below meth c Q (fx_A κ.2.2.2 lyX.length) 0 0 (fx_P κ.2.1 vwCl κ.2.2.1 κ.2.2.2 lyX) κ.2.2.2 3) pc (fm_get 6 8 (pc + 3)) := fun Q pc hd => fs_get hC (cN := 6) (j := 8) (ci := 6) (C := R_Ti) (T := T_Ti) (N := 11) rfl rfl rfl (by decide) (fun w h => List.mem_cons_of_mem _ (in_Ti w h)) (hm wd_189) hd
  refine List.forall_mem_cons.mpr ⟨fs_load_n hF d_Ti_moveTo_0 rfl, ?_⟩
  refine List.forall_mem_cons.mpr ⟨fs_ifne hF d_Ti_moveTo_1 (by decide), ?_⟩
  refine List.forall_mem_cons.mpr ⟨fs_load_n hF d_Ti_moveTo_4 rfl, ?_⟩
  refine List.forall_mem_cons.mpr ⟨fs_loada_n hF d_Ti_moveTo_5 rfl, ?_⟩
  refine List.forall_mem_cons.mpr ⟨g18 _ 6 d_Ti_moveTo_6, ?_⟩
  refine List.forall_mem_cons.mpr ⟨fs_cmpne hF d_Ti_moveTo_9 (by decide), ?_⟩
  refine List.forall_mem_cons.mpr ⟨fs_const hF d_Ti_moveTo_12 (by decide), ?_⟩
  refine List.forall_mem_cons.mpr ⟨fs_zret hC hr d_Ti_moveTo_13, ?_⟩
  refine List.forall_mem_cons.mpr ⟨fs_loada_n hF d_Ti_moveTo_14 rfl, ?_⟩
  refine List.forall_mem_cons.mpr ⟨fs_load_n hF d_Ti_moveTo_15 rfl, ?_⟩
  refine List.forall_mem_cons.mpr ⟨fs_put hC (cN := 6) (j := 5) (ci := 6) (C := R_Ti) (T := T_Ti) (N := 11) rfl rfl rfl (by decide) ty_Ti tk_Ti nm_Ti rfl (by decide +kernel) (fun w h => List.mem_cons_of_mem _ (in_Ti w h)) (hm wd_183) d_Ti_moveTo_16, ?_⟩
  refine List.forall_mem_cons.mpr ⟨fs_loada_n hF d_Ti_moveTo_19 rfl, ?_⟩
  refine List.forall_mem_cons.mpr ⟨fs_dup hF d_Ti_moveTo_20, ?_⟩
  refine List.forall_mem_cons.mpr ⟨g22 _ 21 d_Ti_moveTo_21, ?_⟩
  refine List.forall_mem_cons.mpr ⟨fs_load_n hF d_Ti_moveTo_24 rfl, ?_⟩
  refine List.forall_mem_cons.mpr ⟨fs_iand hF d_Ti_moveTo_25, ?_⟩
  refine List.forall_mem_cons.mpr ⟨fs_put hC (cN := 6) (j := 6) (ci := 6) (C := R_Ti) (T := T_Ti) (N := 11) rfl rfl rfl (by decide) ty_Ti tk_Ti nm_Ti rfl (by decide +kernel) (fun w h => List.mem_cons_of_mem _ (in_Ti w h)) (hm wd_186) d_Ti_moveTo_26, ?_⟩
  refine List.forall_mem_cons.mpr ⟨fs_loada_n hF d_Ti_moveTo_29 rfl, ?_⟩
  refine List.forall_mem_cons.mpr ⟨fs_dup hF d_Ti_moveTo_30, ?_⟩
  refine List.forall_mem_cons.mpr ⟨g29 _ 31 d_Ti_moveTo_31, ?_⟩
  refine List.forall_mem_cons.mpr ⟨fs_load_n hF d_Ti_moveTo_34 rfl, ?_⟩
  refine List.forall_mem_cons.mpr ⟨fs_ior hF d_Ti_moveTo_35, ?_⟩
  refine List.forall_mem_cons.mpr ⟨fs_put hC (cN := 6) (j := 7) (ci := 6) (C := R_Ti) (T := T_Ti) (N := 11) rfl rfl rfl (by decide) ty_Ti tk_Ti nm_Ti rfl (by decide +kernel) (fun w h => List.mem_cons_of_mem _ (in_Ti w h)) (hm wd_187) d_Ti_moveTo_36, ?_⟩
  refine List.forall_mem_cons.mpr ⟨fs_loada_n hF d_Ti_moveTo_39 rfl, ?_⟩
  refine List.forall_mem_cons.mpr ⟨fs_dup hF d_Ti_moveTo_40, ?_⟩
  refine List.forall_mem_cons.mpr ⟨g32 _ 41 d_Ti_moveTo_41, ?_⟩
  refine List.forall_mem_cons.mpr ⟨fs_const hF d_Ti_moveTo_44 (by decide), ?_⟩
  refine List.forall_mem_cons.mpr ⟨fs_iadd hF d_Ti_moveTo_45, ?_⟩
  refine List.forall_mem_cons.mpr ⟨fs_put hC (cN := 6) (j := 8) (ci := 6) (C := R_Ti) (T := T_Ti) (N := 11) rfl rfl rfl (by decide) ty_Ti tk_Ti nm_Ti rfl (by decide +kernel) (fun w h => List.mem_cons_of_mem _ (in_Ti w h)) (hm wd_189) d_Ti_moveTo_46, ?_⟩
  refine List.forall_mem_cons.mpr ⟨fs_const hF d_Ti_moveTo_49 (by decide), ?_⟩
  refine List.forall_mem_cons.mpr ⟨fs_zret hC hr d_Ti_moveTo_50, ?_⟩
  exact fun _ h => absurd h List.not_mem_nil
abbrev rm_Ti_findsCycle : Room := { frames := 0, cells := 0, slots := 0, locals := 0 }
def ws_Ti_findsCycle : List Cond := .code y_Ti_findsCycle c_Ti_findsCycle 3 (some .boolean) :: TB
abbrev MC_Ti_findsCycle (κ : fx_K) : List fx_V → fx_S → (Int32 → fx_S → Prop) → Prop := fx_Met κ.1 κ.2.1 vwCl κ.2.2.1 κ.2.2.2 lyX nwl y_Ti_findsCycle ws_Ti_findsCycle rm_Ti_findsCycle true
def tt_Ti_findsCycle (κ : fx_K) (post : Int32 → fx_S → Prop) : List (Nat × fx_M fx_S) := [(0, fm_loada 0 1),
  (1, fm_get 6 5 4),
  (4, fm_loada 0 5),
  (5, fm_get 6 6 8),
  (8, fm_const 8 10),
  (10, fm_ishl 11),
  (11, fm_ior 12),
  (12, fm_store 1 13),
  (13, fm_const 1 14),
  (14, fm_store 2 15),
  (15, fm_load 2 16),
  (16, fm_loada 0 17),
  (17, fm_get 6 8 20),
  (20, fm_cmpge 56 23),
  (23, fm_loada 0 24),
  (24, fm_getr 6 27 27),
  (27, fm_load 2 28),
  (28, fm_ald lnXI 29),
  (29, fm_load 1 30),
  (30, fm_cmpne 50 33),
  (33, fm_loada 0 34),
  (34, fm_load 2 35),
  (35, fm_put 6 9 38),
  (38, fm_loada 0 39),
  (39, fm_loada 0 40),
  (40, fm_get 6 8 43),
  (43, fm_load 2 44),
  (44, fm_isub 45),
  (45, fm_put 6 10 48),
  (48, fm_const 1 49),
  (49, fm_zret post),
  (50, fm_inc 2 1 53),
  (53, fm_goto 15),
  (56, fm_loada 0 57),
  (57, fm_getr 6 27 60),
  (60, fm_loada 0 61),
  (61, fm_get 6 8 64),
  (64, fm_load 1 65),
  (65, fm_ast lnXI 66),
  (66, fm_const 0 67),
  (67, fm_zret post)]
set_option maxHeartbeats 4000000 in
set_option maxRecDepth 100000 in
theorem mo_Ti_findsCycle {κ : fx_K} (hq : fx_I κ lyX.length) {av : List fx_V} {S : fx_S} {post : Int32 → fx_S → Prop} (hlen : av.length ≤ 3) (body : ∀ J : fx_J fx_S, (∀ r ∈ tt_Ti_findsCycle κ post, fx_Snd J r.1 r.2) → (∀ pc k ls st S, J pc (ls.take k) st S → J pc ls st S) → J 0 av [] S) : MC_Ti_findsCycle κ av S post := by
  refine fx_Met_of (cc := c_Ti_findsCycle) (nL := 3) (ret := (some .boolean)) (by decide) rfl hq hlen ?_
  intro p e s m args below meth c hC hr hnw
  refine body _ ?_ fx_W_take
  have hF := hC.1
  have hts := hC.1.2.2.2.2
  have hm : ∀ {w : Cond}, w ∈ TB → w.before args s = true := fun h => hts _ (List.mem_cons_of_mem _ h)
  have g18 : ∀ (Q : State → Prop) (pc : Nat), decode c_Ti_findsCycle pc = .ok (.getfield 18, 3) → fx_Snd (fx_W p κ.1 e rm_Ti_findsCycle s m args below meth c Q (fx_A κ.2.2.2 lyX.length) 0 0 (fx_P κ.2.1 vwCl κ.2.2.1 κ.2.2.2 lyX) κ.2.2.2 3) pc (fm_get 6 5 (pc + 3)) := fun Q pc hd => fs_get hC (cN := 6) (j := 5) (ci := 6) (C := R_Ti) (T := T_Ti) (N := 11) rfl rfl rfl (by decide) (fun w h => List.mem_cons_of_mem _ (in_Ti w h)) (hm wd_183) hd
  have g22 : ∀ (Q : State → Prop) (pc : Nat), decode c_Ti_findsCycle pc = .ok (.getfield 22, 3) → fx_Snd (fx_W p κ.1 e rm_Ti_findsCycle s m args below meth c Q (fx_A κ.2.2.2 lyX.length) 0 0 (fx_P κ.2.1 vwCl κ.2.2.1 κ.2.2.2 lyX) κ.2.2.2 3) pc (fm_get 6 6 (pc + 3)) := fun Q pc hd => fs_get hC (cN := 6) (j := 6) (ci := 6) (C := R_Ti) (T := T_Ti) (N := 11) rfl rfl rfl (by decide) (fun w h => List.mem_cons_of_mem _ (in_Ti w h)) (hm wd_186) hd
  have g32 : ∀ (Q : State → Prop) (pc : Nat), decode c_Ti_findsCycle pc = .ok (.getfield 32, 3) → fx_Snd (fx_W p κ.1 e rm_Ti_findsCycle s m args below meth c Q (fx_A κ.2.2.2 lyX.length) 0 0 (fx_P κ.2.1 vwCl κ.2.2.1 κ.2.2.2 lyX) κ.2.2.2 3) pc (fm_get 6 8 (pc + 3)) := fun Q pc hd => fs_get hC (cN := 6) (j := 8) (ci := 6) (C := R_Ti) (T := T_Ti) (N := 11) rfl rfl rfl (by decide) (fun w h => List.mem_cons_of_mem _ (in_Ti w h)) (hm wd_189) hd
  have g15 : ∀ (Q : State → Prop) (pc : Nat), decode c_Ti_findsCycle pc = .ok (.getfield 15, 3) → fx_Snd (fx_W p κ.1 e rm_Ti_findsCycle s m args below meth c Q (fx_A κ.2.2.2 lyX.length) 0 0 (fx_P κ.2.1 vwCl κ.2.2.1 κ.2.2.2 lyX) κ.2.2.2 3) pc (fm_getr 6 27 (pc + 3)) := fun Q pc hd => fs_getr hC (cN := 6) (j := 1) (ci := 6) (C := R_Ti) (T := T_Ti) (N := 11) rfl rfl rfl (by decide) (fun w h => List.mem_cons_of_mem _ (in_Ti w h)) (hm wd_176) hd
  refine List.forall_mem_cons.mpr ⟨fs_loada_n hF d_Ti_findsCycle_0 rfl, ?_⟩
  refine List.forall_mem_cons.mpr ⟨g18 _ 1 d_Ti_findsCycle_1, ?_⟩
  refine List.forall_mem_cons.mpr ⟨fs_loada_n hF d_Ti_findsCycle_4 rfl, ?_⟩
  refine List.forall_mem_cons.mpr ⟨g22 _ 5 d_Ti_findsCycle_5, ?_⟩
  refine List.forall_mem_cons.mpr ⟨fs_bipush hF d_Ti_findsCycle_8 (by decide), ?_⟩
  refine List.forall_mem_cons.mpr ⟨fs_ishl hF d_Ti_findsCycle_10, ?_⟩
  refine List.forall_mem_cons.mpr ⟨fs_ior hF d_Ti_findsCycle_11, ?_⟩
  refine List.forall_mem_cons.mpr ⟨fs_store_n hF d_Ti_findsCycle_12 rfl (by decide), ?_⟩
  refine List.forall_mem_cons.mpr ⟨fs_const hF d_Ti_findsCycle_13 (by decide), ?_⟩
  refine List.forall_mem_cons.mpr ⟨fs_store_n hF d_Ti_findsCycle_14 rfl (by decide), ?_⟩
  refine List.forall_mem_cons.mpr ⟨fs_load_n hF d_Ti_findsCycle_15 rfl, ?_⟩
  refine List.forall_mem_cons.mpr ⟨fs_loada_n hF d_Ti_findsCycle_16 rfl, ?_⟩
  refine List.forall_mem_cons.mpr ⟨g32 _ 17 d_Ti_findsCycle_17, ?_⟩
  refine List.forall_mem_cons.mpr ⟨fs_cmpge hF d_Ti_findsCycle_20 (by decide), ?_⟩
  refine List.forall_mem_cons.mpr ⟨fs_loada_n hF d_Ti_findsCycle_23 rfl, ?_⟩
  refine List.forall_mem_cons.mpr ⟨g15 _ 24 d_Ti_findsCycle_24, ?_⟩
  refine List.forall_mem_cons.mpr ⟨fs_load_n hF d_Ti_findsCycle_27 rfl, ?_⟩
  refine List.forall_mem_cons.mpr ⟨fs_ald hC lkXI d_Ti_findsCycle_28, ?_⟩
  refine List.forall_mem_cons.mpr ⟨fs_load_n hF d_Ti_findsCycle_29 rfl, ?_⟩
  refine List.forall_mem_cons.mpr ⟨fs_cmpne hF d_Ti_findsCycle_30 (by decide), ?_⟩
  refine List.forall_mem_cons.mpr ⟨fs_loada_n hF d_Ti_findsCycle_33 rfl, ?_⟩
  refine List.forall_mem_cons.mpr ⟨fs_load_n hF d_Ti_findsCycle_34 rfl, ?_⟩
  refine List.forall_mem_cons.mpr ⟨fs_put hC (cN := 6) (j := 9) (ci := 6) (C := R_Ti) (T := T_Ti) (N := 11) rfl rfl rfl (by decide) ty_Ti tk_Ti nm_Ti rfl (by decide +kernel) (fun w h => List.mem_cons_of_mem _ (in_Ti w h)) (hm wd_191) d_Ti_findsCycle_35, ?_⟩
  refine List.forall_mem_cons.mpr ⟨fs_loada_n hF d_Ti_findsCycle_38 rfl, ?_⟩
  refine List.forall_mem_cons.mpr ⟨fs_loada_n hF d_Ti_findsCycle_39 rfl, ?_⟩
  refine List.forall_mem_cons.mpr ⟨g32 _ 40 d_Ti_findsCycle_40, ?_⟩
  refine List.forall_mem_cons.mpr ⟨fs_load_n hF d_Ti_findsCycle_43 rfl, ?_⟩
  refine List.forall_mem_cons.mpr ⟨fs_isub hF d_Ti_findsCycle_44, ?_⟩
  refine List.forall_mem_cons.mpr ⟨fs_put hC (cN := 6) (j := 10) (ci := 6) (C := R_Ti) (T := T_Ti) (N := 11) rfl rfl rfl (by decide) ty_Ti tk_Ti nm_Ti rfl (by decide +kernel) (fun w h => List.mem_cons_of_mem _ (in_Ti w h)) (hm wd_193) d_Ti_findsCycle_45, ?_⟩
  refine List.forall_mem_cons.mpr ⟨fs_const hF d_Ti_findsCycle_48 (by decide), ?_⟩
  refine List.forall_mem_cons.mpr ⟨fs_zret hC hr d_Ti_findsCycle_49, ?_⟩
  refine List.forall_mem_cons.mpr ⟨fs_inc hF d_Ti_findsCycle_50 (by decide) (by decide), ?_⟩
  refine List.forall_mem_cons.mpr ⟨fs_goto hF d_Ti_findsCycle_53 (by decide), ?_⟩
  refine List.forall_mem_cons.mpr ⟨fs_loada_n hF d_Ti_findsCycle_56 rfl, ?_⟩
  refine List.forall_mem_cons.mpr ⟨g15 _ 57 d_Ti_findsCycle_57, ?_⟩
  refine List.forall_mem_cons.mpr ⟨fs_loada_n hF d_Ti_findsCycle_60 rfl, ?_⟩
  refine List.forall_mem_cons.mpr ⟨g32 _ 61 d_Ti_findsCycle_61, ?_⟩
  refine List.forall_mem_cons.mpr ⟨fs_load_n hF d_Ti_findsCycle_64 rfl, ?_⟩
  refine List.forall_mem_cons.mpr ⟨fs_ast hC lkXI d_Ti_findsCycle_65, ?_⟩
  refine List.forall_mem_cons.mpr ⟨fs_const hF d_Ti_findsCycle_66 (by decide), ?_⟩
  refine List.forall_mem_cons.mpr ⟨fs_zret hC hr d_Ti_findsCycle_67, ?_⟩
  exact fun _ h => absurd h List.not_mem_nil
abbrev rm_Ex_has : Room := { frames := 0, cells := 0, slots := 0, locals := 0 }
def ws_Ex_has : List Cond := .code y_Ex_has c_Ex_has 2 (some .boolean) :: TB
abbrev MC_Ex_has (κ : fx_K) : List fx_V → fx_S → (Int32 → fx_S → Prop) → Prop := fx_Met κ.1 κ.2.1 vwCl κ.2.2.1 κ.2.2.2 lyX nwl y_Ex_has ws_Ex_has rm_Ex_has true
def tt_Ex_has (κ : fx_K) (post : Int32 → fx_S → Prop) : List (Nat × fx_M fx_S) := [(0, fm_load 1 1),
  (1, fm_iflt 16 4),
  (4, fm_load 1 5),
  (5, fm_loada 0 6),
  (6, fm_get 2 4 9),
  (9, fm_cmpge 16 12),
  (12, fm_const 1 13),
  (13, fm_goto 17),
  (16, fm_const 0 17),
  (17, fm_zret post)]
set_option maxHeartbeats 4000000 in
set_option maxRecDepth 100000 in
theorem mo_Ex_has {κ : fx_K} (hq : fx_I κ lyX.length) {av : List fx_V} {S : fx_S} {post : Int32 → fx_S → Prop} (hlen : av.length ≤ 2) (body : ∀ J : fx_J fx_S, (∀ r ∈ tt_Ex_has κ post, fx_Snd J r.1 r.2) → (∀ pc k ls st S, J pc (ls.take k) st S → J pc ls st S) → J 0 av [] S) : MC_Ex_has κ av S post := by
  refine fx_Met_of (cc := c_Ex_has) (nL := 2) (ret := (some .boolean)) (by decide) rfl hq hlen ?_
  intro p e s m args below meth c hC hr hnw
  refine body _ ?_ fx_W_take
  have hF := hC.1
  have hts := hC.1.2.2.2.2
  have hm : ∀ {w : Cond}, w ∈ TB → w.before args s = true := fun h => hts _ (List.mem_cons_of_mem _ h)
  have g24 : ∀ (Q : State → Prop) (pc : Nat), decode c_Ex_has pc = .ok (.getfield 24, 3) → fx_Snd (fx_W p κ.1 e rm_Ex_has s m args below meth c Q (fx_A κ.2.2.2 lyX.length) 0 0 (fx_P κ.2.1 vwCl κ.2.2.1 κ.2.2.2 lyX) κ.2.2.2 2) pc (fm_get 2 4 (pc + 3)) := fun Q pc hd => fs_get hC (cN := 2) (j := 4) (ci := 2) (C := R_Ex) (T := T_Ex) (N := 5) rfl rfl rfl (by decide) (fun w h => List.mem_cons_of_mem _ (in_Ex w h)) (hm wd_83) hd
  refine List.forall_mem_cons.mpr ⟨fs_load_n hF d_Ex_has_0 rfl, ?_⟩
  refine List.forall_mem_cons.mpr ⟨fs_iflt hF d_Ex_has_1 (by decide), ?_⟩
  refine List.forall_mem_cons.mpr ⟨fs_load_n hF d_Ex_has_4 rfl, ?_⟩
  refine List.forall_mem_cons.mpr ⟨fs_loada_n hF d_Ex_has_5 rfl, ?_⟩
  refine List.forall_mem_cons.mpr ⟨g24 _ 6 d_Ex_has_6, ?_⟩
  refine List.forall_mem_cons.mpr ⟨fs_cmpge hF d_Ex_has_9 (by decide), ?_⟩
  refine List.forall_mem_cons.mpr ⟨fs_const hF d_Ex_has_12 (by decide), ?_⟩
  refine List.forall_mem_cons.mpr ⟨fs_goto hF d_Ex_has_13 (by decide), ?_⟩
  refine List.forall_mem_cons.mpr ⟨fs_const hF d_Ex_has_16 (by decide), ?_⟩
  refine List.forall_mem_cons.mpr ⟨fs_zret hC hr d_Ex_has_17, ?_⟩
  exact fun _ h => absurd h List.not_mem_nil
abbrev rm_Ex_canBePart : Room := { frames := 1, cells := 0, slots := 0, locals := 21 }
def ws_Ex_canBePart : List Cond := .code y_Ex_canBePart c_Ex_canBePart 2 (some .boolean) :: TB
abbrev MC_Ex_canBePart (κ : fx_K) : List fx_V → fx_S → (Int32 → fx_S → Prop) → Prop := fx_Met κ.1 κ.2.1 vwCl κ.2.2.1 κ.2.2.2 lyX nwl y_Ex_canBePart ws_Ex_canBePart rm_Ex_canBePart true
def tt_Ex_canBePart (κ : fx_K) (post : Int32 → fx_S → Prop) : List (Nat × fx_M fx_S) := [(0, fm_loada 0 1),
  (1, fm_load 1 2),
  (2, fm_call true 2 1 (MC_Ex_has κ) 5),
  (5, fm_ifeq 22 8),
  (8, fm_loada 0 9),
  (9, fm_getr 2 13 12),
  (12, fm_load 1 13),
  (13, fm_ald lnXI 14),
  (14, fm_const 4 15),
  (15, fm_cmpge 22 18),
  (18, fm_const 1 19),
  (19, fm_goto 23),
  (22, fm_const 0 23),
  (23, fm_zret post)]
set_option maxHeartbeats 4000000 in
set_option maxRecDepth 100000 in
theorem mo_Ex_canBePart {κ : fx_K} (hq : fx_I κ lyX.length) {av : List fx_V} {S : fx_S} {post : Int32 → fx_S → Prop} (hlen : av.length ≤ 2) (body : ∀ J : fx_J fx_S, (∀ r ∈ tt_Ex_canBePart κ post, fx_Snd J r.1 r.2) → (∀ pc k ls st S, J pc (ls.take k) st S → J pc ls st S) → J 0 av [] S) : MC_Ex_canBePart κ av S post := by
  refine fx_Met_of (cc := c_Ex_canBePart) (nL := 2) (ret := (some .boolean)) (by decide) rfl hq hlen ?_
  intro p e s m args below meth c hC hr hnw
  refine body _ ?_ fx_W_take
  have hF := hC.1
  have hts := hC.1.2.2.2.2
  have hm : ∀ {w : Cond}, w ∈ TB → w.before args s = true := fun h => hts _ (List.mem_cons_of_mem _ h)
  have g21 : ∀ (Q : State → Prop) (pc : Nat), decode c_Ex_canBePart pc = .ok (.getfield 21, 3) → fx_Snd (fx_W p κ.1 e rm_Ex_canBePart s m args below meth c Q (fx_A κ.2.2.2 lyX.length) 0 0 (fx_P κ.2.1 vwCl κ.2.2.1 κ.2.2.2 lyX) κ.2.2.2 2) pc (fm_getr 2 13 (pc + 3)) := fun Q pc hd => fs_getr hC (cN := 2) (j := 3) (ci := 2) (C := R_Ex) (T := T_Ex) (N := 5) rfl rfl rfl (by decide) (fun w h => List.mem_cons_of_mem _ (in_Ex w h)) (hm wd_82) hd
  refine List.forall_mem_cons.mpr ⟨fs_loada_n hF d_Ex_canBePart_0 rfl, ?_⟩
  refine List.forall_mem_cons.mpr ⟨fs_load_n hF d_Ex_canBePart_1 rfl, ?_⟩
  refine List.forall_mem_cons.mpr ⟨fs_callV hC nwl_ok hnw (cN := 2) (ci := 2) (C := R_Ex) rfl rfl ⟨callB_of 1 hts (tb_good wd_304) rfl rfl rfl (hm wd_34) (hm wd_301) pd_Ex_has ⟨Nat.le_of_ble_eq_true rfl, Nat.le_of_ble_eq_true rfl⟩, hm wd_302, hm wd_303⟩ d_Ex_canBePart_2, ?_⟩
  refine List.forall_mem_cons.mpr ⟨fs_ifeq hF d_Ex_canBePart_5 (by decide), ?_⟩
  refine List.forall_mem_cons.mpr ⟨fs_loada_n hF d_Ex_canBePart_8 rfl, ?_⟩
  refine List.forall_mem_cons.mpr ⟨g21 _ 9 d_Ex_canBePart_9, ?_⟩
  refine List.forall_mem_cons.mpr ⟨fs_load_n hF d_Ex_canBePart_12 rfl, ?_⟩
  refine List.forall_mem_cons.mpr ⟨fs_ald hC lkXI d_Ex_canBePart_13, ?_⟩
  refine List.forall_mem_cons.mpr ⟨fs_const hF d_Ex_canBePart_14 (by decide), ?_⟩
  refine List.forall_mem_cons.mpr ⟨fs_cmpge hF d_Ex_canBePart_15 (by decide), ?_⟩
  refine List.forall_mem_cons.mpr ⟨fs_const hF d_Ex_canBePart_18 (by decide), ?_⟩
  refine List.forall_mem_cons.mpr ⟨fs_goto hF d_Ex_canBePart_19 (by decide), ?_⟩
  refine List.forall_mem_cons.mpr ⟨fs_const hF d_Ex_canBePart_22 (by decide), ?_⟩
  refine List.forall_mem_cons.mpr ⟨fs_zret hC hr d_Ex_canBePart_23, ?_⟩
  exact fun _ h => absurd h List.not_mem_nil
abbrev rm_Ex_allow : Room := { frames := 2, cells := 0, slots := 0, locals := 42 }
def ws_Ex_allow : List Cond := .code y_Ex_allow c_Ex_allow 5 (some .boolean) :: TB
abbrev MC_Ex_allow (κ : fx_K) : List fx_V → fx_S → (Int32 → fx_S → Prop) → Prop := fx_Met κ.1 κ.2.1 vwCl κ.2.2.1 κ.2.2.2 lyX nwl y_Ex_allow ws_Ex_allow rm_Ex_allow true
def tt_Ex_allow (κ : fx_K) (post : Int32 → fx_S → Prop) : List (Nat × fx_M fx_S) := [(0, fm_load 1 1),
  (1, fm_sw [(0, 48), (1, 48), (2, 48), (3, 53), (4, 60), (5, 82), (6, 88), (7, 88)] 110),
  (48, fm_load 2 49),
  (49, fm_calls true 1 (MC_Fc_isLine κ) 52),
  (52, fm_zret post),
  (53, fm_loada 4 55),
  (55, fm_load 2 56),
  (56, fm_call true 1 1 (MC_St_has κ) 59),
  (59, fm_zret post),
  (60, fm_loada 4 62),
  (62, fm_load 2 63),
  (63, fm_call true 1 1 (MC_St_has κ) 66),
  (66, fm_ifeq 80 69),
  (69, fm_load 3 70),
  (70, fm_calls true 1 (MC_Fc_isSpan κ) 73),
  (73, fm_ifeq 80 76),
  (76, fm_const 1 77),
  (77, fm_goto 81),
  (80, fm_const 0 81),
  (81, fm_zret post),
  (82, fm_loada 0 83),
  (83, fm_load 2 84),
  (84, fm_call true 2 1 (MC_Ex_canBePart κ) 87),
  (87, fm_zret post),
  (88, fm_loada 0 89),
  (89, fm_load 2 90),
  (90, fm_call true 2 1 (MC_Ex_canBePart κ) 93),
  (93, fm_ifeq 108 96),
  (96, fm_loada 0 97),
  (97, fm_load 3 98),
  (98, fm_call true 2 1 (MC_Ex_canBePart κ) 101),
  (101, fm_ifeq 108 104),
  (104, fm_const 1 105),
  (105, fm_goto 109),
  (108, fm_const 0 109),
  (109, fm_zret post),
  (110, fm_const 0 111),
  (111, fm_zret post)]
set_option maxHeartbeats 4000000 in
set_option maxRecDepth 100000 in
theorem mo_Ex_allow {κ : fx_K} (hq : fx_I κ lyX.length) {av : List fx_V} {S : fx_S} {post : Int32 → fx_S → Prop} (hlen : av.length ≤ 5) (body : ∀ J : fx_J fx_S, (∀ r ∈ tt_Ex_allow κ post, fx_Snd J r.1 r.2) → (∀ pc k ls st S, J pc (ls.take k) st S → J pc ls st S) → J 0 av [] S) : MC_Ex_allow κ av S post := by
  refine fx_Met_of (cc := c_Ex_allow) (nL := 5) (ret := (some .boolean)) (by decide) rfl hq hlen ?_
  intro p e s m args below meth c hC hr hnw
  refine body _ ?_ fx_W_take
  have hF := hC.1
  have hts := hC.1.2.2.2.2
  have hm : ∀ {w : Cond}, w ∈ TB → w.before args s = true := fun h => hts _ (List.mem_cons_of_mem _ h)
  refine List.forall_mem_cons.mpr ⟨fs_load_n hF d_Ex_allow_0 rfl, ?_⟩
  refine List.forall_mem_cons.mpr ⟨fs_table hC 8 d_Ex_allow_1 (by decide) (by decide +kernel) (by decide +kernel) (by decide), ?_⟩
  refine List.forall_mem_cons.mpr ⟨fs_load_n hF d_Ex_allow_48 rfl, ?_⟩
  refine List.forall_mem_cons.mpr ⟨fs_callSN hC nwl_ok hnw ⟨va_cnB 1 hts (tb_good wd_288) rfl rfl rfl (hnw _ (List.mem_of_getElem? (i := 24) rfl)) (hm wd_32) pd_Fc_isLine ⟨Nat.le_of_ble_eq_true rfl, Nat.le_of_ble_eq_true rfl⟩, hm wd_287⟩ d_Ex_allow_49, ?_⟩
  refine List.forall_mem_cons.mpr ⟨fs_zret hC hr d_Ex_allow_52, ?_⟩
  refine List.forall_mem_cons.mpr ⟨fs_loada hF d_Ex_allow_53, ?_⟩
  refine List.forall_mem_cons.mpr ⟨fs_load_n hF d_Ex_allow_55 rfl, ?_⟩
  refine List.forall_mem_cons.mpr ⟨fs_callV hC nwl_ok hnw (cN := 1) (ci := 1) (C := R_St) rfl rfl ⟨callB_of 1 hts (tb_good wd_292) rfl rfl rfl (hm wd_33) (hm wd_289) pd_St_has ⟨Nat.le_of_ble_eq_true rfl, Nat.le_of_ble_eq_true rfl⟩, hm wd_290, hm wd_291⟩ d_Ex_allow_56, ?_⟩
  refine List.forall_mem_cons.mpr ⟨fs_zret hC hr d_Ex_allow_59, ?_⟩
  refine List.forall_mem_cons.mpr ⟨fs_loada hF d_Ex_allow_60, ?_⟩
  refine List.forall_mem_cons.mpr ⟨fs_load_n hF d_Ex_allow_62 rfl, ?_⟩
  refine List.forall_mem_cons.mpr ⟨fs_callV hC nwl_ok hnw (cN := 1) (ci := 1) (C := R_St) rfl rfl ⟨callB_of 1 hts (tb_good wd_292) rfl rfl rfl (hm wd_33) (hm wd_289) pd_St_has ⟨Nat.le_of_ble_eq_true rfl, Nat.le_of_ble_eq_true rfl⟩, hm wd_290, hm wd_291⟩ d_Ex_allow_63, ?_⟩
  refine List.forall_mem_cons.mpr ⟨fs_ifeq hF d_Ex_allow_66 (by decide), ?_⟩
  refine List.forall_mem_cons.mpr ⟨fs_load_n hF d_Ex_allow_69 rfl, ?_⟩
  refine List.forall_mem_cons.mpr ⟨fs_callSN hC nwl_ok hnw ⟨va_cnB 1 hts (tb_good wd_295) rfl rfl rfl (hnw _ (List.mem_of_getElem? (i := 25) rfl)) (hm wd_32) pd_Fc_isSpan ⟨Nat.le_of_ble_eq_true rfl, Nat.le_of_ble_eq_true rfl⟩, hm wd_294⟩ d_Ex_allow_70, ?_⟩
  refine List.forall_mem_cons.mpr ⟨fs_ifeq hF d_Ex_allow_73 (by decide), ?_⟩
  refine List.forall_mem_cons.mpr ⟨fs_const hF d_Ex_allow_76 (by decide), ?_⟩
  refine List.forall_mem_cons.mpr ⟨fs_goto hF d_Ex_allow_77 (by decide), ?_⟩
  refine List.forall_mem_cons.mpr ⟨fs_const hF d_Ex_allow_80 (by decide), ?_⟩
  refine List.forall_mem_cons.mpr ⟨fs_zret hC hr d_Ex_allow_81, ?_⟩
  refine List.forall_mem_cons.mpr ⟨fs_loada_n hF d_Ex_allow_82 rfl, ?_⟩
  refine List.forall_mem_cons.mpr ⟨fs_load_n hF d_Ex_allow_83 rfl, ?_⟩
  refine List.forall_mem_cons.mpr ⟨fs_callV hC nwl_ok hnw (cN := 2) (ci := 2) (C := R_Ex) rfl rfl ⟨callB_of 1 hts (tb_good wd_300) rfl rfl rfl (hm wd_34) (hm wd_297) pd_Ex_canBePart ⟨Nat.le_of_ble_eq_true rfl, Nat.le_of_ble_eq_true rfl⟩, hm wd_299, hm wd_0⟩ d_Ex_allow_84, ?_⟩
  refine List.forall_mem_cons.mpr ⟨fs_zret hC hr d_Ex_allow_87, ?_⟩
  refine List.forall_mem_cons.mpr ⟨fs_loada_n hF d_Ex_allow_88 rfl, ?_⟩
  refine List.forall_mem_cons.mpr ⟨fs_load_n hF d_Ex_allow_89 rfl, ?_⟩
  refine List.forall_mem_cons.mpr ⟨fs_callV hC nwl_ok hnw (cN := 2) (ci := 2) (C := R_Ex) rfl rfl ⟨callB_of 1 hts (tb_good wd_300) rfl rfl rfl (hm wd_34) (hm wd_297) pd_Ex_canBePart ⟨Nat.le_of_ble_eq_true rfl, Nat.le_of_ble_eq_true rfl⟩, hm wd_299, hm wd_0⟩ d_Ex_allow_90, ?_⟩
  refine List.forall_mem_cons.mpr ⟨fs_ifeq hF d_Ex_allow_93 (by decide), ?_⟩
  refine List.forall_mem_cons.mpr ⟨fs_loada_n hF d_Ex_allow_96 rfl, ?_⟩
  refine List.forall_mem_cons.mpr ⟨fs_load_n hF d_Ex_allow_97 rfl, ?_⟩
  refine List.forall_mem_cons.mpr ⟨fs_callV hC nwl_ok hnw (cN := 2) (ci := 2) (C := R_Ex) rfl rfl ⟨callB_of 1 hts (tb_good wd_300) rfl rfl rfl (hm wd_34) (hm wd_297) pd_Ex_canBePart ⟨Nat.le_of_ble_eq_true rfl, Nat.le_of_ble_eq_true rfl⟩, hm wd_299, hm wd_0⟩ d_Ex_allow_98, ?_⟩
  refine List.forall_mem_cons.mpr ⟨fs_ifeq hF d_Ex_allow_101 (by decide), ?_⟩
  refine List.forall_mem_cons.mpr ⟨fs_const hF d_Ex_allow_104 (by decide), ?_⟩
  refine List.forall_mem_cons.mpr ⟨fs_goto hF d_Ex_allow_105 (by decide), ?_⟩
  refine List.forall_mem_cons.mpr ⟨fs_const hF d_Ex_allow_108 (by decide), ?_⟩
  refine List.forall_mem_cons.mpr ⟨fs_zret hC hr d_Ex_allow_109, ?_⟩
  refine List.forall_mem_cons.mpr ⟨fs_const hF d_Ex_allow_110 (by decide), ?_⟩
  refine List.forall_mem_cons.mpr ⟨fs_zret hC hr d_Ex_allow_111, ?_⟩
  exact fun _ h => absurd h List.not_mem_nil
abbrev rm_Ex_depthFor : Room := { frames := 1, cells := 0, slots := 0, locals := 21 }
def ws_Ex_depthFor : List Cond := .code y_Ex_depthFor c_Ex_depthFor 4 (some .int) :: TB
abbrev MC_Ex_depthFor (κ : fx_K) : List fx_V → fx_S → (Int32 → fx_S → Prop) → Prop := fx_Met κ.1 κ.2.1 vwCl κ.2.2.1 κ.2.2.2 lyX nwl y_Ex_depthFor ws_Ex_depthFor rm_Ex_depthFor true
def tt_Ex_depthFor (κ : fx_K) (post : Int32 → fx_S → Prop) : List (Nat × fx_M fx_S) := [(0, fm_load 1 1),
  (1, fm_sw [(5, 28), (6, 37), (7, 37)] 55),
  (28, fm_loada 0 29),
  (29, fm_getr 2 13 32),
  (32, fm_load 2 33),
  (33, fm_ald lnXI 34),
  (34, fm_const 1 35),
  (35, fm_iadd 36),
  (36, fm_ret post),
  (37, fm_loada 0 38),
  (38, fm_getr 2 13 41),
  (41, fm_load 2 42),
  (42, fm_ald lnXI 43),
  (43, fm_loada 0 44),
  (44, fm_getr 2 13 47),
  (47, fm_load 3 48),
  (48, fm_ald lnXI 49),
  (49, fm_max 52),
  (52, fm_const 1 53),
  (53, fm_iadd 54),
  (54, fm_ret post),
  (55, fm_const 0 56),
  (56, fm_ret post)]
set_option maxHeartbeats 4000000 in
set_option maxRecDepth 100000 in
theorem mo_Ex_depthFor {κ : fx_K} (hq : fx_I κ lyX.length) {av : List fx_V} {S : fx_S} {post : Int32 → fx_S → Prop} (hlen : av.length ≤ 4) (body : ∀ J : fx_J fx_S, (∀ r ∈ tt_Ex_depthFor κ post, fx_Snd J r.1 r.2) → (∀ pc k ls st S, J pc (ls.take k) st S → J pc ls st S) → J 0 av [] S) : MC_Ex_depthFor κ av S post := by
  refine fx_Met_of (cc := c_Ex_depthFor) (nL := 4) (ret := (some .int)) (by decide) rfl hq hlen ?_
  intro p e s m args below meth c hC hr hnw
  refine body _ ?_ fx_W_take
  have hF := hC.1
  have hts := hC.1.2.2.2.2
  have hm : ∀ {w : Cond}, w ∈ TB → w.before args s = true := fun h => hts _ (List.mem_cons_of_mem _ h)
  have g21 : ∀ (Q : State → Prop) (pc : Nat), decode c_Ex_depthFor pc = .ok (.getfield 21, 3) → fx_Snd (fx_W p κ.1 e rm_Ex_depthFor s m args below meth c Q (fx_A κ.2.2.2 lyX.length) 0 0 (fx_P κ.2.1 vwCl κ.2.2.1 κ.2.2.2 lyX) κ.2.2.2 4) pc (fm_getr 2 13 (pc + 3)) := fun Q pc hd => fs_getr hC (cN := 2) (j := 3) (ci := 2) (C := R_Ex) (T := T_Ex) (N := 5) rfl rfl rfl (by decide) (fun w h => List.mem_cons_of_mem _ (in_Ex w h)) (hm wd_82) hd
  refine List.forall_mem_cons.mpr ⟨fs_load_n hF d_Ex_depthFor_0 rfl, ?_⟩
  refine List.forall_mem_cons.mpr ⟨fs_table hC 3 d_Ex_depthFor_1 (by decide) (by decide +kernel) (by decide +kernel) (by decide), ?_⟩
  refine List.forall_mem_cons.mpr ⟨fs_loada_n hF d_Ex_depthFor_28 rfl, ?_⟩
  refine List.forall_mem_cons.mpr ⟨g21 _ 29 d_Ex_depthFor_29, ?_⟩
  refine List.forall_mem_cons.mpr ⟨fs_load_n hF d_Ex_depthFor_32 rfl, ?_⟩
  refine List.forall_mem_cons.mpr ⟨fs_ald hC lkXI d_Ex_depthFor_33, ?_⟩
  refine List.forall_mem_cons.mpr ⟨fs_const hF d_Ex_depthFor_34 (by decide), ?_⟩
  refine List.forall_mem_cons.mpr ⟨fs_iadd hF d_Ex_depthFor_35, ?_⟩
  refine List.forall_mem_cons.mpr ⟨fs_ret hC hr d_Ex_depthFor_36, ?_⟩
  refine List.forall_mem_cons.mpr ⟨fs_loada_n hF d_Ex_depthFor_37 rfl, ?_⟩
  refine List.forall_mem_cons.mpr ⟨g21 _ 38 d_Ex_depthFor_38, ?_⟩
  refine List.forall_mem_cons.mpr ⟨fs_load_n hF d_Ex_depthFor_41 rfl, ?_⟩
  refine List.forall_mem_cons.mpr ⟨fs_ald hC lkXI d_Ex_depthFor_42, ?_⟩
  refine List.forall_mem_cons.mpr ⟨fs_loada_n hF d_Ex_depthFor_43 rfl, ?_⟩
  refine List.forall_mem_cons.mpr ⟨g21 _ 44 d_Ex_depthFor_44, ?_⟩
  refine List.forall_mem_cons.mpr ⟨fs_load_n hF d_Ex_depthFor_47 rfl, ?_⟩
  refine List.forall_mem_cons.mpr ⟨fs_ald hC lkXI d_Ex_depthFor_48, ?_⟩
  refine List.forall_mem_cons.mpr ⟨fs_max hC (hm wd_313) (hm wd_314) (hm wd_40) (hm wd_315) (by decide) (by decide) d_Ex_depthFor_49, ?_⟩
  refine List.forall_mem_cons.mpr ⟨fs_const hF d_Ex_depthFor_52 (by decide), ?_⟩
  refine List.forall_mem_cons.mpr ⟨fs_iadd hF d_Ex_depthFor_53, ?_⟩
  refine List.forall_mem_cons.mpr ⟨fs_ret hC hr d_Ex_depthFor_54, ?_⟩
  refine List.forall_mem_cons.mpr ⟨fs_const hF d_Ex_depthFor_55 (by decide), ?_⟩
  refine List.forall_mem_cons.mpr ⟨fs_ret hC hr d_Ex_depthFor_56, ?_⟩
  exact fun _ h => absurd h List.not_mem_nil
abbrev rm_Ex_add : Room := { frames := 2, cells := 0, slots := 0, locals := 44 }
def ws_Ex_add : List Cond := .code y_Ex_add c_Ex_add 5 (some .int) :: TB
abbrev MC_Ex_add (κ : fx_K) : List fx_V → fx_S → (Int32 → fx_S → Prop) → Prop := fx_Met κ.1 κ.2.1 vwCl κ.2.2.1 κ.2.2.2 lyX nwl y_Ex_add ws_Ex_add rm_Ex_add true
def tt_Ex_add (κ : fx_K) (post : Int32 → fx_S → Prop) : List (Nat × fx_M fx_S) := [(0, fm_loada 0 1),
  (1, fm_dup 2),
  (2, fm_get 2 4 5),
  (5, fm_dupx1 6),
  (6, fm_const 1 7),
  (7, fm_iadd 8),
  (8, fm_put 2 4 11),
  (11, fm_store 4 13),
  (13, fm_loada 0 14),
  (14, fm_getr 2 10 17),
  (17, fm_load 4 19),
  (19, fm_load 1 20),
  (20, fm_ast lnXI 21),
  (21, fm_loada 0 22),
  (22, fm_getr 2 11 25),
  (25, fm_load 4 27),
  (27, fm_load 2 28),
  (28, fm_ast lnXI 29),
  (29, fm_loada 0 30),
  (30, fm_getr 2 12 33),
  (33, fm_load 4 35),
  (35, fm_load 3 36),
  (36, fm_ast lnXI 37),
  (37, fm_loada 0 38),
  (38, fm_getr 2 13 41),
  (41, fm_load 4 43),
  (43, fm_loada 0 44),
  (44, fm_load 1 45),
  (45, fm_load 2 46),
  (46, fm_load 3 47),
  (47, fm_call true 2 3 (MC_Ex_depthFor κ) 50),
  (50, fm_ast lnXI 51),
  (51, fm_load 4 53),
  (53, fm_ret post)]
set_option maxHeartbeats 4000000 in
set_option maxRecDepth 100000 in
theorem mo_Ex_add {κ : fx_K} (hq : fx_I κ lyX.length) {av : List fx_V} {S : fx_S} {post : Int32 → fx_S → Prop} (hlen : av.length ≤ 5) (body : ∀ J : fx_J fx_S, (∀ r ∈ tt_Ex_add κ post, fx_Snd J r.1 r.2) → (∀ pc k ls st S, J pc (ls.take k) st S → J pc ls st S) → J 0 av [] S) : MC_Ex_add κ av S post := by
  refine fx_Met_of (cc := c_Ex_add) (nL := 5) (ret := (some .int)) (by decide) rfl hq hlen ?_
  intro p e s m args below meth c hC hr hnw
  refine body _ ?_ fx_W_take
  have hF := hC.1
  have hts := hC.1.2.2.2.2
  have hm : ∀ {w : Cond}, w ∈ TB → w.before args s = true := fun h => hts _ (List.mem_cons_of_mem _ h)
  have g24 : ∀ (Q : State → Prop) (pc : Nat), decode c_Ex_add pc = .ok (.getfield 24, 3) → fx_Snd (fx_W p κ.1 e rm_Ex_add s m args below meth c Q (fx_A κ.2.2.2 lyX.length) 0 0 (fx_P κ.2.1 vwCl κ.2.2.1 κ.2.2.2 lyX) κ.2.2.2 5) pc (fm_get 2 4 (pc + 3)) := fun Q pc hd => fs_get hC (cN := 2) (j := 4) (ci := 2) (C := R_Ex) (T := T_Ex) (N := 5) rfl rfl rfl (by decide) (fun w h => List.mem_cons_of_mem _ (in_Ex w h)) (hm wd_83) hd
  have g9 : ∀ (Q : State → Prop) (pc : Nat), decode c_Ex_add pc = .ok (.getfield 9, 3) → fx_Snd (fx_W p κ.1 e rm_Ex_add s m args below meth c Q (fx_A κ.2.2.2 lyX.length) 0 0 (fx_P κ.2.1 vwCl κ.2.2.1 κ.2.2.2 lyX) κ.2.2.2 5) pc (fm_getr 2 10 (pc + 3)) := fun Q pc hd => fs_getr hC (cN := 2) (j := 0) (ci := 2) (C := R_Ex) (T := T_Ex) (N := 5) rfl rfl rfl (by decide) (fun w h => List.mem_cons_of_mem _ (in_Ex w h)) (hm wd_79) hd
  have g15 : ∀ (Q : State → Prop) (pc : Nat), decode c_Ex_add pc = .ok (.getfield 15, 3) → fx_Snd (fx_W p κ.1 e rm_Ex_add s m args below meth c Q (fx_A κ.2.2.2 lyX.length) 0 0 (fx_P κ.2.1 vwCl κ.2.2.1 κ.2.2.2 lyX) κ.2.2.2 5) pc (fm_getr 2 11 (pc + 3)) := fun Q pc hd => fs_getr hC (cN := 2) (j := 1) (ci := 2) (C := R_Ex) (T := T_Ex) (N := 5) rfl rfl rfl (by decide) (fun w h => List.mem_cons_of_mem _ (in_Ex w h)) (hm wd_80) hd
  have g18 : ∀ (Q : State → Prop) (pc : Nat), decode c_Ex_add pc = .ok (.getfield 18, 3) → fx_Snd (fx_W p κ.1 e rm_Ex_add s m args below meth c Q (fx_A κ.2.2.2 lyX.length) 0 0 (fx_P κ.2.1 vwCl κ.2.2.1 κ.2.2.2 lyX) κ.2.2.2 5) pc (fm_getr 2 12 (pc + 3)) := fun Q pc hd => fs_getr hC (cN := 2) (j := 2) (ci := 2) (C := R_Ex) (T := T_Ex) (N := 5) rfl rfl rfl (by decide) (fun w h => List.mem_cons_of_mem _ (in_Ex w h)) (hm wd_81) hd
  have g21 : ∀ (Q : State → Prop) (pc : Nat), decode c_Ex_add pc = .ok (.getfield 21, 3) → fx_Snd (fx_W p κ.1 e rm_Ex_add s m args below meth c Q (fx_A κ.2.2.2 lyX.length) 0 0 (fx_P κ.2.1 vwCl κ.2.2.1 κ.2.2.2 lyX) κ.2.2.2 5) pc (fm_getr 2 13 (pc + 3)) := fun Q pc hd => fs_getr hC (cN := 2) (j := 3) (ci := 2) (C := R_Ex) (T := T_Ex) (N := 5) rfl rfl rfl (by decide) (fun w h => List.mem_cons_of_mem _ (in_Ex w h)) (hm wd_82) hd
  refine List.forall_mem_cons.mpr ⟨fs_loada_n hF d_Ex_add_0 rfl, ?_⟩
  refine List.forall_mem_cons.mpr ⟨fs_dup hF d_Ex_add_1, ?_⟩
  refine List.forall_mem_cons.mpr ⟨g24 _ 2 d_Ex_add_2, ?_⟩
  refine List.forall_mem_cons.mpr ⟨fs_dupx1 hF d_Ex_add_5, ?_⟩
  refine List.forall_mem_cons.mpr ⟨fs_const hF d_Ex_add_6 (by decide), ?_⟩
  refine List.forall_mem_cons.mpr ⟨fs_iadd hF d_Ex_add_7, ?_⟩
  refine List.forall_mem_cons.mpr ⟨fs_put hC (cN := 2) (j := 4) (ci := 2) (C := R_Ex) (T := T_Ex) (N := 5) rfl rfl rfl (by decide) ty_Ex tk_Ex nm_Ex rfl (by decide +kernel) (fun w h => List.mem_cons_of_mem _ (in_Ex w h)) (hm wd_83) d_Ex_add_8, ?_⟩
  refine List.forall_mem_cons.mpr ⟨fs_store hF d_Ex_add_11 (by decide), ?_⟩
  refine List.forall_mem_cons.mpr ⟨fs_loada_n hF d_Ex_add_13 rfl, ?_⟩
  refine List.forall_mem_cons.mpr ⟨g9 _ 14 d_Ex_add_14, ?_⟩
  refine List.forall_mem_cons.mpr ⟨fs_load hF d_Ex_add_17, ?_⟩
  refine List.forall_mem_cons.mpr ⟨fs_load_n hF d_Ex_add_19 rfl, ?_⟩
  refine List.forall_mem_cons.mpr ⟨fs_ast hC lkXI d_Ex_add_20, ?_⟩
  refine List.forall_mem_cons.mpr ⟨fs_loada_n hF d_Ex_add_21 rfl, ?_⟩
  refine List.forall_mem_cons.mpr ⟨g15 _ 22 d_Ex_add_22, ?_⟩
  refine List.forall_mem_cons.mpr ⟨fs_load hF d_Ex_add_25, ?_⟩
  refine List.forall_mem_cons.mpr ⟨fs_load_n hF d_Ex_add_27 rfl, ?_⟩
  refine List.forall_mem_cons.mpr ⟨fs_ast hC lkXI d_Ex_add_28, ?_⟩
  refine List.forall_mem_cons.mpr ⟨fs_loada_n hF d_Ex_add_29 rfl, ?_⟩
  refine List.forall_mem_cons.mpr ⟨g18 _ 30 d_Ex_add_30, ?_⟩
  refine List.forall_mem_cons.mpr ⟨fs_load hF d_Ex_add_33, ?_⟩
  refine List.forall_mem_cons.mpr ⟨fs_load_n hF d_Ex_add_35 rfl, ?_⟩
  refine List.forall_mem_cons.mpr ⟨fs_ast hC lkXI d_Ex_add_36, ?_⟩
  refine List.forall_mem_cons.mpr ⟨fs_loada_n hF d_Ex_add_37 rfl, ?_⟩
  refine List.forall_mem_cons.mpr ⟨g21 _ 38 d_Ex_add_38, ?_⟩
  refine List.forall_mem_cons.mpr ⟨fs_load hF d_Ex_add_41, ?_⟩
  refine List.forall_mem_cons.mpr ⟨fs_loada_n hF d_Ex_add_43 rfl, ?_⟩
  refine List.forall_mem_cons.mpr ⟨fs_load_n hF d_Ex_add_44 rfl, ?_⟩
  refine List.forall_mem_cons.mpr ⟨fs_load_n hF d_Ex_add_45 rfl, ?_⟩
  refine List.forall_mem_cons.mpr ⟨fs_load_n hF d_Ex_add_46 rfl, ?_⟩
  refine List.forall_mem_cons.mpr ⟨fs_callV hC nwl_ok hnw (cN := 2) (ci := 2) (C := R_Ex) rfl rfl ⟨callB_of 3 hts (tb_good wd_312) rfl rfl rfl (hm wd_34) (hm wd_309) pd_Ex_depthFor ⟨Nat.le_of_ble_eq_true rfl, Nat.le_of_ble_eq_true rfl⟩, hm wd_311, hm wd_1⟩ d_Ex_add_47, ?_⟩
  refine List.forall_mem_cons.mpr ⟨fs_ast hC lkXI d_Ex_add_50, ?_⟩
  refine List.forall_mem_cons.mpr ⟨fs_load hF d_Ex_add_51, ?_⟩
  refine List.forall_mem_cons.mpr ⟨fs_ret hC hr d_Ex_add_53, ?_⟩
  exact fun _ h => absurd h List.not_mem_nil
abbrev rm_Ex_holds : Room := { frames := 2, cells := 0, slots := 0, locals := 42 }
def ws_Ex_holds : List Cond := .code y_Ex_holds c_Ex_holds 6 (some .boolean) :: TB
abbrev MC_Ex_holds (κ : fx_K) : List fx_V → fx_S → (Int32 → fx_S → Prop) → Prop := fx_Met κ.1 κ.2.1 vwCl κ.2.2.1 κ.2.2.2 lyX nwl y_Ex_holds ws_Ex_holds rm_Ex_holds true
def tt_Ex_holds (κ : fx_K) (post : Int32 → fx_S → Prop) : List (Nat × fx_M fx_S) := [(0, fm_loada 0 1),
  (1, fm_getr 2 11 4),
  (4, fm_load 1 5),
  (5, fm_ald lnXI 6),
  (6, fm_store 4 8),
  (8, fm_loada 0 9),
  (9, fm_getr 2 12 12),
  (12, fm_load 1 13),
  (13, fm_ald lnXI 14),
  (14, fm_store 5 16),
  (16, fm_loada 0 17),
  (17, fm_getr 2 10 20),
  (20, fm_load 1 21),
  (21, fm_ald lnXI 22),
  (22, fm_sw [(0, 64), (1, 74), (2, 84), (3, 94), (4, 104), (5, 133), (6, 148)] 172),
  (64, fm_load 4 66),
  (66, fm_loada 3 67),
  (67, fm_get 6 2 70),
  (70, fm_calls true 2 (MC_Fc_isIn κ) 73),
  (73, fm_zret post),
  (74, fm_load 4 76),
  (76, fm_loada 3 77),
  (77, fm_get 6 3 80),
  (80, fm_calls true 2 (MC_Fc_isIn κ) 83),
  (83, fm_zret post),
  (84, fm_load 4 86),
  (86, fm_loada 3 87),
  (87, fm_get 6 4 90),
  (90, fm_calls true 2 (MC_Fc_isIn κ) 93),
  (93, fm_zret post),
  (94, fm_load 4 96),
  (96, fm_loada 3 97),
  (97, fm_get 6 5 100),
  (100, fm_calls true 2 (MC_Fc_isIn κ) 103),
  (103, fm_zret post),
  (104, fm_load 4 106),
  (106, fm_loada 3 107),
  (107, fm_get 6 5 110),
  (110, fm_calls true 2 (MC_Fc_isIn κ) 113),
  (113, fm_ifeq 131 116),
  (116, fm_loada 3 117),
  (117, fm_load 4 119),
  (119, fm_call true 6 1 (MC_Ti_timeOf κ) 122),
  (122, fm_load 5 124),
  (124, fm_cmplt 131 127),
  (127, fm_const 1 128),
  (128, fm_goto 132),
  (131, fm_const 0 132),
  (132, fm_zret post),
  (133, fm_load 4 135),
  (135, fm_load 2 136),
  (136, fm_calls true 2 (MC_Fc_isIn κ) 139),
  (139, fm_ifne 146 142),
  (142, fm_const 1 143),
  (143, fm_goto 147),
  (146, fm_const 0 147),
  (147, fm_zret post),
  (148, fm_load 4 150),
  (150, fm_load 2 151),
  (151, fm_calls true 2 (MC_Fc_isIn κ) 154),
  (154, fm_ifeq 170 157),
  (157, fm_load 5 159),
  (159, fm_load 2 160),
  (160, fm_calls true 2 (MC_Fc_isIn κ) 163),
  (163, fm_ifeq 170 166),
  (166, fm_const 1 167),
  (167, fm_goto 171),
  (170, fm_const 0 171),
  (171, fm_zret post),
  (172, fm_load 4 174),
  (174, fm_load 2 175),
  (175, fm_calls true 2 (MC_Fc_isIn κ) 178),
  (178, fm_ifne 190 181),
  (181, fm_load 5 183),
  (183, fm_load 2 184),
  (184, fm_calls true 2 (MC_Fc_isIn κ) 187),
  (187, fm_ifeq 194 190),
  (190, fm_const 1 191),
  (191, fm_goto 195),
  (194, fm_const 0 195),
  (195, fm_zret post)]
set_option maxHeartbeats 4000000 in
set_option maxRecDepth 100000 in
theorem mo_Ex_holds {κ : fx_K} (hq : fx_I κ lyX.length) {av : List fx_V} {S : fx_S} {post : Int32 → fx_S → Prop} (hlen : av.length ≤ 6) (body : ∀ J : fx_J fx_S, (∀ r ∈ tt_Ex_holds κ post, fx_Snd J r.1 r.2) → (∀ pc k ls st S, J pc (ls.take k) st S → J pc ls st S) → J 0 av [] S) : MC_Ex_holds κ av S post := by
  refine fx_Met_of (cc := c_Ex_holds) (nL := 6) (ret := (some .boolean)) (by decide) rfl hq hlen ?_
  intro p e s m args below meth c hC hr hnw
  refine body _ ?_ fx_W_take
  have hF := hC.1
  have hts := hC.1.2.2.2.2
  have hm : ∀ {w : Cond}, w ∈ TB → w.before args s = true := fun h => hts _ (List.mem_cons_of_mem _ h)
  have g15 : ∀ (Q : State → Prop) (pc : Nat), decode c_Ex_holds pc = .ok (.getfield 15, 3) → fx_Snd (fx_W p κ.1 e rm_Ex_holds s m args below meth c Q (fx_A κ.2.2.2 lyX.length) 0 0 (fx_P κ.2.1 vwCl κ.2.2.1 κ.2.2.2 lyX) κ.2.2.2 6) pc (fm_getr 2 11 (pc + 3)) := fun Q pc hd => fs_getr hC (cN := 2) (j := 1) (ci := 2) (C := R_Ex) (T := T_Ex) (N := 5) rfl rfl rfl (by decide) (fun w h => List.mem_cons_of_mem _ (in_Ex w h)) (hm wd_80) hd
  have g18 : ∀ (Q : State → Prop) (pc : Nat), decode c_Ex_holds pc = .ok (.getfield 18, 3) → fx_Snd (fx_W p κ.1 e rm_Ex_holds s m args below meth c Q (fx_A κ.2.2.2 lyX.length) 0 0 (fx_P κ.2.1 vwCl κ.2.2.1 κ.2.2.2 lyX) κ.2.2.2 6) pc (fm_getr 2 12 (pc + 3)) := fun Q pc hd => fs_getr hC (cN := 2) (j := 2) (ci := 2) (C := R_Ex) (T := T_Ex) (N := 5) rfl rfl rfl (by decide) (fun w h => List.mem_cons_of_mem _ (in_Ex w h)) (hm wd_81) hd
  have g9 : ∀ (Q : State → Prop) (pc : Nat), decode c_Ex_holds pc = .ok (.getfield 9, 3) → fx_Snd (fx_W p κ.1 e rm_Ex_holds s m args below meth c Q (fx_A κ.2.2.2 lyX.length) 0 0 (fx_P κ.2.1 vwCl κ.2.2.1 κ.2.2.2 lyX) κ.2.2.2 6) pc (fm_getr 2 10 (pc + 3)) := fun Q pc hd => fs_getr hC (cN := 2) (j := 0) (ci := 2) (C := R_Ex) (T := T_Ex) (N := 5) rfl rfl rfl (by decide) (fun w h => List.mem_cons_of_mem _ (in_Ex w h)) (hm wd_79) hd
  have g58 : ∀ (Q : State → Prop) (pc : Nat), decode c_Ex_holds pc = .ok (.getfield 58, 3) → fx_Snd (fx_W p κ.1 e rm_Ex_holds s m args below meth c Q (fx_A κ.2.2.2 lyX.length) 0 0 (fx_P κ.2.1 vwCl κ.2.2.1 κ.2.2.2 lyX) κ.2.2.2 6) pc (fm_get 6 2 (pc + 3)) := fun Q pc hd => fs_getN hC (cN := 6) (j := 2) (ci := 6) (C := R_Ti) (T := T_Ti) (N := 11) rfl rfl rfl (by decide) (fun w h => List.mem_cons_of_mem _ (in_Ti w h)) (hnw _ (List.mem_of_getElem? (i := 15) rfl)) hd
  have g67 : ∀ (Q : State → Prop) (pc : Nat), decode c_Ex_holds pc = .ok (.getfield 67, 3) → fx_Snd (fx_W p κ.1 e rm_Ex_holds s m args below meth c Q (fx_A κ.2.2.2 lyX.length) 0 0 (fx_P κ.2.1 vwCl κ.2.2.1 κ.2.2.2 lyX) κ.2.2.2 6) pc (fm_get 6 3 (pc + 3)) := fun Q pc hd => fs_getN hC (cN := 6) (j := 3) (ci := 6) (C := R_Ti) (T := T_Ti) (N := 11) rfl rfl rfl (by decide) (fun w h => List.mem_cons_of_mem _ (in_Ti w h)) (hnw _ (List.mem_of_getElem? (i := 16) rfl)) hd
  have g70 : ∀ (Q : State → Prop) (pc : Nat), decode c_Ex_holds pc = .ok (.getfield 70, 3) → fx_Snd (fx_W p κ.1 e rm_Ex_holds s m args below meth c Q (fx_A κ.2.2.2 lyX.length) 0 0 (fx_P κ.2.1 vwCl κ.2.2.1 κ.2.2.2 lyX) κ.2.2.2 6) pc (fm_get 6 4 (pc + 3)) := fun Q pc hd => fs_getN hC (cN := 6) (j := 4) (ci := 6) (C := R_Ti) (T := T_Ti) (N := 11) rfl rfl rfl (by decide) (fun w h => List.mem_cons_of_mem _ (in_Ti w h)) (hnw _ (List.mem_of_getElem? (i := 17) rfl)) hd
  have g73 : ∀ (Q : State → Prop) (pc : Nat), decode c_Ex_holds pc = .ok (.getfield 73, 3) → fx_Snd (fx_W p κ.1 e rm_Ex_holds s m args below meth c Q (fx_A κ.2.2.2 lyX.length) 0 0 (fx_P κ.2.1 vwCl κ.2.2.1 κ.2.2.2 lyX) κ.2.2.2 6) pc (fm_get 6 5 (pc + 3)) := fun Q pc hd => fs_getN hC (cN := 6) (j := 5) (ci := 6) (C := R_Ti) (T := T_Ti) (N := 11) rfl rfl rfl (by decide) (fun w h => List.mem_cons_of_mem _ (in_Ti w h)) (hnw _ (List.mem_of_getElem? (i := 18) rfl)) hd
  refine List.forall_mem_cons.mpr ⟨fs_loada_n hF d_Ex_holds_0 rfl, ?_⟩
  refine List.forall_mem_cons.mpr ⟨g15 _ 1 d_Ex_holds_1, ?_⟩
  refine List.forall_mem_cons.mpr ⟨fs_load_n hF d_Ex_holds_4 rfl, ?_⟩
  refine List.forall_mem_cons.mpr ⟨fs_ald hC lkXI d_Ex_holds_5, ?_⟩
  refine List.forall_mem_cons.mpr ⟨fs_store hF d_Ex_holds_6 (by decide), ?_⟩
  refine List.forall_mem_cons.mpr ⟨fs_loada_n hF d_Ex_holds_8 rfl, ?_⟩
  refine List.forall_mem_cons.mpr ⟨g18 _ 9 d_Ex_holds_9, ?_⟩
  refine List.forall_mem_cons.mpr ⟨fs_load_n hF d_Ex_holds_12 rfl, ?_⟩
  refine List.forall_mem_cons.mpr ⟨fs_ald hC lkXI d_Ex_holds_13, ?_⟩
  refine List.forall_mem_cons.mpr ⟨fs_store hF d_Ex_holds_14 (by decide), ?_⟩
  refine List.forall_mem_cons.mpr ⟨fs_loada_n hF d_Ex_holds_16 rfl, ?_⟩
  refine List.forall_mem_cons.mpr ⟨g9 _ 17 d_Ex_holds_17, ?_⟩
  refine List.forall_mem_cons.mpr ⟨fs_load_n hF d_Ex_holds_20 rfl, ?_⟩
  refine List.forall_mem_cons.mpr ⟨fs_ald hC lkXI d_Ex_holds_21, ?_⟩
  refine List.forall_mem_cons.mpr ⟨fs_table hC 7 d_Ex_holds_22 (by decide) (by decide +kernel) (by decide +kernel) (by decide), ?_⟩
  refine List.forall_mem_cons.mpr ⟨fs_load hF d_Ex_holds_64, ?_⟩
  refine List.forall_mem_cons.mpr ⟨fs_loada_n hF d_Ex_holds_66 rfl, ?_⟩
  refine List.forall_mem_cons.mpr ⟨g58 _ 67 d_Ex_holds_67, ?_⟩
  refine List.forall_mem_cons.mpr ⟨fs_callSN hC nwl_ok hnw ⟨va_cnB 2 hts (tb_good wd_369) rfl rfl rfl (hnw _ (List.mem_of_getElem? (i := 29) rfl)) (hm wd_32) pd_Fc_isIn ⟨Nat.le_of_ble_eq_true rfl, Nat.le_of_ble_eq_true rfl⟩, hm wd_368⟩ d_Ex_holds_70, ?_⟩
  refine List.forall_mem_cons.mpr ⟨fs_zret hC hr d_Ex_holds_73, ?_⟩
  refine List.forall_mem_cons.mpr ⟨fs_load hF d_Ex_holds_74, ?_⟩
  refine List.forall_mem_cons.mpr ⟨fs_loada_n hF d_Ex_holds_76 rfl, ?_⟩
  refine List.forall_mem_cons.mpr ⟨g67 _ 77 d_Ex_holds_77, ?_⟩
  refine List.forall_mem_cons.mpr ⟨fs_callSN hC nwl_ok hnw ⟨va_cnB 2 hts (tb_good wd_369) rfl rfl rfl (hnw _ (List.mem_of_getElem? (i := 29) rfl)) (hm wd_32) pd_Fc_isIn ⟨Nat.le_of_ble_eq_true rfl, Nat.le_of_ble_eq_true rfl⟩, hm wd_368⟩ d_Ex_holds_80, ?_⟩
  refine List.forall_mem_cons.mpr ⟨fs_zret hC hr d_Ex_holds_83, ?_⟩
  refine List.forall_mem_cons.mpr ⟨fs_load hF d_Ex_holds_84, ?_⟩
  refine List.forall_mem_cons.mpr ⟨fs_loada_n hF d_Ex_holds_86 rfl, ?_⟩
  refine List.forall_mem_cons.mpr ⟨g70 _ 87 d_Ex_holds_87, ?_⟩
  refine List.forall_mem_cons.mpr ⟨fs_callSN hC nwl_ok hnw ⟨va_cnB 2 hts (tb_good wd_369) rfl rfl rfl (hnw _ (List.mem_of_getElem? (i := 29) rfl)) (hm wd_32) pd_Fc_isIn ⟨Nat.le_of_ble_eq_true rfl, Nat.le_of_ble_eq_true rfl⟩, hm wd_368⟩ d_Ex_holds_90, ?_⟩
  refine List.forall_mem_cons.mpr ⟨fs_zret hC hr d_Ex_holds_93, ?_⟩
  refine List.forall_mem_cons.mpr ⟨fs_load hF d_Ex_holds_94, ?_⟩
  refine List.forall_mem_cons.mpr ⟨fs_loada_n hF d_Ex_holds_96 rfl, ?_⟩
  refine List.forall_mem_cons.mpr ⟨g73 _ 97 d_Ex_holds_97, ?_⟩
  refine List.forall_mem_cons.mpr ⟨fs_callSN hC nwl_ok hnw ⟨va_cnB 2 hts (tb_good wd_369) rfl rfl rfl (hnw _ (List.mem_of_getElem? (i := 29) rfl)) (hm wd_32) pd_Fc_isIn ⟨Nat.le_of_ble_eq_true rfl, Nat.le_of_ble_eq_true rfl⟩, hm wd_368⟩ d_Ex_holds_100, ?_⟩
  refine List.forall_mem_cons.mpr ⟨fs_zret hC hr d_Ex_holds_103, ?_⟩
  refine List.forall_mem_cons.mpr ⟨fs_load hF d_Ex_holds_104, ?_⟩
  refine List.forall_mem_cons.mpr ⟨fs_loada_n hF d_Ex_holds_106 rfl, ?_⟩
  refine List.forall_mem_cons.mpr ⟨g73 _ 107 d_Ex_holds_107, ?_⟩
  refine List.forall_mem_cons.mpr ⟨fs_callSN hC nwl_ok hnw ⟨va_cnB 2 hts (tb_good wd_369) rfl rfl rfl (hnw _ (List.mem_of_getElem? (i := 29) rfl)) (hm wd_32) pd_Fc_isIn ⟨Nat.le_of_ble_eq_true rfl, Nat.le_of_ble_eq_true rfl⟩, hm wd_368⟩ d_Ex_holds_110, ?_⟩
  refine List.forall_mem_cons.mpr ⟨fs_ifeq hF d_Ex_holds_113 (by decide), ?_⟩
  refine List.forall_mem_cons.mpr ⟨fs_loada_n hF d_Ex_holds_116 rfl, ?_⟩
  refine List.forall_mem_cons.mpr ⟨fs_load hF d_Ex_holds_117, ?_⟩
  refine List.forall_mem_cons.mpr ⟨fs_callV hC nwl_ok hnw (cN := 6) (ci := 6) (C := R_Ti) rfl rfl ⟨callB_of 1 hts (tb_good wd_432) rfl rfl rfl (hm wd_38) (hm wd_429) pd_Ti_timeOf ⟨Nat.le_of_ble_eq_true rfl, Nat.le_of_ble_eq_true rfl⟩, hm wd_430, hm wd_431⟩ d_Ex_holds_119, ?_⟩
  refine List.forall_mem_cons.mpr ⟨fs_load hF d_Ex_holds_122, ?_⟩
  refine List.forall_mem_cons.mpr ⟨fs_cmplt hF d_Ex_holds_124 (by decide), ?_⟩
  refine List.forall_mem_cons.mpr ⟨fs_const hF d_Ex_holds_127 (by decide), ?_⟩
  refine List.forall_mem_cons.mpr ⟨fs_goto hF d_Ex_holds_128 (by decide), ?_⟩
  refine List.forall_mem_cons.mpr ⟨fs_const hF d_Ex_holds_131 (by decide), ?_⟩
  refine List.forall_mem_cons.mpr ⟨fs_zret hC hr d_Ex_holds_132, ?_⟩
  refine List.forall_mem_cons.mpr ⟨fs_load hF d_Ex_holds_133, ?_⟩
  refine List.forall_mem_cons.mpr ⟨fs_load_n hF d_Ex_holds_135 rfl, ?_⟩
  refine List.forall_mem_cons.mpr ⟨fs_callSN hC nwl_ok hnw ⟨va_cnB 2 hts (tb_good wd_369) rfl rfl rfl (hnw _ (List.mem_of_getElem? (i := 29) rfl)) (hm wd_32) pd_Fc_isIn ⟨Nat.le_of_ble_eq_true rfl, Nat.le_of_ble_eq_true rfl⟩, hm wd_368⟩ d_Ex_holds_136, ?_⟩
  refine List.forall_mem_cons.mpr ⟨fs_ifne hF d_Ex_holds_139 (by decide), ?_⟩
  refine List.forall_mem_cons.mpr ⟨fs_const hF d_Ex_holds_142 (by decide), ?_⟩
  refine List.forall_mem_cons.mpr ⟨fs_goto hF d_Ex_holds_143 (by decide), ?_⟩
  refine List.forall_mem_cons.mpr ⟨fs_const hF d_Ex_holds_146 (by decide), ?_⟩
  refine List.forall_mem_cons.mpr ⟨fs_zret hC hr d_Ex_holds_147, ?_⟩
  refine List.forall_mem_cons.mpr ⟨fs_load hF d_Ex_holds_148, ?_⟩
  refine List.forall_mem_cons.mpr ⟨fs_load_n hF d_Ex_holds_150 rfl, ?_⟩
  refine List.forall_mem_cons.mpr ⟨fs_callSN hC nwl_ok hnw ⟨va_cnB 2 hts (tb_good wd_369) rfl rfl rfl (hnw _ (List.mem_of_getElem? (i := 29) rfl)) (hm wd_32) pd_Fc_isIn ⟨Nat.le_of_ble_eq_true rfl, Nat.le_of_ble_eq_true rfl⟩, hm wd_368⟩ d_Ex_holds_151, ?_⟩
  refine List.forall_mem_cons.mpr ⟨fs_ifeq hF d_Ex_holds_154 (by decide), ?_⟩
  refine List.forall_mem_cons.mpr ⟨fs_load hF d_Ex_holds_157, ?_⟩
  refine List.forall_mem_cons.mpr ⟨fs_load_n hF d_Ex_holds_159 rfl, ?_⟩
  refine List.forall_mem_cons.mpr ⟨fs_callSN hC nwl_ok hnw ⟨va_cnB 2 hts (tb_good wd_369) rfl rfl rfl (hnw _ (List.mem_of_getElem? (i := 29) rfl)) (hm wd_32) pd_Fc_isIn ⟨Nat.le_of_ble_eq_true rfl, Nat.le_of_ble_eq_true rfl⟩, hm wd_368⟩ d_Ex_holds_160, ?_⟩
  refine List.forall_mem_cons.mpr ⟨fs_ifeq hF d_Ex_holds_163 (by decide), ?_⟩
  refine List.forall_mem_cons.mpr ⟨fs_const hF d_Ex_holds_166 (by decide), ?_⟩
  refine List.forall_mem_cons.mpr ⟨fs_goto hF d_Ex_holds_167 (by decide), ?_⟩
  refine List.forall_mem_cons.mpr ⟨fs_const hF d_Ex_holds_170 (by decide), ?_⟩
  refine List.forall_mem_cons.mpr ⟨fs_zret hC hr d_Ex_holds_171, ?_⟩
  refine List.forall_mem_cons.mpr ⟨fs_load hF d_Ex_holds_172, ?_⟩
  refine List.forall_mem_cons.mpr ⟨fs_load_n hF d_Ex_holds_174 rfl, ?_⟩
  refine List.forall_mem_cons.mpr ⟨fs_callSN hC nwl_ok hnw ⟨va_cnB 2 hts (tb_good wd_369) rfl rfl rfl (hnw _ (List.mem_of_getElem? (i := 29) rfl)) (hm wd_32) pd_Fc_isIn ⟨Nat.le_of_ble_eq_true rfl, Nat.le_of_ble_eq_true rfl⟩, hm wd_368⟩ d_Ex_holds_175, ?_⟩
  refine List.forall_mem_cons.mpr ⟨fs_ifne hF d_Ex_holds_178 (by decide), ?_⟩
  refine List.forall_mem_cons.mpr ⟨fs_load hF d_Ex_holds_181, ?_⟩
  refine List.forall_mem_cons.mpr ⟨fs_load_n hF d_Ex_holds_183 rfl, ?_⟩
  refine List.forall_mem_cons.mpr ⟨fs_callSN hC nwl_ok hnw ⟨va_cnB 2 hts (tb_good wd_369) rfl rfl rfl (hnw _ (List.mem_of_getElem? (i := 29) rfl)) (hm wd_32) pd_Fc_isIn ⟨Nat.le_of_ble_eq_true rfl, Nat.le_of_ble_eq_true rfl⟩, hm wd_368⟩ d_Ex_holds_184, ?_⟩
  refine List.forall_mem_cons.mpr ⟨fs_ifeq hF d_Ex_holds_187 (by decide), ?_⟩
  refine List.forall_mem_cons.mpr ⟨fs_const hF d_Ex_holds_190 (by decide), ?_⟩
  refine List.forall_mem_cons.mpr ⟨fs_goto hF d_Ex_holds_191 (by decide), ?_⟩
  refine List.forall_mem_cons.mpr ⟨fs_const hF d_Ex_holds_194 (by decide), ?_⟩
  refine List.forall_mem_cons.mpr ⟨fs_zret hC hr d_Ex_holds_195, ?_⟩
  exact fun _ h => absurd h List.not_mem_nil
abbrev rm_Ex_trueIn : Room := { frames := 3, cells := 0, slots := 0, locals := 67 }
def ws_Ex_trueIn : List Cond := .code y_Ex_trueIn c_Ex_trueIn 4 (some .int) :: TB
abbrev MC_Ex_trueIn (κ : fx_K) : List fx_V → fx_S → (Int32 → fx_S → Prop) → Prop := fx_Met κ.1 κ.2.1 vwCl κ.2.2.1 κ.2.2.2 lyX nwl y_Ex_trueIn ws_Ex_trueIn rm_Ex_trueIn true
def tt_Ex_trueIn (κ : fx_K) (post : Int32 → fx_S → Prop) : List (Nat × fx_M fx_S) := [(0, fm_const 0 1),
  (1, fm_store 2 2),
  (2, fm_const 0 3),
  (3, fm_store 3 4),
  (4, fm_load 3 5),
  (5, fm_loada 0 6),
  (6, fm_get 2 4 9),
  (9, fm_cmpge 34 12),
  (12, fm_loada 0 13),
  (13, fm_load 3 14),
  (14, fm_load 2 15),
  (15, fm_loada 1 16),
  (16, fm_call true 2 3 (MC_Ex_holds κ) 19),
  (19, fm_ifeq 28 22),
  (22, fm_load 2 23),
  (23, fm_const 1 24),
  (24, fm_load 3 25),
  (25, fm_ishl 26),
  (26, fm_ior 27),
  (27, fm_store 2 28),
  (28, fm_inc 3 1 31),
  (31, fm_goto 4),
  (34, fm_load 2 35),
  (35, fm_ret post)]
set_option maxHeartbeats 4000000 in
set_option maxRecDepth 100000 in
theorem mo_Ex_trueIn {κ : fx_K} (hq : fx_I κ lyX.length) {av : List fx_V} {S : fx_S} {post : Int32 → fx_S → Prop} (hlen : av.length ≤ 4) (body : ∀ J : fx_J fx_S, (∀ r ∈ tt_Ex_trueIn κ post, fx_Snd J r.1 r.2) → (∀ pc k ls st S, J pc (ls.take k) st S → J pc ls st S) → J 0 av [] S) : MC_Ex_trueIn κ av S post := by
  refine fx_Met_of (cc := c_Ex_trueIn) (nL := 4) (ret := (some .int)) (by decide) rfl hq hlen ?_
  intro p e s m args below meth c hC hr hnw
  refine body _ ?_ fx_W_take
  have hF := hC.1
  have hts := hC.1.2.2.2.2
  have hm : ∀ {w : Cond}, w ∈ TB → w.before args s = true := fun h => hts _ (List.mem_cons_of_mem _ h)
  have g24 : ∀ (Q : State → Prop) (pc : Nat), decode c_Ex_trueIn pc = .ok (.getfield 24, 3) → fx_Snd (fx_W p κ.1 e rm_Ex_trueIn s m args below meth c Q (fx_A κ.2.2.2 lyX.length) 0 0 (fx_P κ.2.1 vwCl κ.2.2.1 κ.2.2.2 lyX) κ.2.2.2 4) pc (fm_get 2 4 (pc + 3)) := fun Q pc hd => fs_get hC (cN := 2) (j := 4) (ci := 2) (C := R_Ex) (T := T_Ex) (N := 5) rfl rfl rfl (by decide) (fun w h => List.mem_cons_of_mem _ (in_Ex w h)) (hm wd_83) hd
  refine List.forall_mem_cons.mpr ⟨fs_const hF d_Ex_trueIn_0 (by decide), ?_⟩
  refine List.forall_mem_cons.mpr ⟨fs_store_n hF d_Ex_trueIn_1 rfl (by decide), ?_⟩
  refine List.forall_mem_cons.mpr ⟨fs_const hF d_Ex_trueIn_2 (by decide), ?_⟩
  refine List.forall_mem_cons.mpr ⟨fs_store_n hF d_Ex_trueIn_3 rfl (by decide), ?_⟩
  refine List.forall_mem_cons.mpr ⟨fs_load_n hF d_Ex_trueIn_4 rfl, ?_⟩
  refine List.forall_mem_cons.mpr ⟨fs_loada_n hF d_Ex_trueIn_5 rfl, ?_⟩
  refine List.forall_mem_cons.mpr ⟨g24 _ 6 d_Ex_trueIn_6, ?_⟩
  refine List.forall_mem_cons.mpr ⟨fs_cmpge hF d_Ex_trueIn_9 (by decide), ?_⟩
  refine List.forall_mem_cons.mpr ⟨fs_loada_n hF d_Ex_trueIn_12 rfl, ?_⟩
  refine List.forall_mem_cons.mpr ⟨fs_load_n hF d_Ex_trueIn_13 rfl, ?_⟩
  refine List.forall_mem_cons.mpr ⟨fs_load_n hF d_Ex_trueIn_14 rfl, ?_⟩
  refine List.forall_mem_cons.mpr ⟨fs_loada_n hF d_Ex_trueIn_15 rfl, ?_⟩
  refine List.forall_mem_cons.mpr ⟨fs_callV hC nwl_ok hnw (cN := 2) (ci := 2) (C := R_Ex) rfl rfl ⟨callB_of 3 hts (tb_good wd_427) rfl rfl rfl (hm wd_34) (hm wd_424) pd_Ex_holds ⟨Nat.le_of_ble_eq_true rfl, Nat.le_of_ble_eq_true rfl⟩, hm wd_426, hm wd_6⟩ d_Ex_trueIn_16, ?_⟩
  refine List.forall_mem_cons.mpr ⟨fs_ifeq hF d_Ex_trueIn_19 (by decide), ?_⟩
  refine List.forall_mem_cons.mpr ⟨fs_load_n hF d_Ex_trueIn_22 rfl, ?_⟩
  refine List.forall_mem_cons.mpr ⟨fs_const hF d_Ex_trueIn_23 (by decide), ?_⟩
  refine List.forall_mem_cons.mpr ⟨fs_load_n hF d_Ex_trueIn_24 rfl, ?_⟩
  refine List.forall_mem_cons.mpr ⟨fs_ishl hF d_Ex_trueIn_25, ?_⟩
  refine List.forall_mem_cons.mpr ⟨fs_ior hF d_Ex_trueIn_26, ?_⟩
  refine List.forall_mem_cons.mpr ⟨fs_store_n hF d_Ex_trueIn_27 rfl (by decide), ?_⟩
  refine List.forall_mem_cons.mpr ⟨fs_inc hF d_Ex_trueIn_28 (by decide) (by decide), ?_⟩
  refine List.forall_mem_cons.mpr ⟨fs_goto hF d_Ex_trueIn_31 (by decide), ?_⟩
  refine List.forall_mem_cons.mpr ⟨fs_load_n hF d_Ex_trueIn_34 rfl, ?_⟩
  refine List.forall_mem_cons.mpr ⟨fs_ret hC hr d_Ex_trueIn_35, ?_⟩
  exact fun _ h => absurd h List.not_mem_nil
abbrev rm_Tr_add : Room := { frames := 0, cells := 0, slots := 0, locals := 0 }
def ws_Tr_add : List Cond := .code y_Tr_add c_Tr_add 6 (some .int) :: TB
abbrev MC_Tr_add (κ : fx_K) : List fx_V → fx_S → (Int32 → fx_S → Prop) → Prop := fx_Met κ.1 κ.2.1 vwCl κ.2.2.1 κ.2.2.2 lyX nwl y_Tr_add ws_Tr_add rm_Tr_add true
def tt_Tr_add (κ : fx_K) (post : Int32 → fx_S → Prop) : List (Nat × fx_M fx_S) := [(0, fm_loada 0 1),
  (1, fm_dup 2),
  (2, fm_get 3 4 5),
  (5, fm_dupx1 6),
  (6, fm_const 1 7),
  (7, fm_iadd 8),
  (8, fm_put 3 4 11),
  (11, fm_store 5 13),
  (13, fm_loada 0 14),
  (14, fm_getr 3 14 17),
  (17, fm_load 5 19),
  (19, fm_load 2 20),
  (20, fm_ast lnXI 21),
  (21, fm_loada 0 22),
  (22, fm_getr 3 15 25),
  (25, fm_load 5 27),
  (27, fm_load 3 28),
  (28, fm_ast lnXI 29),
  (29, fm_loada 0 30),
  (30, fm_getr 3 16 33),
  (33, fm_load 5 35),
  (35, fm_load 4 37),
  (37, fm_ast lnXI 38),
  (38, fm_loada 0 39),
  (39, fm_getr 3 17 42),
  (42, fm_load 1 43),
  (43, fm_dup2 44),
  (44, fm_ald lnXI 45),
  (45, fm_const 1 46),
  (46, fm_load 5 48),
  (48, fm_ishl 49),
  (49, fm_ior 50),
  (50, fm_ast lnXI 51),
  (51, fm_load 5 53),
  (53, fm_ret post)]
set_option maxHeartbeats 4000000 in
set_option maxRecDepth 100000 in
theorem mo_Tr_add {κ : fx_K} (hq : fx_I κ lyX.length) {av : List fx_V} {S : fx_S} {post : Int32 → fx_S → Prop} (hlen : av.length ≤ 6) (body : ∀ J : fx_J fx_S, (∀ r ∈ tt_Tr_add κ post, fx_Snd J r.1 r.2) → (∀ pc k ls st S, J pc (ls.take k) st S → J pc ls st S) → J 0 av [] S) : MC_Tr_add κ av S post := by
  refine fx_Met_of (cc := c_Tr_add) (nL := 6) (ret := (some .int)) (by decide) rfl hq hlen ?_
  intro p e s m args below meth c hC hr hnw
  refine body _ ?_ fx_W_take
  have hF := hC.1
  have hts := hC.1.2.2.2.2
  have hm : ∀ {w : Cond}, w ∈ TB → w.before args s = true := fun h => hts _ (List.mem_cons_of_mem _ h)
  have g24 : ∀ (Q : State → Prop) (pc : Nat), decode c_Tr_add pc = .ok (.getfield 24, 3) → fx_Snd (fx_W p κ.1 e rm_Tr_add s m args below meth c Q (fx_A κ.2.2.2 lyX.length) 0 0 (fx_P κ.2.1 vwCl κ.2.2.1 κ.2.2.2 lyX) κ.2.2.2 6) pc (fm_get 3 4 (pc + 3)) := fun Q pc hd => fs_get hC (cN := 3) (j := 4) (ci := 3) (C := R_Tr) (T := T_Tr) (N := 5) rfl rfl rfl (by decide) (fun w h => List.mem_cons_of_mem _ (in_Tr w h)) (hm wd_107) hd
  have g9 : ∀ (Q : State → Prop) (pc : Nat), decode c_Tr_add pc = .ok (.getfield 9, 3) → fx_Snd (fx_W p κ.1 e rm_Tr_add s m args below meth c Q (fx_A κ.2.2.2 lyX.length) 0 0 (fx_P κ.2.1 vwCl κ.2.2.1 κ.2.2.2 lyX) κ.2.2.2 6) pc (fm_getr 3 14 (pc + 3)) := fun Q pc hd => fs_getr hC (cN := 3) (j := 0) (ci := 3) (C := R_Tr) (T := T_Tr) (N := 5) rfl rfl rfl (by decide) (fun w h => List.mem_cons_of_mem _ (in_Tr w h)) (hm wd_102) hd
  have g15 : ∀ (Q : State → Prop) (pc : Nat), decode c_Tr_add pc = .ok (.getfield 15, 3) → fx_Snd (fx_W p κ.1 e rm_Tr_add s m args below meth c Q (fx_A κ.2.2.2 lyX.length) 0 0 (fx_P κ.2.1 vwCl κ.2.2.1 κ.2.2.2 lyX) κ.2.2.2 6) pc (fm_getr 3 15 (pc + 3)) := fun Q pc hd => fs_getr hC (cN := 3) (j := 1) (ci := 3) (C := R_Tr) (T := T_Tr) (N := 5) rfl rfl rfl (by decide) (fun w h => List.mem_cons_of_mem _ (in_Tr w h)) (hm wd_103) hd
  have g18 : ∀ (Q : State → Prop) (pc : Nat), decode c_Tr_add pc = .ok (.getfield 18, 3) → fx_Snd (fx_W p κ.1 e rm_Tr_add s m args below meth c Q (fx_A κ.2.2.2 lyX.length) 0 0 (fx_P κ.2.1 vwCl κ.2.2.1 κ.2.2.2 lyX) κ.2.2.2 6) pc (fm_getr 3 16 (pc + 3)) := fun Q pc hd => fs_getr hC (cN := 3) (j := 2) (ci := 3) (C := R_Tr) (T := T_Tr) (N := 5) rfl rfl rfl (by decide) (fun w h => List.mem_cons_of_mem _ (in_Tr w h)) (hm wd_104) hd
  have g21 : ∀ (Q : State → Prop) (pc : Nat), decode c_Tr_add pc = .ok (.getfield 21, 3) → fx_Snd (fx_W p κ.1 e rm_Tr_add s m args below meth c Q (fx_A κ.2.2.2 lyX.length) 0 0 (fx_P κ.2.1 vwCl κ.2.2.1 κ.2.2.2 lyX) κ.2.2.2 6) pc (fm_getr 3 17 (pc + 3)) := fun Q pc hd => fs_getr hC (cN := 3) (j := 3) (ci := 3) (C := R_Tr) (T := T_Tr) (N := 5) rfl rfl rfl (by decide) (fun w h => List.mem_cons_of_mem _ (in_Tr w h)) (hm wd_105) hd
  refine List.forall_mem_cons.mpr ⟨fs_loada_n hF d_Tr_add_0 rfl, ?_⟩
  refine List.forall_mem_cons.mpr ⟨fs_dup hF d_Tr_add_1, ?_⟩
  refine List.forall_mem_cons.mpr ⟨g24 _ 2 d_Tr_add_2, ?_⟩
  refine List.forall_mem_cons.mpr ⟨fs_dupx1 hF d_Tr_add_5, ?_⟩
  refine List.forall_mem_cons.mpr ⟨fs_const hF d_Tr_add_6 (by decide), ?_⟩
  refine List.forall_mem_cons.mpr ⟨fs_iadd hF d_Tr_add_7, ?_⟩
  refine List.forall_mem_cons.mpr ⟨fs_put hC (cN := 3) (j := 4) (ci := 3) (C := R_Tr) (T := T_Tr) (N := 5) rfl rfl rfl (by decide) ty_Tr tk_Tr nm_Tr rfl (by decide +kernel) (fun w h => List.mem_cons_of_mem _ (in_Tr w h)) (hm wd_107) d_Tr_add_8, ?_⟩
  refine List.forall_mem_cons.mpr ⟨fs_store hF d_Tr_add_11 (by decide), ?_⟩
  refine List.forall_mem_cons.mpr ⟨fs_loada_n hF d_Tr_add_13 rfl, ?_⟩
  refine List.forall_mem_cons.mpr ⟨g9 _ 14 d_Tr_add_14, ?_⟩
  refine List.forall_mem_cons.mpr ⟨fs_load hF d_Tr_add_17, ?_⟩
  refine List.forall_mem_cons.mpr ⟨fs_load_n hF d_Tr_add_19 rfl, ?_⟩
  refine List.forall_mem_cons.mpr ⟨fs_ast hC lkXI d_Tr_add_20, ?_⟩
  refine List.forall_mem_cons.mpr ⟨fs_loada_n hF d_Tr_add_21 rfl, ?_⟩
  refine List.forall_mem_cons.mpr ⟨g15 _ 22 d_Tr_add_22, ?_⟩
  refine List.forall_mem_cons.mpr ⟨fs_load hF d_Tr_add_25, ?_⟩
  refine List.forall_mem_cons.mpr ⟨fs_load_n hF d_Tr_add_27 rfl, ?_⟩
  refine List.forall_mem_cons.mpr ⟨fs_ast hC lkXI d_Tr_add_28, ?_⟩
  refine List.forall_mem_cons.mpr ⟨fs_loada_n hF d_Tr_add_29 rfl, ?_⟩
  refine List.forall_mem_cons.mpr ⟨g18 _ 30 d_Tr_add_30, ?_⟩
  refine List.forall_mem_cons.mpr ⟨fs_load hF d_Tr_add_33, ?_⟩
  refine List.forall_mem_cons.mpr ⟨fs_load hF d_Tr_add_35, ?_⟩
  refine List.forall_mem_cons.mpr ⟨fs_ast hC lkXI d_Tr_add_37, ?_⟩
  refine List.forall_mem_cons.mpr ⟨fs_loada_n hF d_Tr_add_38 rfl, ?_⟩
  refine List.forall_mem_cons.mpr ⟨g21 _ 39 d_Tr_add_39, ?_⟩
  refine List.forall_mem_cons.mpr ⟨fs_load_n hF d_Tr_add_42 rfl, ?_⟩
  refine List.forall_mem_cons.mpr ⟨fs_dup2 hF d_Tr_add_43, ?_⟩
  refine List.forall_mem_cons.mpr ⟨fs_ald hC lkXI d_Tr_add_44, ?_⟩
  refine List.forall_mem_cons.mpr ⟨fs_const hF d_Tr_add_45 (by decide), ?_⟩
  refine List.forall_mem_cons.mpr ⟨fs_load hF d_Tr_add_46, ?_⟩
  refine List.forall_mem_cons.mpr ⟨fs_ishl hF d_Tr_add_48, ?_⟩
  refine List.forall_mem_cons.mpr ⟨fs_ior hF d_Tr_add_49, ?_⟩
  refine List.forall_mem_cons.mpr ⟨fs_ast hC lkXI d_Tr_add_50, ?_⟩
  refine List.forall_mem_cons.mpr ⟨fs_load hF d_Tr_add_51, ?_⟩
  refine List.forall_mem_cons.mpr ⟨fs_ret hC hr d_Tr_add_53, ?_⟩
  exact fun _ h => absurd h List.not_mem_nil
abbrev rm_Tr_enabledIn : Room := { frames := 0, cells := 0, slots := 0, locals := 0 }
def ws_Tr_enabledIn : List Cond := .code y_Tr_enabledIn c_Tr_enabledIn 4 (some .int) :: TB
abbrev MC_Tr_enabledIn (κ : fx_K) : List fx_V → fx_S → (Int32 → fx_S → Prop) → Prop := fx_Met κ.1 κ.2.1 vwCl κ.2.2.1 κ.2.2.2 lyX nwl y_Tr_enabledIn ws_Tr_enabledIn rm_Tr_enabledIn true
def tt_Tr_enabledIn (κ : fx_K) (post : Int32 → fx_S → Prop) : List (Nat × fx_M fx_S) := [(0, fm_const 0 1),
  (1, fm_store 2 2),
  (2, fm_const 0 3),
  (3, fm_store 3 4),
  (4, fm_load 3 5),
  (5, fm_loada 0 6),
  (6, fm_get 3 4 9),
  (9, fm_cmpge 37 12),
  (12, fm_loada 0 13),
  (13, fm_getr 3 14 16),
  (16, fm_load 3 17),
  (17, fm_ald lnXI 18),
  (18, fm_load 1 19),
  (19, fm_const (-1) 20),
  (20, fm_ixor 21),
  (21, fm_iand 22),
  (22, fm_ifne 31 25),
  (25, fm_load 2 26),
  (26, fm_const 1 27),
  (27, fm_load 3 28),
  (28, fm_ishl 29),
  (29, fm_ior 30),
  (30, fm_store 2 31),
  (31, fm_inc 3 1 34),
  (34, fm_goto 4),
  (37, fm_load 2 38),
  (38, fm_ret post)]
set_option maxHeartbeats 4000000 in
set_option maxRecDepth 100000 in
theorem mo_Tr_enabledIn {κ : fx_K} (hq : fx_I κ lyX.length) {av : List fx_V} {S : fx_S} {post : Int32 → fx_S → Prop} (hlen : av.length ≤ 4) (body : ∀ J : fx_J fx_S, (∀ r ∈ tt_Tr_enabledIn κ post, fx_Snd J r.1 r.2) → (∀ pc k ls st S, J pc (ls.take k) st S → J pc ls st S) → J 0 av [] S) : MC_Tr_enabledIn κ av S post := by
  refine fx_Met_of (cc := c_Tr_enabledIn) (nL := 4) (ret := (some .int)) (by decide) rfl hq hlen ?_
  intro p e s m args below meth c hC hr hnw
  refine body _ ?_ fx_W_take
  have hF := hC.1
  have hts := hC.1.2.2.2.2
  have hm : ∀ {w : Cond}, w ∈ TB → w.before args s = true := fun h => hts _ (List.mem_cons_of_mem _ h)
  have g24 : ∀ (Q : State → Prop) (pc : Nat), decode c_Tr_enabledIn pc = .ok (.getfield 24, 3) → fx_Snd (fx_W p κ.1 e rm_Tr_enabledIn s m args below meth c Q (fx_A κ.2.2.2 lyX.length) 0 0 (fx_P κ.2.1 vwCl κ.2.2.1 κ.2.2.2 lyX) κ.2.2.2 4) pc (fm_get 3 4 (pc + 3)) := fun Q pc hd => fs_get hC (cN := 3) (j := 4) (ci := 3) (C := R_Tr) (T := T_Tr) (N := 5) rfl rfl rfl (by decide) (fun w h => List.mem_cons_of_mem _ (in_Tr w h)) (hm wd_107) hd
  have g9 : ∀ (Q : State → Prop) (pc : Nat), decode c_Tr_enabledIn pc = .ok (.getfield 9, 3) → fx_Snd (fx_W p κ.1 e rm_Tr_enabledIn s m args below meth c Q (fx_A κ.2.2.2 lyX.length) 0 0 (fx_P κ.2.1 vwCl κ.2.2.1 κ.2.2.2 lyX) κ.2.2.2 4) pc (fm_getr 3 14 (pc + 3)) := fun Q pc hd => fs_getr hC (cN := 3) (j := 0) (ci := 3) (C := R_Tr) (T := T_Tr) (N := 5) rfl rfl rfl (by decide) (fun w h => List.mem_cons_of_mem _ (in_Tr w h)) (hm wd_102) hd
  refine List.forall_mem_cons.mpr ⟨fs_const hF d_Tr_enabledIn_0 (by decide), ?_⟩
  refine List.forall_mem_cons.mpr ⟨fs_store_n hF d_Tr_enabledIn_1 rfl (by decide), ?_⟩
  refine List.forall_mem_cons.mpr ⟨fs_const hF d_Tr_enabledIn_2 (by decide), ?_⟩
  refine List.forall_mem_cons.mpr ⟨fs_store_n hF d_Tr_enabledIn_3 rfl (by decide), ?_⟩
  refine List.forall_mem_cons.mpr ⟨fs_load_n hF d_Tr_enabledIn_4 rfl, ?_⟩
  refine List.forall_mem_cons.mpr ⟨fs_loada_n hF d_Tr_enabledIn_5 rfl, ?_⟩
  refine List.forall_mem_cons.mpr ⟨g24 _ 6 d_Tr_enabledIn_6, ?_⟩
  refine List.forall_mem_cons.mpr ⟨fs_cmpge hF d_Tr_enabledIn_9 (by decide), ?_⟩
  refine List.forall_mem_cons.mpr ⟨fs_loada_n hF d_Tr_enabledIn_12 rfl, ?_⟩
  refine List.forall_mem_cons.mpr ⟨g9 _ 13 d_Tr_enabledIn_13, ?_⟩
  refine List.forall_mem_cons.mpr ⟨fs_load_n hF d_Tr_enabledIn_16 rfl, ?_⟩
  refine List.forall_mem_cons.mpr ⟨fs_ald hC lkXI d_Tr_enabledIn_17, ?_⟩
  refine List.forall_mem_cons.mpr ⟨fs_load_n hF d_Tr_enabledIn_18 rfl, ?_⟩
  refine List.forall_mem_cons.mpr ⟨fs_const hF d_Tr_enabledIn_19 (by decide), ?_⟩
  refine List.forall_mem_cons.mpr ⟨fs_ixor hF d_Tr_enabledIn_20, ?_⟩
  refine List.forall_mem_cons.mpr ⟨fs_iand hF d_Tr_enabledIn_21, ?_⟩
  refine List.forall_mem_cons.mpr ⟨fs_ifne hF d_Tr_enabledIn_22 (by decide), ?_⟩
  refine List.forall_mem_cons.mpr ⟨fs_load_n hF d_Tr_enabledIn_25 rfl, ?_⟩
  refine List.forall_mem_cons.mpr ⟨fs_const hF d_Tr_enabledIn_26 (by decide), ?_⟩
  refine List.forall_mem_cons.mpr ⟨fs_load_n hF d_Tr_enabledIn_27 rfl, ?_⟩
  refine List.forall_mem_cons.mpr ⟨fs_ishl hF d_Tr_enabledIn_28, ?_⟩
  refine List.forall_mem_cons.mpr ⟨fs_ior hF d_Tr_enabledIn_29, ?_⟩
  refine List.forall_mem_cons.mpr ⟨fs_store_n hF d_Tr_enabledIn_30 rfl (by decide), ?_⟩
  refine List.forall_mem_cons.mpr ⟨fs_inc hF d_Tr_enabledIn_31 (by decide) (by decide), ?_⟩
  refine List.forall_mem_cons.mpr ⟨fs_goto hF d_Tr_enabledIn_34 (by decide), ?_⟩
  refine List.forall_mem_cons.mpr ⟨fs_load_n hF d_Tr_enabledIn_37 rfl, ?_⟩
  refine List.forall_mem_cons.mpr ⟨fs_ret hC hr d_Tr_enabledIn_38, ?_⟩
  exact fun _ h => absurd h List.not_mem_nil
abbrev rm_Tr_dueIn : Room := { frames := 1, cells := 0, slots := 0, locals := 23 }
def ws_Tr_dueIn : List Cond := .code y_Tr_dueIn c_Tr_dueIn 5 (some .int) :: TB
abbrev MC_Tr_dueIn (κ : fx_K) : List fx_V → fx_S → (Int32 → fx_S → Prop) → Prop := fx_Met κ.1 κ.2.1 vwCl κ.2.2.1 κ.2.2.2 lyX nwl y_Tr_dueIn ws_Tr_dueIn rm_Tr_dueIn true
def tt_Tr_dueIn (κ : fx_K) (post : Int32 → fx_S → Prop) : List (Nat × fx_M fx_S) := [(0, fm_loada 0 1),
  (1, fm_load 1 2),
  (2, fm_call true 3 1 (MC_Tr_enabledIn κ) 5),
  (5, fm_store 3 6),
  (6, fm_const 0 7),
  (7, fm_store 4 9),
  (9, fm_load 4 11),
  (11, fm_loada 0 12),
  (12, fm_get 3 4 15),
  (15, fm_cmpge 47 18),
  (18, fm_loada 0 19),
  (19, fm_getr 3 16 22),
  (22, fm_load 4 24),
  (24, fm_ald lnXI 25),
  (25, fm_load 2 26),
  (26, fm_calls true 2 (MC_Fc_isIn κ) 29),
  (29, fm_ifne 41 32),
  (32, fm_load 3 33),
  (33, fm_const 1 34),
  (34, fm_load 4 36),
  (36, fm_ishl 37),
  (37, fm_const (-1) 38),
  (38, fm_ixor 39),
  (39, fm_iand 40),
  (40, fm_store 3 41),
  (41, fm_inc 4 1 44),
  (44, fm_goto 9),
  (47, fm_load 3 48),
  (48, fm_ret post)]
set_option maxHeartbeats 4000000 in
set_option maxRecDepth 100000 in
theorem mo_Tr_dueIn {κ : fx_K} (hq : fx_I κ lyX.length) {av : List fx_V} {S : fx_S} {post : Int32 → fx_S → Prop} (hlen : av.length ≤ 5) (body : ∀ J : fx_J fx_S, (∀ r ∈ tt_Tr_dueIn κ post, fx_Snd J r.1 r.2) → (∀ pc k ls st S, J pc (ls.take k) st S → J pc ls st S) → J 0 av [] S) : MC_Tr_dueIn κ av S post := by
  refine fx_Met_of (cc := c_Tr_dueIn) (nL := 5) (ret := (some .int)) (by decide) rfl hq hlen ?_
  intro p e s m args below meth c hC hr hnw
  refine body _ ?_ fx_W_take
  have hF := hC.1
  have hts := hC.1.2.2.2.2
  have hm : ∀ {w : Cond}, w ∈ TB → w.before args s = true := fun h => hts _ (List.mem_cons_of_mem _ h)
  have g24 : ∀ (Q : State → Prop) (pc : Nat), decode c_Tr_dueIn pc = .ok (.getfield 24, 3) → fx_Snd (fx_W p κ.1 e rm_Tr_dueIn s m args below meth c Q (fx_A κ.2.2.2 lyX.length) 0 0 (fx_P κ.2.1 vwCl κ.2.2.1 κ.2.2.2 lyX) κ.2.2.2 5) pc (fm_get 3 4 (pc + 3)) := fun Q pc hd => fs_get hC (cN := 3) (j := 4) (ci := 3) (C := R_Tr) (T := T_Tr) (N := 5) rfl rfl rfl (by decide) (fun w h => List.mem_cons_of_mem _ (in_Tr w h)) (hm wd_107) hd
  have g18 : ∀ (Q : State → Prop) (pc : Nat), decode c_Tr_dueIn pc = .ok (.getfield 18, 3) → fx_Snd (fx_W p κ.1 e rm_Tr_dueIn s m args below meth c Q (fx_A κ.2.2.2 lyX.length) 0 0 (fx_P κ.2.1 vwCl κ.2.2.1 κ.2.2.2 lyX) κ.2.2.2 5) pc (fm_getr 3 16 (pc + 3)) := fun Q pc hd => fs_getr hC (cN := 3) (j := 2) (ci := 3) (C := R_Tr) (T := T_Tr) (N := 5) rfl rfl rfl (by decide) (fun w h => List.mem_cons_of_mem _ (in_Tr w h)) (hm wd_104) hd
  refine List.forall_mem_cons.mpr ⟨fs_loada_n hF d_Tr_dueIn_0 rfl, ?_⟩
  refine List.forall_mem_cons.mpr ⟨fs_load_n hF d_Tr_dueIn_1 rfl, ?_⟩
  refine List.forall_mem_cons.mpr ⟨fs_callV hC nwl_ok hnw (cN := 3) (ci := 3) (C := R_Tr) rfl rfl ⟨callB_of 1 hts (tb_good wd_358) rfl rfl rfl (hm wd_35) (hm wd_437) pd_Tr_enabledIn ⟨Nat.le_of_ble_eq_true rfl, Nat.le_of_ble_eq_true rfl⟩, hm wd_356, hm wd_357⟩ d_Tr_dueIn_2, ?_⟩
  refine List.forall_mem_cons.mpr ⟨fs_store_n hF d_Tr_dueIn_5 rfl (by decide), ?_⟩
  refine List.forall_mem_cons.mpr ⟨fs_const hF d_Tr_dueIn_6 (by decide), ?_⟩
  refine List.forall_mem_cons.mpr ⟨fs_store hF d_Tr_dueIn_7 (by decide), ?_⟩
  refine List.forall_mem_cons.mpr ⟨fs_load hF d_Tr_dueIn_9, ?_⟩
  refine List.forall_mem_cons.mpr ⟨fs_loada_n hF d_Tr_dueIn_11 rfl, ?_⟩
  refine List.forall_mem_cons.mpr ⟨g24 _ 12 d_Tr_dueIn_12, ?_⟩
  refine List.forall_mem_cons.mpr ⟨fs_cmpge hF d_Tr_dueIn_15 (by decide), ?_⟩
  refine List.forall_mem_cons.mpr ⟨fs_loada_n hF d_Tr_dueIn_18 rfl, ?_⟩
  refine List.forall_mem_cons.mpr ⟨g18 _ 19 d_Tr_dueIn_19, ?_⟩
  refine List.forall_mem_cons.mpr ⟨fs_load hF d_Tr_dueIn_22, ?_⟩
  refine List.forall_mem_cons.mpr ⟨fs_ald hC lkXI d_Tr_dueIn_24, ?_⟩
  refine List.forall_mem_cons.mpr ⟨fs_load_n hF d_Tr_dueIn_25 rfl, ?_⟩
  refine List.forall_mem_cons.mpr ⟨fs_callSN hC nwl_ok hnw ⟨va_cnB 2 hts (tb_good wd_369) rfl rfl rfl (hnw _ (List.mem_of_getElem? (i := 26) rfl)) (hm wd_32) pd_Fc_isIn ⟨Nat.le_of_ble_eq_true rfl, Nat.le_of_ble_eq_true rfl⟩, hm wd_368⟩ d_Tr_dueIn_26, ?_⟩
  refine List.forall_mem_cons.mpr ⟨fs_ifne hF d_Tr_dueIn_29 (by decide), ?_⟩
  refine List.forall_mem_cons.mpr ⟨fs_load_n hF d_Tr_dueIn_32 rfl, ?_⟩
  refine List.forall_mem_cons.mpr ⟨fs_const hF d_Tr_dueIn_33 (by decide), ?_⟩
  refine List.forall_mem_cons.mpr ⟨fs_load hF d_Tr_dueIn_34, ?_⟩
  refine List.forall_mem_cons.mpr ⟨fs_ishl hF d_Tr_dueIn_36, ?_⟩
  refine List.forall_mem_cons.mpr ⟨fs_const hF d_Tr_dueIn_37 (by decide), ?_⟩
  refine List.forall_mem_cons.mpr ⟨fs_ixor hF d_Tr_dueIn_38, ?_⟩
  refine List.forall_mem_cons.mpr ⟨fs_iand hF d_Tr_dueIn_39, ?_⟩
  refine List.forall_mem_cons.mpr ⟨fs_store_n hF d_Tr_dueIn_40 rfl (by decide), ?_⟩
  refine List.forall_mem_cons.mpr ⟨fs_inc hF d_Tr_dueIn_41 (by decide) (by decide), ?_⟩
  refine List.forall_mem_cons.mpr ⟨fs_goto hF d_Tr_dueIn_44 (by decide), ?_⟩
  refine List.forall_mem_cons.mpr ⟨fs_load_n hF d_Tr_dueIn_47 rfl, ?_⟩
  refine List.forall_mem_cons.mpr ⟨fs_ret hC hr d_Tr_dueIn_48, ?_⟩
  exact fun _ h => absurd h List.not_mem_nil
abbrev rm_Tr_withoutRivals : Room := { frames := 1, cells := 0, slots := 0, locals := 21 }
def ws_Tr_withoutRivals : List Cond := .code y_Tr_withoutRivals c_Tr_withoutRivals 5 (some .int) :: TB
abbrev MC_Tr_withoutRivals (κ : fx_K) : List fx_V → fx_S → (Int32 → fx_S → Prop) → Prop := fx_Met κ.1 κ.2.1 vwCl κ.2.2.1 κ.2.2.2 lyX nwl y_Tr_withoutRivals ws_Tr_withoutRivals rm_Tr_withoutRivals true
def tt_Tr_withoutRivals (κ : fx_K) (post : Int32 → fx_S → Prop) : List (Nat × fx_M fx_S) := [(0, fm_const 0 1),
  (1, fm_store 2 2),
  (2, fm_const 0 3),
  (3, fm_store 3 4),
  (4, fm_const 0 5),
  (5, fm_store 4 7),
  (7, fm_load 4 9),
  (9, fm_loada 0 10),
  (10, fm_get 3 4 13),
  (13, fm_cmpge 60 16),
  (16, fm_load 4 18),
  (18, fm_load 1 19),
  (19, fm_calls true 2 (MC_Fc_isIn κ) 22),
  (22, fm_ifeq 54 25),
  (25, fm_loada 0 26),
  (26, fm_getr 3 14 29),
  (29, fm_load 4 31),
  (31, fm_ald lnXI 32),
  (32, fm_load 3 33),
  (33, fm_iand 34),
  (34, fm_ifne 54 37),
  (37, fm_load 2 38),
  (38, fm_const 1 39),
  (39, fm_load 4 41),
  (41, fm_ishl 42),
  (42, fm_ior 43),
  (43, fm_store 2 44),
  (44, fm_load 3 45),
  (45, fm_loada 0 46),
  (46, fm_getr 3 14 49),
  (49, fm_load 4 51),
  (51, fm_ald lnXI 52),
  (52, fm_ior 53),
  (53, fm_store 3 54),
  (54, fm_inc 4 1 57),
  (57, fm_goto 7),
  (60, fm_load 2 61),
  (61, fm_ret post)]
set_option maxHeartbeats 4000000 in
set_option maxRecDepth 100000 in
theorem mo_Tr_withoutRivals {κ : fx_K} (hq : fx_I κ lyX.length) {av : List fx_V} {S : fx_S} {post : Int32 → fx_S → Prop} (hlen : av.length ≤ 5) (body : ∀ J : fx_J fx_S, (∀ r ∈ tt_Tr_withoutRivals κ post, fx_Snd J r.1 r.2) → (∀ pc k ls st S, J pc (ls.take k) st S → J pc ls st S) → J 0 av [] S) : MC_Tr_withoutRivals κ av S post := by
  refine fx_Met_of (cc := c_Tr_withoutRivals) (nL := 5) (ret := (some .int)) (by decide) rfl hq hlen ?_
  intro p e s m args below meth c hC hr hnw
  refine body _ ?_ fx_W_take
  have hF := hC.1
  have hts := hC.1.2.2.2.2
  have hm : ∀ {w : Cond}, w ∈ TB → w.before args s = true := fun h => hts _ (List.mem_cons_of_mem _ h)
  have g24 : ∀ (Q : State → Prop) (pc : Nat), decode c_Tr_withoutRivals pc = .ok (.getfield 24, 3) → fx_Snd (fx_W p κ.1 e rm_Tr_withoutRivals s m args below meth c Q (fx_A κ.2.2.2 lyX.length) 0 0 (fx_P κ.2.1 vwCl κ.2.2.1 κ.2.2.2 lyX) κ.2.2.2 5) pc (fm_get 3 4 (pc + 3)) := fun Q pc hd => fs_get hC (cN := 3) (j := 4) (ci := 3) (C := R_Tr) (T := T_Tr) (N := 5) rfl rfl rfl (by decide) (fun w h => List.mem_cons_of_mem _ (in_Tr w h)) (hm wd_107) hd
  have g9 : ∀ (Q : State → Prop) (pc : Nat), decode c_Tr_withoutRivals pc = .ok (.getfield 9, 3) → fx_Snd (fx_W p κ.1 e rm_Tr_withoutRivals s m args below meth c Q (fx_A κ.2.2.2 lyX.length) 0 0 (fx_P κ.2.1 vwCl κ.2.2.1 κ.2.2.2 lyX) κ.2.2.2 5) pc (fm_getr 3 14 (pc + 3)) := fun Q pc hd => fs_getr hC (cN := 3) (j := 0) (ci := 3) (C := R_Tr) (T := T_Tr) (N := 5) rfl rfl rfl (by decide) (fun w h => List.mem_cons_of_mem _ (in_Tr w h)) (hm wd_102) hd
  refine List.forall_mem_cons.mpr ⟨fs_const hF d_Tr_withoutRivals_0 (by decide), ?_⟩
  refine List.forall_mem_cons.mpr ⟨fs_store_n hF d_Tr_withoutRivals_1 rfl (by decide), ?_⟩
  refine List.forall_mem_cons.mpr ⟨fs_const hF d_Tr_withoutRivals_2 (by decide), ?_⟩
  refine List.forall_mem_cons.mpr ⟨fs_store_n hF d_Tr_withoutRivals_3 rfl (by decide), ?_⟩
  refine List.forall_mem_cons.mpr ⟨fs_const hF d_Tr_withoutRivals_4 (by decide), ?_⟩
  refine List.forall_mem_cons.mpr ⟨fs_store hF d_Tr_withoutRivals_5 (by decide), ?_⟩
  refine List.forall_mem_cons.mpr ⟨fs_load hF d_Tr_withoutRivals_7, ?_⟩
  refine List.forall_mem_cons.mpr ⟨fs_loada_n hF d_Tr_withoutRivals_9 rfl, ?_⟩
  refine List.forall_mem_cons.mpr ⟨g24 _ 10 d_Tr_withoutRivals_10, ?_⟩
  refine List.forall_mem_cons.mpr ⟨fs_cmpge hF d_Tr_withoutRivals_13 (by decide), ?_⟩
  refine List.forall_mem_cons.mpr ⟨fs_load hF d_Tr_withoutRivals_16, ?_⟩
  refine List.forall_mem_cons.mpr ⟨fs_load_n hF d_Tr_withoutRivals_18 rfl, ?_⟩
  refine List.forall_mem_cons.mpr ⟨fs_callSN hC nwl_ok hnw ⟨va_cnB 2 hts (tb_good wd_369) rfl rfl rfl (hnw _ (List.mem_of_getElem? (i := 26) rfl)) (hm wd_32) pd_Fc_isIn ⟨Nat.le_of_ble_eq_true rfl, Nat.le_of_ble_eq_true rfl⟩, hm wd_368⟩ d_Tr_withoutRivals_19, ?_⟩
  refine List.forall_mem_cons.mpr ⟨fs_ifeq hF d_Tr_withoutRivals_22 (by decide), ?_⟩
  refine List.forall_mem_cons.mpr ⟨fs_loada_n hF d_Tr_withoutRivals_25 rfl, ?_⟩
  refine List.forall_mem_cons.mpr ⟨g9 _ 26 d_Tr_withoutRivals_26, ?_⟩
  refine List.forall_mem_cons.mpr ⟨fs_load hF d_Tr_withoutRivals_29, ?_⟩
  refine List.forall_mem_cons.mpr ⟨fs_ald hC lkXI d_Tr_withoutRivals_31, ?_⟩
  refine List.forall_mem_cons.mpr ⟨fs_load_n hF d_Tr_withoutRivals_32 rfl, ?_⟩
  refine List.forall_mem_cons.mpr ⟨fs_iand hF d_Tr_withoutRivals_33, ?_⟩
  refine List.forall_mem_cons.mpr ⟨fs_ifne hF d_Tr_withoutRivals_34 (by decide), ?_⟩
  refine List.forall_mem_cons.mpr ⟨fs_load_n hF d_Tr_withoutRivals_37 rfl, ?_⟩
  refine List.forall_mem_cons.mpr ⟨fs_const hF d_Tr_withoutRivals_38 (by decide), ?_⟩
  refine List.forall_mem_cons.mpr ⟨fs_load hF d_Tr_withoutRivals_39, ?_⟩
  refine List.forall_mem_cons.mpr ⟨fs_ishl hF d_Tr_withoutRivals_41, ?_⟩
  refine List.forall_mem_cons.mpr ⟨fs_ior hF d_Tr_withoutRivals_42, ?_⟩
  refine List.forall_mem_cons.mpr ⟨fs_store_n hF d_Tr_withoutRivals_43 rfl (by decide), ?_⟩
  refine List.forall_mem_cons.mpr ⟨fs_load_n hF d_Tr_withoutRivals_44 rfl, ?_⟩
  refine List.forall_mem_cons.mpr ⟨fs_loada_n hF d_Tr_withoutRivals_45 rfl, ?_⟩
  refine List.forall_mem_cons.mpr ⟨g9 _ 46 d_Tr_withoutRivals_46, ?_⟩
  refine List.forall_mem_cons.mpr ⟨fs_load hF d_Tr_withoutRivals_49, ?_⟩
  refine List.forall_mem_cons.mpr ⟨fs_ald hC lkXI d_Tr_withoutRivals_51, ?_⟩
  refine List.forall_mem_cons.mpr ⟨fs_ior hF d_Tr_withoutRivals_52, ?_⟩
  refine List.forall_mem_cons.mpr ⟨fs_store_n hF d_Tr_withoutRivals_53 rfl (by decide), ?_⟩
  refine List.forall_mem_cons.mpr ⟨fs_inc hF d_Tr_withoutRivals_54 (by decide) (by decide), ?_⟩
  refine List.forall_mem_cons.mpr ⟨fs_goto hF d_Tr_withoutRivals_57 (by decide), ?_⟩
  refine List.forall_mem_cons.mpr ⟨fs_load_n hF d_Tr_withoutRivals_60 rfl, ?_⟩
  refine List.forall_mem_cons.mpr ⟨fs_ret hC hr d_Tr_withoutRivals_61, ?_⟩
  exact fun _ h => absurd h List.not_mem_nil
abbrev rm_Tr_union : Room := { frames := 1, cells := 0, slots := 0, locals := 21 }
def ws_Tr_union : List Cond := .code y_Tr_union c_Tr_union 5 (some .int) :: TB
abbrev MC_Tr_union (κ : fx_K) : List fx_V → fx_S → (Int32 → fx_S → Prop) → Prop := fx_Met κ.1 κ.2.1 vwCl κ.2.2.1 κ.2.2.2 lyX nwl y_Tr_union ws_Tr_union rm_Tr_union true
def tt_Tr_union (κ : fx_K) (post : Int32 → fx_S → Prop) : List (Nat × fx_M fx_S) := [(0, fm_const 0 1),
  (1, fm_store 3 2),
  (2, fm_const 0 3),
  (3, fm_store 4 5),
  (5, fm_load 4 7),
  (7, fm_loada 0 8),
  (8, fm_get 3 4 11),
  (11, fm_cmpge 36 14),
  (14, fm_load 4 16),
  (16, fm_load 2 17),
  (17, fm_calls true 2 (MC_Fc_isIn κ) 20),
  (20, fm_ifeq 30 23),
  (23, fm_load 3 24),
  (24, fm_loada 1 25),
  (25, fm_load 4 27),
  (27, fm_ald lnXI 28),
  (28, fm_ior 29),
  (29, fm_store 3 30),
  (30, fm_inc 4 1 33),
  (33, fm_goto 5),
  (36, fm_load 3 37),
  (37, fm_ret post)]
set_option maxHeartbeats 4000000 in
set_option maxRecDepth 100000 in
theorem mo_Tr_union {κ : fx_K} (hq : fx_I κ lyX.length) {av : List fx_V} {S : fx_S} {post : Int32 → fx_S → Prop} (hlen : av.length ≤ 5) (body : ∀ J : fx_J fx_S, (∀ r ∈ tt_Tr_union κ post, fx_Snd J r.1 r.2) → (∀ pc k ls st S, J pc (ls.take k) st S → J pc ls st S) → J 0 av [] S) : MC_Tr_union κ av S post := by
  refine fx_Met_of (cc := c_Tr_union) (nL := 5) (ret := (some .int)) (by decide) rfl hq hlen ?_
  intro p e s m args below meth c hC hr hnw
  refine body _ ?_ fx_W_take
  have hF := hC.1
  have hts := hC.1.2.2.2.2
  have hm : ∀ {w : Cond}, w ∈ TB → w.before args s = true := fun h => hts _ (List.mem_cons_of_mem _ h)
  have g24 : ∀ (Q : State → Prop) (pc : Nat), decode c_Tr_union pc = .ok (.getfield 24, 3) → fx_Snd (fx_W p κ.1 e rm_Tr_union s m args below meth c Q (fx_A κ.2.2.2 lyX.length) 0 0 (fx_P κ.2.1 vwCl κ.2.2.1 κ.2.2.2 lyX) κ.2.2.2 5) pc (fm_get 3 4 (pc + 3)) := fun Q pc hd => fs_get hC (cN := 3) (j := 4) (ci := 3) (C := R_Tr) (T := T_Tr) (N := 5) rfl rfl rfl (by decide) (fun w h => List.mem_cons_of_mem _ (in_Tr w h)) (hm wd_107) hd
  refine List.forall_mem_cons.mpr ⟨fs_const hF d_Tr_union_0 (by decide), ?_⟩
  refine List.forall_mem_cons.mpr ⟨fs_store_n hF d_Tr_union_1 rfl (by decide), ?_⟩
  refine List.forall_mem_cons.mpr ⟨fs_const hF d_Tr_union_2 (by decide), ?_⟩
  refine List.forall_mem_cons.mpr ⟨fs_store hF d_Tr_union_3 (by decide), ?_⟩
  refine List.forall_mem_cons.mpr ⟨fs_load hF d_Tr_union_5, ?_⟩
  refine List.forall_mem_cons.mpr ⟨fs_loada_n hF d_Tr_union_7 rfl, ?_⟩
  refine List.forall_mem_cons.mpr ⟨g24 _ 8 d_Tr_union_8, ?_⟩
  refine List.forall_mem_cons.mpr ⟨fs_cmpge hF d_Tr_union_11 (by decide), ?_⟩
  refine List.forall_mem_cons.mpr ⟨fs_load hF d_Tr_union_14, ?_⟩
  refine List.forall_mem_cons.mpr ⟨fs_load_n hF d_Tr_union_16 rfl, ?_⟩
  refine List.forall_mem_cons.mpr ⟨fs_callSN hC nwl_ok hnw ⟨va_cnB 2 hts (tb_good wd_369) rfl rfl rfl (hnw _ (List.mem_of_getElem? (i := 26) rfl)) (hm wd_32) pd_Fc_isIn ⟨Nat.le_of_ble_eq_true rfl, Nat.le_of_ble_eq_true rfl⟩, hm wd_368⟩ d_Tr_union_17, ?_⟩
  refine List.forall_mem_cons.mpr ⟨fs_ifeq hF d_Tr_union_20 (by decide), ?_⟩
  refine List.forall_mem_cons.mpr ⟨fs_load_n hF d_Tr_union_23 rfl, ?_⟩
  refine List.forall_mem_cons.mpr ⟨fs_loada_n hF d_Tr_union_24 rfl, ?_⟩
  refine List.forall_mem_cons.mpr ⟨fs_load hF d_Tr_union_25, ?_⟩
  refine List.forall_mem_cons.mpr ⟨fs_ald hC lkXI d_Tr_union_27, ?_⟩
  refine List.forall_mem_cons.mpr ⟨fs_ior hF d_Tr_union_28, ?_⟩
  refine List.forall_mem_cons.mpr ⟨fs_store_n hF d_Tr_union_29 rfl (by decide), ?_⟩
  refine List.forall_mem_cons.mpr ⟨fs_inc hF d_Tr_union_30 (by decide) (by decide), ?_⟩
  refine List.forall_mem_cons.mpr ⟨fs_goto hF d_Tr_union_33 (by decide), ?_⟩
  refine List.forall_mem_cons.mpr ⟨fs_load_n hF d_Tr_union_36 rfl, ?_⟩
  refine List.forall_mem_cons.mpr ⟨fs_ret hC hr d_Tr_union_37, ?_⟩
  exact fun _ h => absurd h List.not_mem_nil
abbrev rm_Tr_preceding : Room := { frames := 2, cells := 0, slots := 0, locals := 45 }
def ws_Tr_preceding : List Cond := .code y_Tr_preceding c_Tr_preceding 2 (some .int) :: TB
abbrev MC_Tr_preceding (κ : fx_K) : List fx_V → fx_S → (Int32 → fx_S → Prop) → Prop := fx_Met κ.1 κ.2.1 vwCl κ.2.2.1 κ.2.2.2 lyX nwl y_Tr_preceding ws_Tr_preceding rm_Tr_preceding true
def tt_Tr_preceding (κ : fx_K) (post : Int32 → fx_S → Prop) : List (Nat × fx_M fx_S) := [(0, fm_loada 0 1),
  (1, fm_loada 0 2),
  (2, fm_getr 3 14 5),
  (5, fm_load 1 6),
  (6, fm_call true 3 2 (MC_Tr_union κ) 9),
  (9, fm_ret post)]
set_option maxHeartbeats 4000000 in
set_option maxRecDepth 100000 in
theorem mo_Tr_preceding {κ : fx_K} (hq : fx_I κ lyX.length) {av : List fx_V} {S : fx_S} {post : Int32 → fx_S → Prop} (hlen : av.length ≤ 2) (body : ∀ J : fx_J fx_S, (∀ r ∈ tt_Tr_preceding κ post, fx_Snd J r.1 r.2) → (∀ pc k ls st S, J pc (ls.take k) st S → J pc ls st S) → J 0 av [] S) : MC_Tr_preceding κ av S post := by
  refine fx_Met_of (cc := c_Tr_preceding) (nL := 2) (ret := (some .int)) (by decide) rfl hq hlen ?_
  intro p e s m args below meth c hC hr hnw
  refine body _ ?_ fx_W_take
  have hF := hC.1
  have hts := hC.1.2.2.2.2
  have hm : ∀ {w : Cond}, w ∈ TB → w.before args s = true := fun h => hts _ (List.mem_cons_of_mem _ h)
  have g9 : ∀ (Q : State → Prop) (pc : Nat), decode c_Tr_preceding pc = .ok (.getfield 9, 3) → fx_Snd (fx_W p κ.1 e rm_Tr_preceding s m args below meth c Q (fx_A κ.2.2.2 lyX.length) 0 0 (fx_P κ.2.1 vwCl κ.2.2.1 κ.2.2.2 lyX) κ.2.2.2 2) pc (fm_getr 3 14 (pc + 3)) := fun Q pc hd => fs_getr hC (cN := 3) (j := 0) (ci := 3) (C := R_Tr) (T := T_Tr) (N := 5) rfl rfl rfl (by decide) (fun w h => List.mem_cons_of_mem _ (in_Tr w h)) (hm wd_102) hd
  refine List.forall_mem_cons.mpr ⟨fs_loada_n hF d_Tr_preceding_0 rfl, ?_⟩
  refine List.forall_mem_cons.mpr ⟨fs_loada_n hF d_Tr_preceding_1 rfl, ?_⟩
  refine List.forall_mem_cons.mpr ⟨g9 _ 2 d_Tr_preceding_2, ?_⟩
  refine List.forall_mem_cons.mpr ⟨fs_load_n hF d_Tr_preceding_5 rfl, ?_⟩
  refine List.forall_mem_cons.mpr ⟨fs_callV hC nwl_ok hnw (cN := 3) (ci := 3) (C := R_Tr) rfl rfl ⟨callB_of 2 hts (tb_good wd_366) rfl rfl rfl (hm wd_35) (hm wd_363) pd_Tr_union ⟨Nat.le_of_ble_eq_true rfl, Nat.le_of_ble_eq_true rfl⟩, hm wd_365, hm wd_2⟩ d_Tr_preceding_6, ?_⟩
  refine List.forall_mem_cons.mpr ⟨fs_ret hC hr d_Tr_preceding_9, ?_⟩
  exact fun _ h => absurd h List.not_mem_nil
abbrev rm_Tr_succeeding : Room := { frames := 2, cells := 0, slots := 0, locals := 45 }
def ws_Tr_succeeding : List Cond := .code y_Tr_succeeding c_Tr_succeeding 2 (some .int) :: TB
abbrev MC_Tr_succeeding (κ : fx_K) : List fx_V → fx_S → (Int32 → fx_S → Prop) → Prop := fx_Met κ.1 κ.2.1 vwCl κ.2.2.1 κ.2.2.2 lyX nwl y_Tr_succeeding ws_Tr_succeeding rm_Tr_succeeding true
def tt_Tr_succeeding (κ : fx_K) (post : Int32 → fx_S → Prop) : List (Nat × fx_M fx_S) := [(0, fm_loada 0 1),
  (1, fm_loada 0 2),
  (2, fm_getr 3 15 5),
  (5, fm_load 1 6),
  (6, fm_call true 3 2 (MC_Tr_union κ) 9),
  (9, fm_ret post)]
set_option maxHeartbeats 4000000 in
set_option maxRecDepth 100000 in
theorem mo_Tr_succeeding {κ : fx_K} (hq : fx_I κ lyX.length) {av : List fx_V} {S : fx_S} {post : Int32 → fx_S → Prop} (hlen : av.length ≤ 2) (body : ∀ J : fx_J fx_S, (∀ r ∈ tt_Tr_succeeding κ post, fx_Snd J r.1 r.2) → (∀ pc k ls st S, J pc (ls.take k) st S → J pc ls st S) → J 0 av [] S) : MC_Tr_succeeding κ av S post := by
  refine fx_Met_of (cc := c_Tr_succeeding) (nL := 2) (ret := (some .int)) (by decide) rfl hq hlen ?_
  intro p e s m args below meth c hC hr hnw
  refine body _ ?_ fx_W_take
  have hF := hC.1
  have hts := hC.1.2.2.2.2
  have hm : ∀ {w : Cond}, w ∈ TB → w.before args s = true := fun h => hts _ (List.mem_cons_of_mem _ h)
  have g15 : ∀ (Q : State → Prop) (pc : Nat), decode c_Tr_succeeding pc = .ok (.getfield 15, 3) → fx_Snd (fx_W p κ.1 e rm_Tr_succeeding s m args below meth c Q (fx_A κ.2.2.2 lyX.length) 0 0 (fx_P κ.2.1 vwCl κ.2.2.1 κ.2.2.2 lyX) κ.2.2.2 2) pc (fm_getr 3 15 (pc + 3)) := fun Q pc hd => fs_getr hC (cN := 3) (j := 1) (ci := 3) (C := R_Tr) (T := T_Tr) (N := 5) rfl rfl rfl (by decide) (fun w h => List.mem_cons_of_mem _ (in_Tr w h)) (hm wd_103) hd
  refine List.forall_mem_cons.mpr ⟨fs_loada_n hF d_Tr_succeeding_0 rfl, ?_⟩
  refine List.forall_mem_cons.mpr ⟨fs_loada_n hF d_Tr_succeeding_1 rfl, ?_⟩
  refine List.forall_mem_cons.mpr ⟨g15 _ 2 d_Tr_succeeding_2, ?_⟩
  refine List.forall_mem_cons.mpr ⟨fs_load_n hF d_Tr_succeeding_5 rfl, ?_⟩
  refine List.forall_mem_cons.mpr ⟨fs_callV hC nwl_ok hnw (cN := 3) (ci := 3) (C := R_Tr) rfl rfl ⟨callB_of 2 hts (tb_good wd_366) rfl rfl rfl (hm wd_35) (hm wd_363) pd_Tr_union ⟨Nat.le_of_ble_eq_true rfl, Nat.le_of_ble_eq_true rfl⟩, hm wd_365, hm wd_2⟩ d_Tr_succeeding_6, ?_⟩
  refine List.forall_mem_cons.mpr ⟨fs_ret hC hr d_Tr_succeeding_9, ?_⟩
  exact fun _ h => absurd h List.not_mem_nil
abbrev rm_Or_add : Room := { frames := 0, cells := 0, slots := 0, locals := 0 }
def ws_Or_add : List Cond := .code y_Or_add c_Or_add 5 (some .int) :: TB
abbrev MC_Or_add (κ : fx_K) : List fx_V → fx_S → (Int32 → fx_S → Prop) → Prop := fx_Met κ.1 κ.2.1 vwCl κ.2.2.1 κ.2.2.2 lyX nwl y_Or_add ws_Or_add rm_Or_add true
def tt_Or_add (κ : fx_K) (post : Int32 → fx_S → Prop) : List (Nat × fx_M fx_S) := [(0, fm_loada 0 1),
  (1, fm_dup 2),
  (2, fm_get 4 3 5),
  (5, fm_dupx1 6),
  (6, fm_const 1 7),
  (7, fm_iadd 8),
  (8, fm_put 4 3 11),
  (11, fm_store 4 13),
  (13, fm_loada 0 14),
  (14, fm_getr 4 18 17),
  (17, fm_load 4 19),
  (19, fm_load 1 20),
  (20, fm_ast lnXI 21),
  (21, fm_loada 0 22),
  (22, fm_getr 4 19 25),
  (25, fm_load 4 27),
  (27, fm_load 2 28),
  (28, fm_ast lnXI 29),
  (29, fm_loada 0 30),
  (30, fm_getr 4 20 33),
  (33, fm_load 4 35),
  (35, fm_load 3 36),
  (36, fm_ast lnXI 37),
  (37, fm_load 4 39),
  (39, fm_ret post)]
set_option maxHeartbeats 4000000 in
set_option maxRecDepth 100000 in
theorem mo_Or_add {κ : fx_K} (hq : fx_I κ lyX.length) {av : List fx_V} {S : fx_S} {post : Int32 → fx_S → Prop} (hlen : av.length ≤ 5) (body : ∀ J : fx_J fx_S, (∀ r ∈ tt_Or_add κ post, fx_Snd J r.1 r.2) → (∀ pc k ls st S, J pc (ls.take k) st S → J pc ls st S) → J 0 av [] S) : MC_Or_add κ av S post := by
  refine fx_Met_of (cc := c_Or_add) (nL := 5) (ret := (some .int)) (by decide) rfl hq hlen ?_
  intro p e s m args below meth c hC hr hnw
  refine body _ ?_ fx_W_take
  have hF := hC.1
  have hts := hC.1.2.2.2.2
  have hm : ∀ {w : Cond}, w ∈ TB → w.before args s = true := fun h => hts _ (List.mem_cons_of_mem _ h)
  have g21 : ∀ (Q : State → Prop) (pc : Nat), decode c_Or_add pc = .ok (.getfield 21, 3) → fx_Snd (fx_W p κ.1 e rm_Or_add s m args below meth c Q (fx_A κ.2.2.2 lyX.length) 0 0 (fx_P κ.2.1 vwCl κ.2.2.1 κ.2.2.2 lyX) κ.2.2.2 5) pc (fm_get 4 3 (pc + 3)) := fun Q pc hd => fs_get hC (cN := 4) (j := 3) (ci := 4) (C := R_Or) (T := T_Or) (N := 4) rfl rfl rfl (by decide) (fun w h => List.mem_cons_of_mem _ (in_Or w h)) (hm wd_129) hd
  have g9 : ∀ (Q : State → Prop) (pc : Nat), decode c_Or_add pc = .ok (.getfield 9, 3) → fx_Snd (fx_W p κ.1 e rm_Or_add s m args below meth c Q (fx_A κ.2.2.2 lyX.length) 0 0 (fx_P κ.2.1 vwCl κ.2.2.1 κ.2.2.2 lyX) κ.2.2.2 5) pc (fm_getr 4 18 (pc + 3)) := fun Q pc hd => fs_getr hC (cN := 4) (j := 0) (ci := 4) (C := R_Or) (T := T_Or) (N := 4) rfl rfl rfl (by decide) (fun w h => List.mem_cons_of_mem _ (in_Or w h)) (hm wd_126) hd
  have g15 : ∀ (Q : State → Prop) (pc : Nat), decode c_Or_add pc = .ok (.getfield 15, 3) → fx_Snd (fx_W p κ.1 e rm_Or_add s m args below meth c Q (fx_A κ.2.2.2 lyX.length) 0 0 (fx_P κ.2.1 vwCl κ.2.2.1 κ.2.2.2 lyX) κ.2.2.2 5) pc (fm_getr 4 19 (pc + 3)) := fun Q pc hd => fs_getr hC (cN := 4) (j := 1) (ci := 4) (C := R_Or) (T := T_Or) (N := 4) rfl rfl rfl (by decide) (fun w h => List.mem_cons_of_mem _ (in_Or w h)) (hm wd_127) hd
  have g18 : ∀ (Q : State → Prop) (pc : Nat), decode c_Or_add pc = .ok (.getfield 18, 3) → fx_Snd (fx_W p κ.1 e rm_Or_add s m args below meth c Q (fx_A κ.2.2.2 lyX.length) 0 0 (fx_P κ.2.1 vwCl κ.2.2.1 κ.2.2.2 lyX) κ.2.2.2 5) pc (fm_getr 4 20 (pc + 3)) := fun Q pc hd => fs_getr hC (cN := 4) (j := 2) (ci := 4) (C := R_Or) (T := T_Or) (N := 4) rfl rfl rfl (by decide) (fun w h => List.mem_cons_of_mem _ (in_Or w h)) (hm wd_128) hd
  refine List.forall_mem_cons.mpr ⟨fs_loada_n hF d_Or_add_0 rfl, ?_⟩
  refine List.forall_mem_cons.mpr ⟨fs_dup hF d_Or_add_1, ?_⟩
  refine List.forall_mem_cons.mpr ⟨g21 _ 2 d_Or_add_2, ?_⟩
  refine List.forall_mem_cons.mpr ⟨fs_dupx1 hF d_Or_add_5, ?_⟩
  refine List.forall_mem_cons.mpr ⟨fs_const hF d_Or_add_6 (by decide), ?_⟩
  refine List.forall_mem_cons.mpr ⟨fs_iadd hF d_Or_add_7, ?_⟩
  refine List.forall_mem_cons.mpr ⟨fs_put hC (cN := 4) (j := 3) (ci := 4) (C := R_Or) (T := T_Or) (N := 4) rfl rfl rfl (by decide) ty_Or tk_Or nm_Or rfl (by decide +kernel) (fun w h => List.mem_cons_of_mem _ (in_Or w h)) (hm wd_129) d_Or_add_8, ?_⟩
  refine List.forall_mem_cons.mpr ⟨fs_store hF d_Or_add_11 (by decide), ?_⟩
  refine List.forall_mem_cons.mpr ⟨fs_loada_n hF d_Or_add_13 rfl, ?_⟩
  refine List.forall_mem_cons.mpr ⟨g9 _ 14 d_Or_add_14, ?_⟩
  refine List.forall_mem_cons.mpr ⟨fs_load hF d_Or_add_17, ?_⟩
  refine List.forall_mem_cons.mpr ⟨fs_load_n hF d_Or_add_19 rfl, ?_⟩
  refine List.forall_mem_cons.mpr ⟨fs_ast hC lkXI d_Or_add_20, ?_⟩
  refine List.forall_mem_cons.mpr ⟨fs_loada_n hF d_Or_add_21 rfl, ?_⟩
  refine List.forall_mem_cons.mpr ⟨g15 _ 22 d_Or_add_22, ?_⟩
  refine List.forall_mem_cons.mpr ⟨fs_load hF d_Or_add_25, ?_⟩
  refine List.forall_mem_cons.mpr ⟨fs_load_n hF d_Or_add_27 rfl, ?_⟩
  refine List.forall_mem_cons.mpr ⟨fs_ast hC lkXI d_Or_add_28, ?_⟩
  refine List.forall_mem_cons.mpr ⟨fs_loada_n hF d_Or_add_29 rfl, ?_⟩
  refine List.forall_mem_cons.mpr ⟨g18 _ 30 d_Or_add_30, ?_⟩
  refine List.forall_mem_cons.mpr ⟨fs_load hF d_Or_add_33, ?_⟩
  refine List.forall_mem_cons.mpr ⟨fs_load_n hF d_Or_add_35 rfl, ?_⟩
  refine List.forall_mem_cons.mpr ⟨fs_ast hC lkXI d_Or_add_36, ?_⟩
  refine List.forall_mem_cons.mpr ⟨fs_load hF d_Or_add_37, ?_⟩
  refine List.forall_mem_cons.mpr ⟨fs_ret hC hr d_Or_add_39, ?_⟩
  exact fun _ h => absurd h List.not_mem_nil
abbrev rm_Or_rulingOver : Room := { frames := 1, cells := 0, slots := 0, locals := 21 }
def ws_Or_rulingOver : List Cond := .code y_Or_rulingOver c_Or_rulingOver 4 (some .int) :: TB
abbrev MC_Or_rulingOver (κ : fx_K) : List fx_V → fx_S → (Int32 → fx_S → Prop) → Prop := fx_Met κ.1 κ.2.1 vwCl κ.2.2.1 κ.2.2.2 lyX nwl y_Or_rulingOver ws_Or_rulingOver rm_Or_rulingOver true
def tt_Or_rulingOver (κ : fx_K) (post : Int32 → fx_S → Prop) : List (Nat × fx_M fx_S) := [(0, fm_const 0 1),
  (1, fm_store 3 2),
  (2, fm_load 3 3),
  (3, fm_loada 0 4),
  (4, fm_get 4 3 7),
  (7, fm_cmpge 41 10),
  (10, fm_loada 0 11),
  (11, fm_getr 4 19 14),
  (14, fm_load 3 15),
  (15, fm_ald lnXI 16),
  (16, fm_load 1 17),
  (17, fm_cmpne 35 20),
  (20, fm_loada 0 21),
  (21, fm_getr 4 18 24),
  (24, fm_load 3 25),
  (25, fm_ald lnXI 26),
  (26, fm_load 2 27),
  (27, fm_calls true 2 (MC_Fc_isIn κ) 30),
  (30, fm_ifeq 35 33),
  (33, fm_load 3 34),
  (34, fm_ret post),
  (35, fm_inc 3 1 38),
  (38, fm_goto 2),
  (41, fm_const (-1) 42),
  (42, fm_ret post)]
set_option maxHeartbeats 4000000 in
set_option maxRecDepth 100000 in
theorem mo_Or_rulingOver {κ : fx_K} (hq : fx_I κ lyX.length) {av : List fx_V} {S : fx_S} {post : Int32 → fx_S → Prop} (hlen : av.length ≤ 4) (body : ∀ J : fx_J fx_S, (∀ r ∈ tt_Or_rulingOver κ post, fx_Snd J r.1 r.2) → (∀ pc k ls st S, J pc (ls.take k) st S → J pc ls st S) → J 0 av [] S) : MC_Or_rulingOver κ av S post := by
  refine fx_Met_of (cc := c_Or_rulingOver) (nL := 4) (ret := (some .int)) (by decide) rfl hq hlen ?_
  intro p e s m args below meth c hC hr hnw
  refine body _ ?_ fx_W_take
  have hF := hC.1
  have hts := hC.1.2.2.2.2
  have hm : ∀ {w : Cond}, w ∈ TB → w.before args s = true := fun h => hts _ (List.mem_cons_of_mem _ h)
  have g21 : ∀ (Q : State → Prop) (pc : Nat), decode c_Or_rulingOver pc = .ok (.getfield 21, 3) → fx_Snd (fx_W p κ.1 e rm_Or_rulingOver s m args below meth c Q (fx_A κ.2.2.2 lyX.length) 0 0 (fx_P κ.2.1 vwCl κ.2.2.1 κ.2.2.2 lyX) κ.2.2.2 4) pc (fm_get 4 3 (pc + 3)) := fun Q pc hd => fs_get hC (cN := 4) (j := 3) (ci := 4) (C := R_Or) (T := T_Or) (N := 4) rfl rfl rfl (by decide) (fun w h => List.mem_cons_of_mem _ (in_Or w h)) (hm wd_129) hd
  have g15 : ∀ (Q : State → Prop) (pc : Nat), decode c_Or_rulingOver pc = .ok (.getfield 15, 3) → fx_Snd (fx_W p κ.1 e rm_Or_rulingOver s m args below meth c Q (fx_A κ.2.2.2 lyX.length) 0 0 (fx_P κ.2.1 vwCl κ.2.2.1 κ.2.2.2 lyX) κ.2.2.2 4) pc (fm_getr 4 19 (pc + 3)) := fun Q pc hd => fs_getr hC (cN := 4) (j := 1) (ci := 4) (C := R_Or) (T := T_Or) (N := 4) rfl rfl rfl (by decide) (fun w h => List.mem_cons_of_mem _ (in_Or w h)) (hm wd_127) hd
  have g9 : ∀ (Q : State → Prop) (pc : Nat), decode c_Or_rulingOver pc = .ok (.getfield 9, 3) → fx_Snd (fx_W p κ.1 e rm_Or_rulingOver s m args below meth c Q (fx_A κ.2.2.2 lyX.length) 0 0 (fx_P κ.2.1 vwCl κ.2.2.1 κ.2.2.2 lyX) κ.2.2.2 4) pc (fm_getr 4 18 (pc + 3)) := fun Q pc hd => fs_getr hC (cN := 4) (j := 0) (ci := 4) (C := R_Or) (T := T_Or) (N := 4) rfl rfl rfl (by decide) (fun w h => List.mem_cons_of_mem _ (in_Or w h)) (hm wd_126) hd
  refine List.forall_mem_cons.mpr ⟨fs_const hF d_Or_rulingOver_0 (by decide), ?_⟩
  refine List.forall_mem_cons.mpr ⟨fs_store_n hF d_Or_rulingOver_1 rfl (by decide), ?_⟩
  refine List.forall_mem_cons.mpr ⟨fs_load_n hF d_Or_rulingOver_2 rfl, ?_⟩
  refine List.forall_mem_cons.mpr ⟨fs_loada_n hF d_Or_rulingOver_3 rfl, ?_⟩
  refine List.forall_mem_cons.mpr ⟨g21 _ 4 d_Or_rulingOver_4, ?_⟩
  refine List.forall_mem_cons.mpr ⟨fs_cmpge hF d_Or_rulingOver_7 (by decide), ?_⟩
  refine List.forall_mem_cons.mpr ⟨fs_loada_n hF d_Or_rulingOver_10 rfl, ?_⟩
  refine List.forall_mem_cons.mpr ⟨g15 _ 11 d_Or_rulingOver_11, ?_⟩
  refine List.forall_mem_cons.mpr ⟨fs_load_n hF d_Or_rulingOver_14 rfl, ?_⟩
  refine List.forall_mem_cons.mpr ⟨fs_ald hC lkXI d_Or_rulingOver_15, ?_⟩
  refine List.forall_mem_cons.mpr ⟨fs_load_n hF d_Or_rulingOver_16 rfl, ?_⟩
  refine List.forall_mem_cons.mpr ⟨fs_cmpne hF d_Or_rulingOver_17 (by decide), ?_⟩
  refine List.forall_mem_cons.mpr ⟨fs_loada_n hF d_Or_rulingOver_20 rfl, ?_⟩
  refine List.forall_mem_cons.mpr ⟨g9 _ 21 d_Or_rulingOver_21, ?_⟩
  refine List.forall_mem_cons.mpr ⟨fs_load_n hF d_Or_rulingOver_24 rfl, ?_⟩
  refine List.forall_mem_cons.mpr ⟨fs_ald hC lkXI d_Or_rulingOver_25, ?_⟩
  refine List.forall_mem_cons.mpr ⟨fs_load_n hF d_Or_rulingOver_26 rfl, ?_⟩
  refine List.forall_mem_cons.mpr ⟨fs_callSN hC nwl_ok hnw ⟨va_cnB 2 hts (tb_good wd_369) rfl rfl rfl (hnw _ (List.mem_of_getElem? (i := 27) rfl)) (hm wd_32) pd_Fc_isIn ⟨Nat.le_of_ble_eq_true rfl, Nat.le_of_ble_eq_true rfl⟩, hm wd_368⟩ d_Or_rulingOver_27, ?_⟩
  refine List.forall_mem_cons.mpr ⟨fs_ifeq hF d_Or_rulingOver_30 (by decide), ?_⟩
  refine List.forall_mem_cons.mpr ⟨fs_load_n hF d_Or_rulingOver_33 rfl, ?_⟩
  refine List.forall_mem_cons.mpr ⟨fs_ret hC hr d_Or_rulingOver_34, ?_⟩
  refine List.forall_mem_cons.mpr ⟨fs_inc hF d_Or_rulingOver_35 (by decide) (by decide), ?_⟩
  refine List.forall_mem_cons.mpr ⟨fs_goto hF d_Or_rulingOver_38 (by decide), ?_⟩
  refine List.forall_mem_cons.mpr ⟨fs_const hF d_Or_rulingOver_41 (by decide), ?_⟩
  refine List.forall_mem_cons.mpr ⟨fs_ret hC hr d_Or_rulingOver_42, ?_⟩
  exact fun _ h => absurd h List.not_mem_nil
abbrev rm_Or_forcedSteps : Room := { frames := 0, cells := 0, slots := 0, locals := 0 }
def ws_Or_forcedSteps : List Cond := .code y_Or_forcedSteps c_Or_forcedSteps 3 (some .int) :: TB
abbrev MC_Or_forcedSteps (κ : fx_K) : List fx_V → fx_S → (Int32 → fx_S → Prop) → Prop := fx_Met κ.1 κ.2.1 vwCl κ.2.2.1 κ.2.2.2 lyX nwl y_Or_forcedSteps ws_Or_forcedSteps rm_Or_forcedSteps true
def tt_Or_forcedSteps (κ : fx_K) (post : Int32 → fx_S → Prop) : List (Nat × fx_M fx_S) := [(0, fm_loada 0 1),
  (1, fm_getr 4 20 4),
  (4, fm_load 1 5),
  (5, fm_ald lnXI 6),
  (6, fm_const (-1) 7),
  (7, fm_cmpne 14 10),
  (10, fm_load 2 11),
  (11, fm_goto 20),
  (14, fm_loada 0 15),
  (15, fm_getr 4 20 18),
  (18, fm_load 1 19),
  (19, fm_ald lnXI 20),
  (20, fm_ret post)]
set_option maxHeartbeats 4000000 in
set_option maxRecDepth 100000 in
theorem mo_Or_forcedSteps {κ : fx_K} (hq : fx_I κ lyX.length) {av : List fx_V} {S : fx_S} {post : Int32 → fx_S → Prop} (hlen : av.length ≤ 3) (body : ∀ J : fx_J fx_S, (∀ r ∈ tt_Or_forcedSteps κ post, fx_Snd J r.1 r.2) → (∀ pc k ls st S, J pc (ls.take k) st S → J pc ls st S) → J 0 av [] S) : MC_Or_forcedSteps κ av S post := by
  refine fx_Met_of (cc := c_Or_forcedSteps) (nL := 3) (ret := (some .int)) (by decide) rfl hq hlen ?_
  intro p e s m args below meth c hC hr hnw
  refine body _ ?_ fx_W_take
  have hF := hC.1
  have hts := hC.1.2.2.2.2
  have hm : ∀ {w : Cond}, w ∈ TB → w.before args s = true := fun h => hts _ (List.mem_cons_of_mem _ h)
  have g18 : ∀ (Q : State → Prop) (pc : Nat), decode c_Or_forcedSteps pc = .ok (.getfield 18, 3) → fx_Snd (fx_W p κ.1 e rm_Or_forcedSteps s m args below meth c Q (fx_A κ.2.2.2 lyX.length) 0 0 (fx_P κ.2.1 vwCl κ.2.2.1 κ.2.2.2 lyX) κ.2.2.2 3) pc (fm_getr 4 20 (pc + 3)) := fun Q pc hd => fs_getr hC (cN := 4) (j := 2) (ci := 4) (C := R_Or) (T := T_Or) (N := 4) rfl rfl rfl (by decide) (fun w h => List.mem_cons_of_mem _ (in_Or w h)) (hm wd_128) hd
  refine List.forall_mem_cons.mpr ⟨fs_loada_n hF d_Or_forcedSteps_0 rfl, ?_⟩
  refine List.forall_mem_cons.mpr ⟨g18 _ 1 d_Or_forcedSteps_1, ?_⟩
  refine List.forall_mem_cons.mpr ⟨fs_load_n hF d_Or_forcedSteps_4 rfl, ?_⟩
  refine List.forall_mem_cons.mpr ⟨fs_ald hC lkXI d_Or_forcedSteps_5, ?_⟩
  refine List.forall_mem_cons.mpr ⟨fs_const hF d_Or_forcedSteps_6 (by decide), ?_⟩
  refine List.forall_mem_cons.mpr ⟨fs_cmpne hF d_Or_forcedSteps_7 (by decide), ?_⟩
  refine List.forall_mem_cons.mpr ⟨fs_load_n hF d_Or_forcedSteps_10 rfl, ?_⟩
  refine List.forall_mem_cons.mpr ⟨fs_goto hF d_Or_forcedSteps_11 (by decide), ?_⟩
  refine List.forall_mem_cons.mpr ⟨fs_loada_n hF d_Or_forcedSteps_14 rfl, ?_⟩
  refine List.forall_mem_cons.mpr ⟨g18 _ 15 d_Or_forcedSteps_15, ?_⟩
  refine List.forall_mem_cons.mpr ⟨fs_load_n hF d_Or_forcedSteps_18 rfl, ?_⟩
  refine List.forall_mem_cons.mpr ⟨fs_ald hC lkXI d_Or_forcedSteps_19, ?_⟩
  refine List.forall_mem_cons.mpr ⟨fs_ret hC hr d_Or_forcedSteps_20, ?_⟩
  exact fun _ h => absurd h List.not_mem_nil
abbrev rm_Or_fixedBy : Room := { frames := 1, cells := 0, slots := 0, locals := 22 }
def ws_Or_fixedBy : List Cond := .code y_Or_fixedBy c_Or_fixedBy 4 (some .int) :: TB
abbrev MC_Or_fixedBy (κ : fx_K) : List fx_V → fx_S → (Int32 → fx_S → Prop) → Prop := fx_Met κ.1 κ.2.1 vwCl κ.2.2.1 κ.2.2.2 lyX nwl y_Or_fixedBy ws_Or_fixedBy rm_Or_fixedBy true
def tt_Or_fixedBy (κ : fx_K) (post : Int32 → fx_S → Prop) : List (Nat × fx_M fx_S) := [(0, fm_const 0 1),
  (1, fm_store 2 2),
  (2, fm_const 0 3),
  (3, fm_store 3 4),
  (4, fm_load 3 5),
  (5, fm_loada 0 6),
  (6, fm_get 4 3 9),
  (9, fm_cmpge 40 12),
  (12, fm_loada 0 13),
  (13, fm_getr 4 18 16),
  (16, fm_load 3 17),
  (17, fm_ald lnXI 18),
  (18, fm_load 1 19),
  (19, fm_calls true 2 (MC_Fc_isIn κ) 22),
  (22, fm_ifeq 34 25),
  (25, fm_load 2 26),
  (26, fm_loada 0 27),
  (27, fm_load 3 28),
  (28, fm_const 0 29),
  (29, fm_call true 4 2 (MC_Or_forcedSteps κ) 32),
  (32, fm_ior 33),
  (33, fm_store 2 34),
  (34, fm_inc 3 1 37),
  (37, fm_goto 4),
  (40, fm_load 2 41),
  (41, fm_ret post)]
set_option maxHeartbeats 4000000 in
set_option maxRecDepth 100000 in
theorem mo_Or_fixedBy {κ : fx_K} (hq : fx_I κ lyX.length) {av : List fx_V} {S : fx_S} {post : Int32 → fx_S → Prop} (hlen : av.length ≤ 4) (body : ∀ J : fx_J fx_S, (∀ r ∈ tt_Or_fixedBy κ post, fx_Snd J r.1 r.2) → (∀ pc k ls st S, J pc (ls.take k) st S → J pc ls st S) → J 0 av [] S) : MC_Or_fixedBy κ av S post := by
  refine fx_Met_of (cc := c_Or_fixedBy) (nL := 4) (ret := (some .int)) (by decide) rfl hq hlen ?_
  intro p e s m args below meth c hC hr hnw
  refine body _ ?_ fx_W_take
  have hF := hC.1
  have hts := hC.1.2.2.2.2
  have hm : ∀ {w : Cond}, w ∈ TB → w.before args s = true := fun h => hts _ (List.mem_cons_of_mem _ h)
  have g21 : ∀ (Q : State → Prop) (pc : Nat), decode c_Or_fixedBy pc = .ok (.getfield 21, 3) → fx_Snd (fx_W p κ.1 e rm_Or_fixedBy s m args below meth c Q (fx_A κ.2.2.2 lyX.length) 0 0 (fx_P κ.2.1 vwCl κ.2.2.1 κ.2.2.2 lyX) κ.2.2.2 4) pc (fm_get 4 3 (pc + 3)) := fun Q pc hd => fs_get hC (cN := 4) (j := 3) (ci := 4) (C := R_Or) (T := T_Or) (N := 4) rfl rfl rfl (by decide) (fun w h => List.mem_cons_of_mem _ (in_Or w h)) (hm wd_129) hd
  have g9 : ∀ (Q : State → Prop) (pc : Nat), decode c_Or_fixedBy pc = .ok (.getfield 9, 3) → fx_Snd (fx_W p κ.1 e rm_Or_fixedBy s m args below meth c Q (fx_A κ.2.2.2 lyX.length) 0 0 (fx_P κ.2.1 vwCl κ.2.2.1 κ.2.2.2 lyX) κ.2.2.2 4) pc (fm_getr 4 18 (pc + 3)) := fun Q pc hd => fs_getr hC (cN := 4) (j := 0) (ci := 4) (C := R_Or) (T := T_Or) (N := 4) rfl rfl rfl (by decide) (fun w h => List.mem_cons_of_mem _ (in_Or w h)) (hm wd_126) hd
  refine List.forall_mem_cons.mpr ⟨fs_const hF d_Or_fixedBy_0 (by decide), ?_⟩
  refine List.forall_mem_cons.mpr ⟨fs_store_n hF d_Or_fixedBy_1 rfl (by decide), ?_⟩
  refine List.forall_mem_cons.mpr ⟨fs_const hF d_Or_fixedBy_2 (by decide), ?_⟩
  refine List.forall_mem_cons.mpr ⟨fs_store_n hF d_Or_fixedBy_3 rfl (by decide), ?_⟩
  refine List.forall_mem_cons.mpr ⟨fs_load_n hF d_Or_fixedBy_4 rfl, ?_⟩
  refine List.forall_mem_cons.mpr ⟨fs_loada_n hF d_Or_fixedBy_5 rfl, ?_⟩
  refine List.forall_mem_cons.mpr ⟨g21 _ 6 d_Or_fixedBy_6, ?_⟩
  refine List.forall_mem_cons.mpr ⟨fs_cmpge hF d_Or_fixedBy_9 (by decide), ?_⟩
  refine List.forall_mem_cons.mpr ⟨fs_loada_n hF d_Or_fixedBy_12 rfl, ?_⟩
  refine List.forall_mem_cons.mpr ⟨g9 _ 13 d_Or_fixedBy_13, ?_⟩
  refine List.forall_mem_cons.mpr ⟨fs_load_n hF d_Or_fixedBy_16 rfl, ?_⟩
  refine List.forall_mem_cons.mpr ⟨fs_ald hC lkXI d_Or_fixedBy_17, ?_⟩
  refine List.forall_mem_cons.mpr ⟨fs_load_n hF d_Or_fixedBy_18 rfl, ?_⟩
  refine List.forall_mem_cons.mpr ⟨fs_callSN hC nwl_ok hnw ⟨va_cnB 2 hts (tb_good wd_369) rfl rfl rfl (hnw _ (List.mem_of_getElem? (i := 27) rfl)) (hm wd_32) pd_Fc_isIn ⟨Nat.le_of_ble_eq_true rfl, Nat.le_of_ble_eq_true rfl⟩, hm wd_368⟩ d_Or_fixedBy_19, ?_⟩
  refine List.forall_mem_cons.mpr ⟨fs_ifeq hF d_Or_fixedBy_22 (by decide), ?_⟩
  refine List.forall_mem_cons.mpr ⟨fs_load_n hF d_Or_fixedBy_25 rfl, ?_⟩
  refine List.forall_mem_cons.mpr ⟨fs_loada_n hF d_Or_fixedBy_26 rfl, ?_⟩
  refine List.forall_mem_cons.mpr ⟨fs_load_n hF d_Or_fixedBy_27 rfl, ?_⟩
  refine List.forall_mem_cons.mpr ⟨fs_const hF d_Or_fixedBy_28 (by decide), ?_⟩
  refine List.forall_mem_cons.mpr ⟨fs_callV hC nwl_ok hnw (cN := 4) (ci := 4) (C := R_Or) rfl rfl ⟨callB_of 2 hts (tb_good wd_378) rfl rfl rfl (hm wd_36) (hm wd_375) pd_Or_forcedSteps ⟨Nat.le_of_ble_eq_true rfl, Nat.le_of_ble_eq_true rfl⟩, hm wd_376, hm wd_377⟩ d_Or_fixedBy_29, ?_⟩
  refine List.forall_mem_cons.mpr ⟨fs_ior hF d_Or_fixedBy_32, ?_⟩
  refine List.forall_mem_cons.mpr ⟨fs_store_n hF d_Or_fixedBy_33 rfl (by decide), ?_⟩
  refine List.forall_mem_cons.mpr ⟨fs_inc hF d_Or_fixedBy_34 (by decide) (by decide), ?_⟩
  refine List.forall_mem_cons.mpr ⟨fs_goto hF d_Or_fixedBy_37 (by decide), ?_⟩
  refine List.forall_mem_cons.mpr ⟨fs_load_n hF d_Or_fixedBy_40 rfl, ?_⟩
  refine List.forall_mem_cons.mpr ⟨fs_ret hC hr d_Or_fixedBy_41, ?_⟩
  exact fun _ h => absurd h List.not_mem_nil
abbrev rm_Ac_isQualifier : Room := { frames := 0, cells := 0, slots := 0, locals := 0 }
def ws_Ac_isQualifier : List Cond := .code y_Ac_isQualifier c_Ac_isQualifier 1 (some .boolean) :: TB
abbrev MC_Ac_isQualifier (κ : fx_K) : List fx_V → fx_S → (Int32 → fx_S → Prop) → Prop := fx_Met κ.1 κ.2.1 vwCl κ.2.2.1 κ.2.2.2 lyX nwl y_Ac_isQualifier ws_Ac_isQualifier rm_Ac_isQualifier true
def tt_Ac_isQualifier (κ : fx_K) (post : Int32 → fx_S → Prop) : List (Nat × fx_M fx_S) := [(0, fm_load 0 1),
  (1, fm_iflt 14 4),
  (4, fm_load 0 5),
  (5, fm_const 9 7),
  (7, fm_cmpgt 14 10),
  (10, fm_const 1 11),
  (11, fm_goto 15),
  (14, fm_const 0 15),
  (15, fm_zret post)]
set_option maxHeartbeats 4000000 in
set_option maxRecDepth 100000 in
theorem mo_Ac_isQualifier {κ : fx_K} (hq : fx_I κ lyX.length) {av : List fx_V} {S : fx_S} {post : Int32 → fx_S → Prop} (hlen : av.length ≤ 1) (body : ∀ J : fx_J fx_S, (∀ r ∈ tt_Ac_isQualifier κ post, fx_Snd J r.1 r.2) → (∀ pc k ls st S, J pc (ls.take k) st S → J pc ls st S) → J 0 av [] S) : MC_Ac_isQualifier κ av S post := by
  refine fx_Met_of (cc := c_Ac_isQualifier) (nL := 1) (ret := (some .boolean)) (by decide) rfl hq hlen ?_
  intro p e s m args below meth c hC hr hnw
  refine body _ ?_ fx_W_take
  have hF := hC.1
  have hts := hC.1.2.2.2.2
  have hm : ∀ {w : Cond}, w ∈ TB → w.before args s = true := fun h => hts _ (List.mem_cons_of_mem _ h)
  refine List.forall_mem_cons.mpr ⟨fs_load_n hF d_Ac_isQualifier_0 rfl, ?_⟩
  refine List.forall_mem_cons.mpr ⟨fs_iflt hF d_Ac_isQualifier_1 (by decide), ?_⟩
  refine List.forall_mem_cons.mpr ⟨fs_load_n hF d_Ac_isQualifier_4 rfl, ?_⟩
  refine List.forall_mem_cons.mpr ⟨fs_bipush hF d_Ac_isQualifier_5 (by decide), ?_⟩
  refine List.forall_mem_cons.mpr ⟨fs_cmpgt hF d_Ac_isQualifier_7 (by decide), ?_⟩
  refine List.forall_mem_cons.mpr ⟨fs_const hF d_Ac_isQualifier_10 (by decide), ?_⟩
  refine List.forall_mem_cons.mpr ⟨fs_goto hF d_Ac_isQualifier_11 (by decide), ?_⟩
  refine List.forall_mem_cons.mpr ⟨fs_const hF d_Ac_isQualifier_14 (by decide), ?_⟩
  refine List.forall_mem_cons.mpr ⟨fs_zret hC hr d_Ac_isQualifier_15, ?_⟩
  exact fun _ h => absurd h List.not_mem_nil
abbrev rm_Ac_add : Room := { frames := 0, cells := 0, slots := 0, locals := 0 }
def ws_Ac_add : List Cond := .code y_Ac_add c_Ac_add 6 (some .int) :: TB
abbrev MC_Ac_add (κ : fx_K) : List fx_V → fx_S → (Int32 → fx_S → Prop) → Prop := fx_Met κ.1 κ.2.1 vwCl κ.2.2.1 κ.2.2.2 lyX nwl y_Ac_add ws_Ac_add rm_Ac_add true
def tt_Ac_add (κ : fx_K) (post : Int32 → fx_S → Prop) : List (Nat × fx_M fx_S) := [(0, fm_loada 0 1),
  (1, fm_dup 2),
  (2, fm_get 5 5 5),
  (5, fm_dupx1 6),
  (6, fm_const 1 7),
  (7, fm_iadd 8),
  (8, fm_put 5 5 11),
  (11, fm_store 5 13),
  (13, fm_loada 0 14),
  (14, fm_getr 5 21 17),
  (17, fm_load 5 19),
  (19, fm_load 1 20),
  (20, fm_ast lnXI 21),
  (21, fm_loada 0 22),
  (22, fm_getr 5 22 25),
  (25, fm_load 5 27),
  (27, fm_load 2 28),
  (28, fm_ast lnXI 29),
  (29, fm_loada 0 30),
  (30, fm_getr 5 23 33),
  (33, fm_load 5 35),
  (35, fm_load 3 36),
  (36, fm_ast lnXI 37),
  (37, fm_loada 0 38),
  (38, fm_getr 5 24 41),
  (41, fm_load 5 43),
  (43, fm_load 4 45),
  (45, fm_ast lnXI 46),
  (46, fm_load 5 48),
  (48, fm_ret post)]
set_option maxHeartbeats 4000000 in
set_option maxRecDepth 100000 in
theorem mo_Ac_add {κ : fx_K} (hq : fx_I κ lyX.length) {av : List fx_V} {S : fx_S} {post : Int32 → fx_S → Prop} (hlen : av.length ≤ 6) (body : ∀ J : fx_J fx_S, (∀ r ∈ tt_Ac_add κ post, fx_Snd J r.1 r.2) → (∀ pc k ls st S, J pc (ls.take k) st S → J pc ls st S) → J 0 av [] S) : MC_Ac_add κ av S post := by
  refine fx_Met_of (cc := c_Ac_add) (nL := 6) (ret := (some .int)) (by decide) rfl hq hlen ?_
  intro p e s m args below meth c hC hr hnw
  refine body _ ?_ fx_W_take
  have hF := hC.1
  have hts := hC.1.2.2.2.2
  have hm : ∀ {w : Cond}, w ∈ TB → w.before args s = true := fun h => hts _ (List.mem_cons_of_mem _ h)
  have g27 : ∀ (Q : State → Prop) (pc : Nat), decode c_Ac_add pc = .ok (.getfield 27, 3) → fx_Snd (fx_W p κ.1 e rm_Ac_add s m args below meth c Q (fx_A κ.2.2.2 lyX.length) 0 0 (fx_P κ.2.1 vwCl κ.2.2.1 κ.2.2.2 lyX) κ.2.2.2 6) pc (fm_get 5 5 (pc + 3)) := fun Q pc hd => fs_get hC (cN := 5) (j := 5) (ci := 5) (C := R_Ac) (T := T_Ac) (N := 7) rfl rfl rfl (by decide) (fun w h => List.mem_cons_of_mem _ (in_Ac w h)) (hm wd_151) hd
  have g9 : ∀ (Q : State → Prop) (pc : Nat), decode c_Ac_add pc = .ok (.getfield 9, 3) → fx_Snd (fx_W p κ.1 e rm_Ac_add s m args below meth c Q (fx_A κ.2.2.2 lyX.length) 0 0 (fx_P κ.2.1 vwCl κ.2.2.1 κ.2.2.2 lyX) κ.2.2.2 6) pc (fm_getr 5 21 (pc + 3)) := fun Q pc hd => fs_getr hC (cN := 5) (j := 0) (ci := 5) (C := R_Ac) (T := T_Ac) (N := 7) rfl rfl rfl (by decide) (fun w h => List.mem_cons_of_mem _ (in_Ac w h)) (hm wd_146) hd
  have g15 : ∀ (Q : State → Prop) (pc : Nat), decode c_Ac_add pc = .ok (.getfield 15, 3) → fx_Snd (fx_W p κ.1 e rm_Ac_add s m args below meth c Q (fx_A κ.2.2.2 lyX.length) 0 0 (fx_P κ.2.1 vwCl κ.2.2.1 κ.2.2.2 lyX) κ.2.2.2 6) pc (fm_getr 5 22 (pc + 3)) := fun Q pc hd => fs_getr hC (cN := 5) (j := 1) (ci := 5) (C := R_Ac) (T := T_Ac) (N := 7) rfl rfl rfl (by decide) (fun w h => List.mem_cons_of_mem _ (in_Ac w h)) (hm wd_147) hd
  have g18 : ∀ (Q : State → Prop) (pc : Nat), decode c_Ac_add pc = .ok (.getfield 18, 3) → fx_Snd (fx_W p κ.1 e rm_Ac_add s m args below meth c Q (fx_A κ.2.2.2 lyX.length) 0 0 (fx_P κ.2.1 vwCl κ.2.2.1 κ.2.2.2 lyX) κ.2.2.2 6) pc (fm_getr 5 23 (pc + 3)) := fun Q pc hd => fs_getr hC (cN := 5) (j := 2) (ci := 5) (C := R_Ac) (T := T_Ac) (N := 7) rfl rfl rfl (by decide) (fun w h => List.mem_cons_of_mem _ (in_Ac w h)) (hm wd_148) hd
  have g21 : ∀ (Q : State → Prop) (pc : Nat), decode c_Ac_add pc = .ok (.getfield 21, 3) → fx_Snd (fx_W p κ.1 e rm_Ac_add s m args below meth c Q (fx_A κ.2.2.2 lyX.length) 0 0 (fx_P κ.2.1 vwCl κ.2.2.1 κ.2.2.2 lyX) κ.2.2.2 6) pc (fm_getr 5 24 (pc + 3)) := fun Q pc hd => fs_getr hC (cN := 5) (j := 3) (ci := 5) (C := R_Ac) (T := T_Ac) (N := 7) rfl rfl rfl (by decide) (fun w h => List.mem_cons_of_mem _ (in_Ac w h)) (hm wd_149) hd
  refine List.forall_mem_cons.mpr ⟨fs_loada_n hF d_Ac_add_0 rfl, ?_⟩
  refine List.forall_mem_cons.mpr ⟨fs_dup hF d_Ac_add_1, ?_⟩
  refine List.forall_mem_cons.mpr ⟨g27 _ 2 d_Ac_add_2, ?_⟩
  refine List.forall_mem_cons.mpr ⟨fs_dupx1 hF d_Ac_add_5, ?_⟩
  refine List.forall_mem_cons.mpr ⟨fs_const hF d_Ac_add_6 (by decide), ?_⟩
  refine List.forall_mem_cons.mpr ⟨fs_iadd hF d_Ac_add_7, ?_⟩
  refine List.forall_mem_cons.mpr ⟨fs_put hC (cN := 5) (j := 5) (ci := 5) (C := R_Ac) (T := T_Ac) (N := 7) rfl rfl rfl (by decide) ty_Ac tk_Ac nm_Ac rfl (by decide +kernel) (fun w h => List.mem_cons_of_mem _ (in_Ac w h)) (hm wd_151) d_Ac_add_8, ?_⟩
  refine List.forall_mem_cons.mpr ⟨fs_store hF d_Ac_add_11 (by decide), ?_⟩
  refine List.forall_mem_cons.mpr ⟨fs_loada_n hF d_Ac_add_13 rfl, ?_⟩
  refine List.forall_mem_cons.mpr ⟨g9 _ 14 d_Ac_add_14, ?_⟩
  refine List.forall_mem_cons.mpr ⟨fs_load hF d_Ac_add_17, ?_⟩
  refine List.forall_mem_cons.mpr ⟨fs_load_n hF d_Ac_add_19 rfl, ?_⟩
  refine List.forall_mem_cons.mpr ⟨fs_ast hC lkXI d_Ac_add_20, ?_⟩
  refine List.forall_mem_cons.mpr ⟨fs_loada_n hF d_Ac_add_21 rfl, ?_⟩
  refine List.forall_mem_cons.mpr ⟨g15 _ 22 d_Ac_add_22, ?_⟩
  refine List.forall_mem_cons.mpr ⟨fs_load hF d_Ac_add_25, ?_⟩
  refine List.forall_mem_cons.mpr ⟨fs_load_n hF d_Ac_add_27 rfl, ?_⟩
  refine List.forall_mem_cons.mpr ⟨fs_ast hC lkXI d_Ac_add_28, ?_⟩
  refine List.forall_mem_cons.mpr ⟨fs_loada_n hF d_Ac_add_29 rfl, ?_⟩
  refine List.forall_mem_cons.mpr ⟨g18 _ 30 d_Ac_add_30, ?_⟩
  refine List.forall_mem_cons.mpr ⟨fs_load hF d_Ac_add_33, ?_⟩
  refine List.forall_mem_cons.mpr ⟨fs_load_n hF d_Ac_add_35 rfl, ?_⟩
  refine List.forall_mem_cons.mpr ⟨fs_ast hC lkXI d_Ac_add_36, ?_⟩
  refine List.forall_mem_cons.mpr ⟨fs_loada_n hF d_Ac_add_37 rfl, ?_⟩
  refine List.forall_mem_cons.mpr ⟨g21 _ 38 d_Ac_add_38, ?_⟩
  refine List.forall_mem_cons.mpr ⟨fs_load hF d_Ac_add_41, ?_⟩
  refine List.forall_mem_cons.mpr ⟨fs_load hF d_Ac_add_43, ?_⟩
  refine List.forall_mem_cons.mpr ⟨fs_ast hC lkXI d_Ac_add_45, ?_⟩
  refine List.forall_mem_cons.mpr ⟨fs_load hF d_Ac_add_46, ?_⟩
  refine List.forall_mem_cons.mpr ⟨fs_ret hC hr d_Ac_add_48, ?_⟩
  exact fun _ h => absurd h List.not_mem_nil
abbrev rm_Ac_isStored : Room := { frames := 1, cells := 0, slots := 0, locals := 21 }
def ws_Ac_isStored : List Cond := .code y_Ac_isStored c_Ac_isStored 2 (some .boolean) :: TB
abbrev MC_Ac_isStored (κ : fx_K) : List fx_V → fx_S → (Int32 → fx_S → Prop) → Prop := fx_Met κ.1 κ.2.1 vwCl κ.2.2.1 κ.2.2.2 lyX nwl y_Ac_isStored ws_Ac_isStored rm_Ac_isStored true
def tt_Ac_isStored (κ : fx_K) (post : Int32 → fx_S → Prop) : List (Nat × fx_M fx_S) := [(0, fm_load 1 1),
  (1, fm_iflt 27 4),
  (4, fm_load 1 5),
  (5, fm_loada 0 6),
  (6, fm_get 5 5 9),
  (9, fm_cmpge 27 12),
  (12, fm_load 1 13),
  (13, fm_loada 0 14),
  (14, fm_get 5 6 17),
  (17, fm_calls true 2 (MC_Fc_isIn κ) 20),
  (20, fm_ifeq 27 23),
  (23, fm_const 1 24),
  (24, fm_goto 28),
  (27, fm_const 0 28),
  (28, fm_zret post)]
set_option maxHeartbeats 4000000 in
set_option maxRecDepth 100000 in
theorem mo_Ac_isStored {κ : fx_K} (hq : fx_I κ lyX.length) {av : List fx_V} {S : fx_S} {post : Int32 → fx_S → Prop} (hlen : av.length ≤ 2) (body : ∀ J : fx_J fx_S, (∀ r ∈ tt_Ac_isStored κ post, fx_Snd J r.1 r.2) → (∀ pc k ls st S, J pc (ls.take k) st S → J pc ls st S) → J 0 av [] S) : MC_Ac_isStored κ av S post := by
  refine fx_Met_of (cc := c_Ac_isStored) (nL := 2) (ret := (some .boolean)) (by decide) rfl hq hlen ?_
  intro p e s m args below meth c hC hr hnw
  refine body _ ?_ fx_W_take
  have hF := hC.1
  have hts := hC.1.2.2.2.2
  have hm : ∀ {w : Cond}, w ∈ TB → w.before args s = true := fun h => hts _ (List.mem_cons_of_mem _ h)
  have g27 : ∀ (Q : State → Prop) (pc : Nat), decode c_Ac_isStored pc = .ok (.getfield 27, 3) → fx_Snd (fx_W p κ.1 e rm_Ac_isStored s m args below meth c Q (fx_A κ.2.2.2 lyX.length) 0 0 (fx_P κ.2.1 vwCl κ.2.2.1 κ.2.2.2 lyX) κ.2.2.2 2) pc (fm_get 5 5 (pc + 3)) := fun Q pc hd => fs_get hC (cN := 5) (j := 5) (ci := 5) (C := R_Ac) (T := T_Ac) (N := 7) rfl rfl rfl (by decide) (fun w h => List.mem_cons_of_mem _ (in_Ac w h)) (hm wd_151) hd
  have g31 : ∀ (Q : State → Prop) (pc : Nat), decode c_Ac_isStored pc = .ok (.getfield 31, 3) → fx_Snd (fx_W p κ.1 e rm_Ac_isStored s m args below meth c Q (fx_A κ.2.2.2 lyX.length) 0 0 (fx_P κ.2.1 vwCl κ.2.2.1 κ.2.2.2 lyX) κ.2.2.2 2) pc (fm_get 5 6 (pc + 3)) := fun Q pc hd => fs_get hC (cN := 5) (j := 6) (ci := 5) (C := R_Ac) (T := T_Ac) (N := 7) rfl rfl rfl (by decide) (fun w h => List.mem_cons_of_mem _ (in_Ac w h)) (hm wd_153) hd
  refine List.forall_mem_cons.mpr ⟨fs_load_n hF d_Ac_isStored_0 rfl, ?_⟩
  refine List.forall_mem_cons.mpr ⟨fs_iflt hF d_Ac_isStored_1 (by decide), ?_⟩
  refine List.forall_mem_cons.mpr ⟨fs_load_n hF d_Ac_isStored_4 rfl, ?_⟩
  refine List.forall_mem_cons.mpr ⟨fs_loada_n hF d_Ac_isStored_5 rfl, ?_⟩
  refine List.forall_mem_cons.mpr ⟨g27 _ 6 d_Ac_isStored_6, ?_⟩
  refine List.forall_mem_cons.mpr ⟨fs_cmpge hF d_Ac_isStored_9 (by decide), ?_⟩
  refine List.forall_mem_cons.mpr ⟨fs_load_n hF d_Ac_isStored_12 rfl, ?_⟩
  refine List.forall_mem_cons.mpr ⟨fs_loada_n hF d_Ac_isStored_13 rfl, ?_⟩
  refine List.forall_mem_cons.mpr ⟨g31 _ 14 d_Ac_isStored_14, ?_⟩
  refine List.forall_mem_cons.mpr ⟨fs_callSN hC nwl_ok hnw ⟨va_cnB 2 hts (tb_good wd_369) rfl rfl rfl (hnw _ (List.mem_of_getElem? (i := 30) rfl)) (hm wd_32) pd_Fc_isIn ⟨Nat.le_of_ble_eq_true rfl, Nat.le_of_ble_eq_true rfl⟩, hm wd_368⟩ d_Ac_isStored_17, ?_⟩
  refine List.forall_mem_cons.mpr ⟨fs_ifeq hF d_Ac_isStored_20 (by decide), ?_⟩
  refine List.forall_mem_cons.mpr ⟨fs_const hF d_Ac_isStored_23 (by decide), ?_⟩
  refine List.forall_mem_cons.mpr ⟨fs_goto hF d_Ac_isStored_24 (by decide), ?_⟩
  refine List.forall_mem_cons.mpr ⟨fs_const hF d_Ac_isStored_27 (by decide), ?_⟩
  refine List.forall_mem_cons.mpr ⟨fs_zret hC hr d_Ac_isStored_28, ?_⟩
  exact fun _ h => absurd h List.not_mem_nil
abbrev rm_Ac_forgetStored : Room := { frames := 0, cells := 0, slots := 0, locals := 0 }
def ws_Ac_forgetStored : List Cond := .code y_Ac_forgetStored c_Ac_forgetStored 1 none :: TB
abbrev MC_Ac_forgetStored (κ : fx_K) : List fx_V → fx_S → (Int32 → fx_S → Prop) → Prop := fx_Met κ.1 κ.2.1 vwCl κ.2.2.1 κ.2.2.2 lyX nwl y_Ac_forgetStored ws_Ac_forgetStored rm_Ac_forgetStored false
def tt_Ac_forgetStored (κ : fx_K) (post : Int32 → fx_S → Prop) : List (Nat × fx_M fx_S) := [(0, fm_loada 0 1),
  (1, fm_const 0 2),
  (2, fm_put 5 6 5),
  (5, fm_vret post)]
set_option maxHeartbeats 4000000 in
set_option maxRecDepth 100000 in
theorem mo_Ac_forgetStored {κ : fx_K} (hq : fx_I κ lyX.length) {av : List fx_V} {S : fx_S} {post : Int32 → fx_S → Prop} (hlen : av.length ≤ 1) (body : ∀ J : fx_J fx_S, (∀ r ∈ tt_Ac_forgetStored κ post, fx_Snd J r.1 r.2) → (∀ pc k ls st S, J pc (ls.take k) st S → J pc ls st S) → J 0 av [] S) : MC_Ac_forgetStored κ av S post := by
  refine fx_Met_of (cc := c_Ac_forgetStored) (nL := 1) (ret := none) (by decide) rfl hq hlen ?_
  intro p e s m args below meth c hC hr hnw
  refine body _ ?_ fx_W_take
  have hF := hC.1
  have hts := hC.1.2.2.2.2
  have hm : ∀ {w : Cond}, w ∈ TB → w.before args s = true := fun h => hts _ (List.mem_cons_of_mem _ h)
  refine List.forall_mem_cons.mpr ⟨fs_loada_n hF d_Ac_forgetStored_0 rfl, ?_⟩
  refine List.forall_mem_cons.mpr ⟨fs_const hF d_Ac_forgetStored_1 (by decide), ?_⟩
  refine List.forall_mem_cons.mpr ⟨fs_put hC (cN := 5) (j := 6) (ci := 5) (C := R_Ac) (T := T_Ac) (N := 7) rfl rfl rfl (by decide) ty_Ac tk_Ac nm_Ac rfl (by decide +kernel) (fun w h => List.mem_cons_of_mem _ (in_Ac w h)) (hm wd_153) d_Ac_forgetStored_2, ?_⟩
  refine List.forall_mem_cons.mpr ⟨fs_vret hC hr d_Ac_forgetStored_5, ?_⟩
  exact fun _ h => absurd h List.not_mem_nil
abbrev rm_Ac_grow : Room := { frames := 1, cells := 0, slots := 0, locals := 21 }
def ws_Ac_grow : List Cond := .code y_Ac_grow c_Ac_grow 3 none :: TB
abbrev MC_Ac_grow (κ : fx_K) : List fx_V → fx_S → (Int32 → fx_S → Prop) → Prop := fx_Met κ.1 κ.2.1 vwCl κ.2.2.1 κ.2.2.2 lyX nwl y_Ac_grow ws_Ac_grow rm_Ac_grow false
def tt_Ac_grow (κ : fx_K) (post : Int32 → fx_S → Prop) : List (Nat × fx_M fx_S) := [(0, fm_const 0 1),
  (1, fm_store 2 2),
  (2, fm_load 2 3),
  (3, fm_loada 0 4),
  (4, fm_get 5 5 7),
  (7, fm_cmpge 37 10),
  (10, fm_load 2 11),
  (11, fm_loada 0 12),
  (12, fm_get 5 6 15),
  (15, fm_calls true 2 (MC_Fc_isIn κ) 18),
  (18, fm_ifeq 31 21),
  (21, fm_loada 0 22),
  (22, fm_getr 5 25 25),
  (25, fm_load 2 26),
  (26, fm_dup2 27),
  (27, fm_ald lnXI 28),
  (28, fm_load 1 29),
  (29, fm_iadd 30),
  (30, fm_ast lnXI 31),
  (31, fm_inc 2 1 34),
  (34, fm_goto 2),
  (37, fm_vret post)]
set_option maxHeartbeats 4000000 in
set_option maxRecDepth 100000 in
theorem mo_Ac_grow {κ : fx_K} (hq : fx_I κ lyX.length) {av : List fx_V} {S : fx_S} {post : Int32 → fx_S → Prop} (hlen : av.length ≤ 3) (body : ∀ J : fx_J fx_S, (∀ r ∈ tt_Ac_grow κ post, fx_Snd J r.1 r.2) → (∀ pc k ls st S, J pc (ls.take k) st S → J pc ls st S) → J 0 av [] S) : MC_Ac_grow κ av S post := by
  refine fx_Met_of (cc := c_Ac_grow) (nL := 3) (ret := none) (by decide) rfl hq hlen ?_
  intro p e s m args below meth c hC hr hnw
  refine body _ ?_ fx_W_take
  have hF := hC.1
  have hts := hC.1.2.2.2.2
  have hm : ∀ {w : Cond}, w ∈ TB → w.before args s = true := fun h => hts _ (List.mem_cons_of_mem _ h)
  have g27 : ∀ (Q : State → Prop) (pc : Nat), decode c_Ac_grow pc = .ok (.getfield 27, 3) → fx_Snd (fx_W p κ.1 e rm_Ac_grow s m args below meth c Q (fx_A κ.2.2.2 lyX.length) 0 0 (fx_P κ.2.1 vwCl κ.2.2.1 κ.2.2.2 lyX) κ.2.2.2 3) pc (fm_get 5 5 (pc + 3)) := fun Q pc hd => fs_get hC (cN := 5) (j := 5) (ci := 5) (C := R_Ac) (T := T_Ac) (N := 7) rfl rfl rfl (by decide) (fun w h => List.mem_cons_of_mem _ (in_Ac w h)) (hm wd_151) hd
  have g31 : ∀ (Q : State → Prop) (pc : Nat), decode c_Ac_grow pc = .ok (.getfield 31, 3) → fx_Snd (fx_W p κ.1 e rm_Ac_grow s m args below meth c Q (fx_A κ.2.2.2 lyX.length) 0 0 (fx_P κ.2.1 vwCl κ.2.2.1 κ.2.2.2 lyX) κ.2.2.2 3) pc (fm_get 5 6 (pc + 3)) := fun Q pc hd => fs_get hC (cN := 5) (j := 6) (ci := 5) (C := R_Ac) (T := T_Ac) (N := 7) rfl rfl rfl (by decide) (fun w h => List.mem_cons_of_mem _ (in_Ac w h)) (hm wd_153) hd
  have g24 : ∀ (Q : State → Prop) (pc : Nat), decode c_Ac_grow pc = .ok (.getfield 24, 3) → fx_Snd (fx_W p κ.1 e rm_Ac_grow s m args below meth c Q (fx_A κ.2.2.2 lyX.length) 0 0 (fx_P κ.2.1 vwCl κ.2.2.1 κ.2.2.2 lyX) κ.2.2.2 3) pc (fm_getr 5 25 (pc + 3)) := fun Q pc hd => fs_getr hC (cN := 5) (j := 4) (ci := 5) (C := R_Ac) (T := T_Ac) (N := 7) rfl rfl rfl (by decide) (fun w h => List.mem_cons_of_mem _ (in_Ac w h)) (hm wd_150) hd
  refine List.forall_mem_cons.mpr ⟨fs_const hF d_Ac_grow_0 (by decide), ?_⟩
  refine List.forall_mem_cons.mpr ⟨fs_store_n hF d_Ac_grow_1 rfl (by decide), ?_⟩
  refine List.forall_mem_cons.mpr ⟨fs_load_n hF d_Ac_grow_2 rfl, ?_⟩
  refine List.forall_mem_cons.mpr ⟨fs_loada_n hF d_Ac_grow_3 rfl, ?_⟩
  refine List.forall_mem_cons.mpr ⟨g27 _ 4 d_Ac_grow_4, ?_⟩
  refine List.forall_mem_cons.mpr ⟨fs_cmpge hF d_Ac_grow_7 (by decide), ?_⟩
  refine List.forall_mem_cons.mpr ⟨fs_load_n hF d_Ac_grow_10 rfl, ?_⟩
  refine List.forall_mem_cons.mpr ⟨fs_loada_n hF d_Ac_grow_11 rfl, ?_⟩
  refine List.forall_mem_cons.mpr ⟨g31 _ 12 d_Ac_grow_12, ?_⟩
  refine List.forall_mem_cons.mpr ⟨fs_callSN hC nwl_ok hnw ⟨va_cnB 2 hts (tb_good wd_369) rfl rfl rfl (hnw _ (List.mem_of_getElem? (i := 30) rfl)) (hm wd_32) pd_Fc_isIn ⟨Nat.le_of_ble_eq_true rfl, Nat.le_of_ble_eq_true rfl⟩, hm wd_368⟩ d_Ac_grow_15, ?_⟩
  refine List.forall_mem_cons.mpr ⟨fs_ifeq hF d_Ac_grow_18 (by decide), ?_⟩
  refine List.forall_mem_cons.mpr ⟨fs_loada_n hF d_Ac_grow_21 rfl, ?_⟩
  refine List.forall_mem_cons.mpr ⟨g24 _ 22 d_Ac_grow_22, ?_⟩
  refine List.forall_mem_cons.mpr ⟨fs_load_n hF d_Ac_grow_25 rfl, ?_⟩
  refine List.forall_mem_cons.mpr ⟨fs_dup2 hF d_Ac_grow_26, ?_⟩
  refine List.forall_mem_cons.mpr ⟨fs_ald hC lkXI d_Ac_grow_27, ?_⟩
  refine List.forall_mem_cons.mpr ⟨fs_load_n hF d_Ac_grow_28 rfl, ?_⟩
  refine List.forall_mem_cons.mpr ⟨fs_iadd hF d_Ac_grow_29, ?_⟩
  refine List.forall_mem_cons.mpr ⟨fs_ast hC lkXI d_Ac_grow_30, ?_⟩
  refine List.forall_mem_cons.mpr ⟨fs_inc hF d_Ac_grow_31 (by decide) (by decide), ?_⟩
  refine List.forall_mem_cons.mpr ⟨fs_goto hF d_Ac_grow_34 (by decide), ?_⟩
  refine List.forall_mem_cons.mpr ⟨fs_vret hC hr d_Ac_grow_37, ?_⟩
  exact fun _ h => absurd h List.not_mem_nil
abbrev rm_Ac_resetVariables : Room := { frames := 1, cells := 0, slots := 0, locals := 21 }
def ws_Ac_resetVariables : List Cond := .code y_Ac_resetVariables c_Ac_resetVariables 4 (some .int) :: TB
abbrev MC_Ac_resetVariables (κ : fx_K) : List fx_V → fx_S → (Int32 → fx_S → Prop) → Prop := fx_Met κ.1 κ.2.1 vwCl κ.2.2.1 κ.2.2.2 lyX nwl y_Ac_resetVariables ws_Ac_resetVariables rm_Ac_resetVariables true
def tt_Ac_resetVariables (κ : fx_K) (post : Int32 → fx_S → Prop) : List (Nat × fx_M fx_S) := [(0, fm_const 0 1),
  (1, fm_store 2 2),
  (2, fm_const 0 3),
  (3, fm_store 3 4),
  (4, fm_load 3 5),
  (5, fm_loada 0 6),
  (6, fm_get 5 5 9),
  (9, fm_cmpge 52 12),
  (12, fm_loada 0 13),
  (13, fm_getr 5 22 16),
  (16, fm_load 3 17),
  (17, fm_ald lnXI 18),
  (18, fm_const 1 19),
  (19, fm_cmpne 46 22),
  (22, fm_loada 0 23),
  (23, fm_getr 5 21 26),
  (26, fm_load 3 27),
  (27, fm_ald lnXI 28),
  (28, fm_load 1 29),
  (29, fm_calls true 2 (MC_Fc_isIn κ) 32),
  (32, fm_ifeq 46 35),
  (35, fm_load 2 36),
  (36, fm_const 1 37),
  (37, fm_loada 0 38),
  (38, fm_getr 5 23 41),
  (41, fm_load 3 42),
  (42, fm_ald lnXI 43),
  (43, fm_ishl 44),
  (44, fm_ior 45),
  (45, fm_store 2 46),
  (46, fm_inc 3 1 49),
  (49, fm_goto 4),
  (52, fm_load 2 53),
  (53, fm_ret post)]
set_option maxHeartbeats 4000000 in
set_option maxRecDepth 100000 in
theorem mo_Ac_resetVariables {κ : fx_K} (hq : fx_I κ lyX.length) {av : List fx_V} {S : fx_S} {post : Int32 → fx_S → Prop} (hlen : av.length ≤ 4) (body : ∀ J : fx_J fx_S, (∀ r ∈ tt_Ac_resetVariables κ post, fx_Snd J r.1 r.2) → (∀ pc k ls st S, J pc (ls.take k) st S → J pc ls st S) → J 0 av [] S) : MC_Ac_resetVariables κ av S post := by
  refine fx_Met_of (cc := c_Ac_resetVariables) (nL := 4) (ret := (some .int)) (by decide) rfl hq hlen ?_
  intro p e s m args below meth c hC hr hnw
  refine body _ ?_ fx_W_take
  have hF := hC.1
  have hts := hC.1.2.2.2.2
  have hm : ∀ {w : Cond}, w ∈ TB → w.before args s = true := fun h => hts _ (List.mem_cons_of_mem _ h)
  have g27 : ∀ (Q : State → Prop) (pc : Nat), decode c_Ac_resetVariables pc = .ok (.getfield 27, 3) → fx_Snd (fx_W p κ.1 e rm_Ac_resetVariables s m args below meth c Q (fx_A κ.2.2.2 lyX.length) 0 0 (fx_P κ.2.1 vwCl κ.2.2.1 κ.2.2.2 lyX) κ.2.2.2 4) pc (fm_get 5 5 (pc + 3)) := fun Q pc hd => fs_get hC (cN := 5) (j := 5) (ci := 5) (C := R_Ac) (T := T_Ac) (N := 7) rfl rfl rfl (by decide) (fun w h => List.mem_cons_of_mem _ (in_Ac w h)) (hm wd_151) hd
  have g15 : ∀ (Q : State → Prop) (pc : Nat), decode c_Ac_resetVariables pc = .ok (.getfield 15, 3) → fx_Snd (fx_W p κ.1 e rm_Ac_resetVariables s m args below meth c Q (fx_A κ.2.2.2 lyX.length) 0 0 (fx_P κ.2.1 vwCl κ.2.2.1 κ.2.2.2 lyX) κ.2.2.2 4) pc (fm_getr 5 22 (pc + 3)) := fun Q pc hd => fs_getr hC (cN := 5) (j := 1) (ci := 5) (C := R_Ac) (T := T_Ac) (N := 7) rfl rfl rfl (by decide) (fun w h => List.mem_cons_of_mem _ (in_Ac w h)) (hm wd_147) hd
  have g9 : ∀ (Q : State → Prop) (pc : Nat), decode c_Ac_resetVariables pc = .ok (.getfield 9, 3) → fx_Snd (fx_W p κ.1 e rm_Ac_resetVariables s m args below meth c Q (fx_A κ.2.2.2 lyX.length) 0 0 (fx_P κ.2.1 vwCl κ.2.2.1 κ.2.2.2 lyX) κ.2.2.2 4) pc (fm_getr 5 21 (pc + 3)) := fun Q pc hd => fs_getr hC (cN := 5) (j := 0) (ci := 5) (C := R_Ac) (T := T_Ac) (N := 7) rfl rfl rfl (by decide) (fun w h => List.mem_cons_of_mem _ (in_Ac w h)) (hm wd_146) hd
  have g18 : ∀ (Q : State → Prop) (pc : Nat), decode c_Ac_resetVariables pc = .ok (.getfield 18, 3) → fx_Snd (fx_W p κ.1 e rm_Ac_resetVariables s m args below meth c Q (fx_A κ.2.2.2 lyX.length) 0 0 (fx_P κ.2.1 vwCl κ.2.2.1 κ.2.2.2 lyX) κ.2.2.2 4) pc (fm_getr 5 23 (pc + 3)) := fun Q pc hd => fs_getr hC (cN := 5) (j := 2) (ci := 5) (C := R_Ac) (T := T_Ac) (N := 7) rfl rfl rfl (by decide) (fun w h => List.mem_cons_of_mem _ (in_Ac w h)) (hm wd_148) hd
  refine List.forall_mem_cons.mpr ⟨fs_const hF d_Ac_resetVariables_0 (by decide), ?_⟩
  refine List.forall_mem_cons.mpr ⟨fs_store_n hF d_Ac_resetVariables_1 rfl (by decide), ?_⟩
  refine List.forall_mem_cons.mpr ⟨fs_const hF d_Ac_resetVariables_2 (by decide), ?_⟩
  refine List.forall_mem_cons.mpr ⟨fs_store_n hF d_Ac_resetVariables_3 rfl (by decide), ?_⟩
  refine List.forall_mem_cons.mpr ⟨fs_load_n hF d_Ac_resetVariables_4 rfl, ?_⟩
  refine List.forall_mem_cons.mpr ⟨fs_loada_n hF d_Ac_resetVariables_5 rfl, ?_⟩
  refine List.forall_mem_cons.mpr ⟨g27 _ 6 d_Ac_resetVariables_6, ?_⟩
  refine List.forall_mem_cons.mpr ⟨fs_cmpge hF d_Ac_resetVariables_9 (by decide), ?_⟩
  refine List.forall_mem_cons.mpr ⟨fs_loada_n hF d_Ac_resetVariables_12 rfl, ?_⟩
  refine List.forall_mem_cons.mpr ⟨g15 _ 13 d_Ac_resetVariables_13, ?_⟩
  refine List.forall_mem_cons.mpr ⟨fs_load_n hF d_Ac_resetVariables_16 rfl, ?_⟩
  refine List.forall_mem_cons.mpr ⟨fs_ald hC lkXI d_Ac_resetVariables_17, ?_⟩
  refine List.forall_mem_cons.mpr ⟨fs_const hF d_Ac_resetVariables_18 (by decide), ?_⟩
  refine List.forall_mem_cons.mpr ⟨fs_cmpne hF d_Ac_resetVariables_19 (by decide), ?_⟩
  refine List.forall_mem_cons.mpr ⟨fs_loada_n hF d_Ac_resetVariables_22 rfl, ?_⟩
  refine List.forall_mem_cons.mpr ⟨g9 _ 23 d_Ac_resetVariables_23, ?_⟩
  refine List.forall_mem_cons.mpr ⟨fs_load_n hF d_Ac_resetVariables_26 rfl, ?_⟩
  refine List.forall_mem_cons.mpr ⟨fs_ald hC lkXI d_Ac_resetVariables_27, ?_⟩
  refine List.forall_mem_cons.mpr ⟨fs_load_n hF d_Ac_resetVariables_28 rfl, ?_⟩
  refine List.forall_mem_cons.mpr ⟨fs_callSN hC nwl_ok hnw ⟨va_cnB 2 hts (tb_good wd_369) rfl rfl rfl (hnw _ (List.mem_of_getElem? (i := 30) rfl)) (hm wd_32) pd_Fc_isIn ⟨Nat.le_of_ble_eq_true rfl, Nat.le_of_ble_eq_true rfl⟩, hm wd_368⟩ d_Ac_resetVariables_29, ?_⟩
  refine List.forall_mem_cons.mpr ⟨fs_ifeq hF d_Ac_resetVariables_32 (by decide), ?_⟩
  refine List.forall_mem_cons.mpr ⟨fs_load_n hF d_Ac_resetVariables_35 rfl, ?_⟩
  refine List.forall_mem_cons.mpr ⟨fs_const hF d_Ac_resetVariables_36 (by decide), ?_⟩
  refine List.forall_mem_cons.mpr ⟨fs_loada_n hF d_Ac_resetVariables_37 rfl, ?_⟩
  refine List.forall_mem_cons.mpr ⟨g18 _ 38 d_Ac_resetVariables_38, ?_⟩
  refine List.forall_mem_cons.mpr ⟨fs_load_n hF d_Ac_resetVariables_41 rfl, ?_⟩
  refine List.forall_mem_cons.mpr ⟨fs_ald hC lkXI d_Ac_resetVariables_42, ?_⟩
  refine List.forall_mem_cons.mpr ⟨fs_ishl hF d_Ac_resetVariables_43, ?_⟩
  refine List.forall_mem_cons.mpr ⟨fs_ior hF d_Ac_resetVariables_44, ?_⟩
  refine List.forall_mem_cons.mpr ⟨fs_store_n hF d_Ac_resetVariables_45 rfl (by decide), ?_⟩
  refine List.forall_mem_cons.mpr ⟨fs_inc hF d_Ac_resetVariables_46 (by decide) (by decide), ?_⟩
  refine List.forall_mem_cons.mpr ⟨fs_goto hF d_Ac_resetVariables_49 (by decide), ?_⟩
  refine List.forall_mem_cons.mpr ⟨fs_load_n hF d_Ac_resetVariables_52 rfl, ?_⟩
  refine List.forall_mem_cons.mpr ⟨fs_ret hC hr d_Ac_resetVariables_53, ?_⟩
  exact fun _ h => absurd h List.not_mem_nil
abbrev rm_Ac_storesAt : Room := { frames := 0, cells := 0, slots := 0, locals := 0 }
def ws_Ac_storesAt : List Cond := .code y_Ac_storesAt c_Ac_storesAt 3 (some .boolean) :: TB
abbrev MC_Ac_storesAt (κ : fx_K) : List fx_V → fx_S → (Int32 → fx_S → Prop) → Prop := fx_Met κ.1 κ.2.1 vwCl κ.2.2.1 κ.2.2.2 lyX nwl y_Ac_storesAt ws_Ac_storesAt rm_Ac_storesAt true
def tt_Ac_storesAt (κ : fx_K) (post : Int32 → fx_S → Prop) : List (Nat × fx_M fx_S) := [(0, fm_loada 0 1),
  (1, fm_getr 5 22 4),
  (4, fm_load 1 5),
  (5, fm_ald lnXI 6),
  (6, fm_sw [(2, 52), (7, 52), (8, 54), (9, 52)] 70),
  (52, fm_const 1 53),
  (53, fm_zret post),
  (54, fm_load 2 55),
  (55, fm_loada 0 56),
  (56, fm_getr 5 24 59),
  (59, fm_load 1 60),
  (60, fm_ald lnXI 61),
  (61, fm_cmplt 68 64),
  (64, fm_const 1 65),
  (65, fm_goto 69),
  (68, fm_const 0 69),
  (69, fm_zret post),
  (70, fm_const 0 71),
  (71, fm_zret post)]
set_option maxHeartbeats 4000000 in
set_option maxRecDepth 100000 in
theorem mo_Ac_storesAt {κ : fx_K} (hq : fx_I κ lyX.length) {av : List fx_V} {S : fx_S} {post : Int32 → fx_S → Prop} (hlen : av.length ≤ 3) (body : ∀ J : fx_J fx_S, (∀ r ∈ tt_Ac_storesAt κ post, fx_Snd J r.1 r.2) → (∀ pc k ls st S, J pc (ls.take k) st S → J pc ls st S) → J 0 av [] S) : MC_Ac_storesAt κ av S post := by
  refine fx_Met_of (cc := c_Ac_storesAt) (nL := 3) (ret := (some .boolean)) (by decide) rfl hq hlen ?_
  intro p e s m args below meth c hC hr hnw
  refine body _ ?_ fx_W_take
  have hF := hC.1
  have hts := hC.1.2.2.2.2
  have hm : ∀ {w : Cond}, w ∈ TB → w.before args s = true := fun h => hts _ (List.mem_cons_of_mem _ h)
  have g15 : ∀ (Q : State → Prop) (pc : Nat), decode c_Ac_storesAt pc = .ok (.getfield 15, 3) → fx_Snd (fx_W p κ.1 e rm_Ac_storesAt s m args below meth c Q (fx_A κ.2.2.2 lyX.length) 0 0 (fx_P κ.2.1 vwCl κ.2.2.1 κ.2.2.2 lyX) κ.2.2.2 3) pc (fm_getr 5 22 (pc + 3)) := fun Q pc hd => fs_getr hC (cN := 5) (j := 1) (ci := 5) (C := R_Ac) (T := T_Ac) (N := 7) rfl rfl rfl (by decide) (fun w h => List.mem_cons_of_mem _ (in_Ac w h)) (hm wd_147) hd
  have g21 : ∀ (Q : State → Prop) (pc : Nat), decode c_Ac_storesAt pc = .ok (.getfield 21, 3) → fx_Snd (fx_W p κ.1 e rm_Ac_storesAt s m args below meth c Q (fx_A κ.2.2.2 lyX.length) 0 0 (fx_P κ.2.1 vwCl κ.2.2.1 κ.2.2.2 lyX) κ.2.2.2 3) pc (fm_getr 5 24 (pc + 3)) := fun Q pc hd => fs_getr hC (cN := 5) (j := 3) (ci := 5) (C := R_Ac) (T := T_Ac) (N := 7) rfl rfl rfl (by decide) (fun w h => List.mem_cons_of_mem _ (in_Ac w h)) (hm wd_149) hd
  refine List.forall_mem_cons.mpr ⟨fs_loada_n hF d_Ac_storesAt_0 rfl, ?_⟩
  refine List.forall_mem_cons.mpr ⟨g15 _ 1 d_Ac_storesAt_1, ?_⟩
  refine List.forall_mem_cons.mpr ⟨fs_load_n hF d_Ac_storesAt_4 rfl, ?_⟩
  refine List.forall_mem_cons.mpr ⟨fs_ald hC lkXI d_Ac_storesAt_5, ?_⟩
  refine List.forall_mem_cons.mpr ⟨fs_table hC 8 d_Ac_storesAt_6 (by decide) (by decide +kernel) (by decide +kernel) (by decide), ?_⟩
  refine List.forall_mem_cons.mpr ⟨fs_const hF d_Ac_storesAt_52 (by decide), ?_⟩
  refine List.forall_mem_cons.mpr ⟨fs_zret hC hr d_Ac_storesAt_53, ?_⟩
  refine List.forall_mem_cons.mpr ⟨fs_load_n hF d_Ac_storesAt_54 rfl, ?_⟩
  refine List.forall_mem_cons.mpr ⟨fs_loada_n hF d_Ac_storesAt_55 rfl, ?_⟩
  refine List.forall_mem_cons.mpr ⟨g21 _ 56 d_Ac_storesAt_56, ?_⟩
  refine List.forall_mem_cons.mpr ⟨fs_load_n hF d_Ac_storesAt_59 rfl, ?_⟩
  refine List.forall_mem_cons.mpr ⟨fs_ald hC lkXI d_Ac_storesAt_60, ?_⟩
  refine List.forall_mem_cons.mpr ⟨fs_cmplt hF d_Ac_storesAt_61 (by decide), ?_⟩
  refine List.forall_mem_cons.mpr ⟨fs_const hF d_Ac_storesAt_64 (by decide), ?_⟩
  refine List.forall_mem_cons.mpr ⟨fs_goto hF d_Ac_storesAt_65 (by decide), ?_⟩
  refine List.forall_mem_cons.mpr ⟨fs_const hF d_Ac_storesAt_68 (by decide), ?_⟩
  refine List.forall_mem_cons.mpr ⟨fs_zret hC hr d_Ac_storesAt_69, ?_⟩
  refine List.forall_mem_cons.mpr ⟨fs_const hF d_Ac_storesAt_70 (by decide), ?_⟩
  refine List.forall_mem_cons.mpr ⟨fs_zret hC hr d_Ac_storesAt_71, ?_⟩
  exact fun _ h => absurd h List.not_mem_nil
abbrev rm_Ac_store : Room := { frames := 1, cells := 0, slots := 0, locals := 22 }
def ws_Ac_store : List Cond := .code y_Ac_store c_Ac_store 5 none :: TB
abbrev MC_Ac_store (κ : fx_K) : List fx_V → fx_S → (Int32 → fx_S → Prop) → Prop := fx_Met κ.1 κ.2.1 vwCl κ.2.2.1 κ.2.2.2 lyX nwl y_Ac_store ws_Ac_store rm_Ac_store false
def tt_Ac_store (κ : fx_K) (post : Int32 → fx_S → Prop) : List (Nat × fx_M fx_S) := [(0, fm_load 2 1),
  (1, fm_ifeq 21 4),
  (4, fm_loada 0 5),
  (5, fm_dup 6),
  (6, fm_get 5 6 9),
  (9, fm_const 1 10),
  (10, fm_load 1 11),
  (11, fm_ishl 12),
  (12, fm_const (-1) 13),
  (13, fm_ixor 14),
  (14, fm_iand 15),
  (15, fm_put 5 6 18),
  (18, fm_goto 65),
  (21, fm_load 3 22),
  (22, fm_ifeq 65 25),
  (25, fm_load 1 26),
  (26, fm_loada 0 27),
  (27, fm_get 5 6 30),
  (30, fm_calls true 2 (MC_Fc_isIn κ) 33),
  (33, fm_ifne 65 36),
  (36, fm_loada 0 37),
  (37, fm_load 1 38),
  (38, fm_load 4 40),
  (40, fm_call true 5 2 (MC_Ac_storesAt κ) 43),
  (43, fm_ifeq 65 46),
  (46, fm_loada 0 47),
  (47, fm_dup 48),
  (48, fm_get 5 6 51),
  (51, fm_const 1 52),
  (52, fm_load 1 53),
  (53, fm_ishl 54),
  (54, fm_ior 55),
  (55, fm_put 5 6 58),
  (58, fm_loada 0 59),
  (59, fm_getr 5 25 62),
  (62, fm_load 1 63),
  (63, fm_const 0 64),
  (64, fm_ast lnXI 65),
  (65, fm_vret post)]
set_option maxHeartbeats 4000000 in
set_option maxRecDepth 100000 in
theorem mo_Ac_store {κ : fx_K} (hq : fx_I κ lyX.length) {av : List fx_V} {S : fx_S} {post : Int32 → fx_S → Prop} (hlen : av.length ≤ 5) (body : ∀ J : fx_J fx_S, (∀ r ∈ tt_Ac_store κ post, fx_Snd J r.1 r.2) → (∀ pc k ls st S, J pc (ls.take k) st S → J pc ls st S) → J 0 av [] S) : MC_Ac_store κ av S post := by
  refine fx_Met_of (cc := c_Ac_store) (nL := 5) (ret := none) (by decide) rfl hq hlen ?_
  intro p e s m args below meth c hC hr hnw
  refine body _ ?_ fx_W_take
  have hF := hC.1
  have hts := hC.1.2.2.2.2
  have hm : ∀ {w : Cond}, w ∈ TB → w.before args s = true := fun h => hts _ (List.mem_cons_of_mem _ h)
  have g31 : ∀ (Q : State → Prop) (pc : Nat), decode c_Ac_store pc = .ok (.getfield 31, 3) → fx_Snd (fx_W p κ.1 e rm_Ac_store s m args below meth c Q (fx_A κ.2.2.2 lyX.length) 0 0 (fx_P κ.2.1 vwCl κ.2.2.1 κ.2.2.2 lyX) κ.2.2.2 5) pc (fm_get 5 6 (pc + 3)) := fun Q pc hd => fs_get hC (cN := 5) (j := 6) (ci := 5) (C := R_Ac) (T := T_Ac) (N := 7) rfl rfl rfl (by decide) (fun w h => List.mem_cons_of_mem _ (in_Ac w h)) (hm wd_153) hd
  have g24 : ∀ (Q : State → Prop) (pc : Nat), decode c_Ac_store pc = .ok (.getfield 24, 3) → fx_Snd (fx_W p κ.1 e rm_Ac_store s m args below meth c Q (fx_A κ.2.2.2 lyX.length) 0 0 (fx_P κ.2.1 vwCl κ.2.2.1 κ.2.2.2 lyX) κ.2.2.2 5) pc (fm_getr 5 25 (pc + 3)) := fun Q pc hd => fs_getr hC (cN := 5) (j := 4) (ci := 5) (C := R_Ac) (T := T_Ac) (N := 7) rfl rfl rfl (by decide) (fun w h => List.mem_cons_of_mem _ (in_Ac w h)) (hm wd_150) hd
  refine List.forall_mem_cons.mpr ⟨fs_load_n hF d_Ac_store_0 rfl, ?_⟩
  refine List.forall_mem_cons.mpr ⟨fs_ifeq hF d_Ac_store_1 (by decide), ?_⟩
  refine List.forall_mem_cons.mpr ⟨fs_loada_n hF d_Ac_store_4 rfl, ?_⟩
  refine List.forall_mem_cons.mpr ⟨fs_dup hF d_Ac_store_5, ?_⟩
  refine List.forall_mem_cons.mpr ⟨g31 _ 6 d_Ac_store_6, ?_⟩
  refine List.forall_mem_cons.mpr ⟨fs_const hF d_Ac_store_9 (by decide), ?_⟩
  refine List.forall_mem_cons.mpr ⟨fs_load_n hF d_Ac_store_10 rfl, ?_⟩
  refine List.forall_mem_cons.mpr ⟨fs_ishl hF d_Ac_store_11, ?_⟩
  refine List.forall_mem_cons.mpr ⟨fs_const hF d_Ac_store_12 (by decide), ?_⟩
  refine List.forall_mem_cons.mpr ⟨fs_ixor hF d_Ac_store_13, ?_⟩
  refine List.forall_mem_cons.mpr ⟨fs_iand hF d_Ac_store_14, ?_⟩
  refine List.forall_mem_cons.mpr ⟨fs_put hC (cN := 5) (j := 6) (ci := 5) (C := R_Ac) (T := T_Ac) (N := 7) rfl rfl rfl (by decide) ty_Ac tk_Ac nm_Ac rfl (by decide +kernel) (fun w h => List.mem_cons_of_mem _ (in_Ac w h)) (hm wd_153) d_Ac_store_15, ?_⟩
  refine List.forall_mem_cons.mpr ⟨fs_goto hF d_Ac_store_18 (by decide), ?_⟩
  refine List.forall_mem_cons.mpr ⟨fs_load_n hF d_Ac_store_21 rfl, ?_⟩
  refine List.forall_mem_cons.mpr ⟨fs_ifeq hF d_Ac_store_22 (by decide), ?_⟩
  refine List.forall_mem_cons.mpr ⟨fs_load_n hF d_Ac_store_25 rfl, ?_⟩
  refine List.forall_mem_cons.mpr ⟨fs_loada_n hF d_Ac_store_26 rfl, ?_⟩
  refine List.forall_mem_cons.mpr ⟨g31 _ 27 d_Ac_store_27, ?_⟩
  refine List.forall_mem_cons.mpr ⟨fs_callSN hC nwl_ok hnw ⟨va_cnB 2 hts (tb_good wd_369) rfl rfl rfl (hnw _ (List.mem_of_getElem? (i := 30) rfl)) (hm wd_32) pd_Fc_isIn ⟨Nat.le_of_ble_eq_true rfl, Nat.le_of_ble_eq_true rfl⟩, hm wd_368⟩ d_Ac_store_30, ?_⟩
  refine List.forall_mem_cons.mpr ⟨fs_ifne hF d_Ac_store_33 (by decide), ?_⟩
  refine List.forall_mem_cons.mpr ⟨fs_loada_n hF d_Ac_store_36 rfl, ?_⟩
  refine List.forall_mem_cons.mpr ⟨fs_load_n hF d_Ac_store_37 rfl, ?_⟩
  refine List.forall_mem_cons.mpr ⟨fs_load hF d_Ac_store_38, ?_⟩
  refine List.forall_mem_cons.mpr ⟨fs_callV hC nwl_ok hnw (cN := 5) (ci := 5) (C := R_Ac) rfl rfl ⟨callB_of 2 hts (tb_good wd_488) rfl rfl rfl (hm wd_37) (hm wd_485) pd_Ac_storesAt ⟨Nat.le_of_ble_eq_true rfl, Nat.le_of_ble_eq_true rfl⟩, hm wd_487, hm wd_10⟩ d_Ac_store_40, ?_⟩
  refine List.forall_mem_cons.mpr ⟨fs_ifeq hF d_Ac_store_43 (by decide), ?_⟩
  refine List.forall_mem_cons.mpr ⟨fs_loada_n hF d_Ac_store_46 rfl, ?_⟩
  refine List.forall_mem_cons.mpr ⟨fs_dup hF d_Ac_store_47, ?_⟩
  refine List.forall_mem_cons.mpr ⟨g31 _ 48 d_Ac_store_48, ?_⟩
  refine List.forall_mem_cons.mpr ⟨fs_const hF d_Ac_store_51 (by decide), ?_⟩
  refine List.forall_mem_cons.mpr ⟨fs_load_n hF d_Ac_store_52 rfl, ?_⟩
  refine List.forall_mem_cons.mpr ⟨fs_ishl hF d_Ac_store_53, ?_⟩
  refine List.forall_mem_cons.mpr ⟨fs_ior hF d_Ac_store_54, ?_⟩
  refine List.forall_mem_cons.mpr ⟨fs_put hC (cN := 5) (j := 6) (ci := 5) (C := R_Ac) (T := T_Ac) (N := 7) rfl rfl rfl (by decide) ty_Ac tk_Ac nm_Ac rfl (by decide +kernel) (fun w h => List.mem_cons_of_mem _ (in_Ac w h)) (hm wd_153) d_Ac_store_55, ?_⟩
  refine List.forall_mem_cons.mpr ⟨fs_loada_n hF d_Ac_store_58 rfl, ?_⟩
  refine List.forall_mem_cons.mpr ⟨g24 _ 59 d_Ac_store_59, ?_⟩
  refine List.forall_mem_cons.mpr ⟨fs_load_n hF d_Ac_store_62 rfl, ?_⟩
  refine List.forall_mem_cons.mpr ⟨fs_const hF d_Ac_store_63 (by decide), ?_⟩
  refine List.forall_mem_cons.mpr ⟨fs_ast hC lkXI d_Ac_store_64, ?_⟩
  refine List.forall_mem_cons.mpr ⟨fs_vret hC hr d_Ac_store_65, ?_⟩
  exact fun _ h => absurd h List.not_mem_nil
abbrev rm_Ac_isOn : Room := { frames := 1, cells := 0, slots := 0, locals := 21 }
def ws_Ac_isOn : List Cond := .code y_Ac_isOn c_Ac_isOn 7 (some .boolean) :: TB
abbrev MC_Ac_isOn (κ : fx_K) : List fx_V → fx_S → (Int32 → fx_S → Prop) → Prop := fx_Met κ.1 κ.2.1 vwCl κ.2.2.1 κ.2.2.2 lyX nwl y_Ac_isOn ws_Ac_isOn rm_Ac_isOn true
def tt_Ac_isOn (κ : fx_K) (post : Int32 → fx_S → Prop) : List (Nat × fx_M fx_S) := [(0, fm_load 1 1),
  (1, fm_loada 0 2),
  (2, fm_get 5 6 5),
  (5, fm_calls true 2 (MC_Fc_isIn κ) 8),
  (8, fm_store 5 10),
  (10, fm_loada 0 11),
  (11, fm_getr 5 24 14),
  (14, fm_load 1 15),
  (15, fm_ald lnXI 16),
  (16, fm_store 6 18),
  (18, fm_loada 0 19),
  (19, fm_getr 5 22 22),
  (22, fm_load 1 23),
  (23, fm_ald lnXI 24),
  (24, fm_sw [(0, 80), (2, 82), (3, 85), (4, 102), (5, 119), (6, 133), (7, 147), (8, 82), (9, 169)] 191),
  (80, fm_load 2 81),
  (81, fm_zret post),
  (82, fm_load 5 84),
  (84, fm_zret post),
  (85, fm_load 2 86),
  (86, fm_ifeq 100 89),
  (89, fm_load 4 91),
  (91, fm_load 6 93),
  (93, fm_cmpge 100 96),
  (96, fm_const 1 97),
  (97, fm_goto 101),
  (100, fm_const 0 101),
  (101, fm_zret post),
  (102, fm_load 2 103),
  (103, fm_ifeq 117 106),
  (106, fm_load 4 108),
  (108, fm_load 6 110),
  (110, fm_cmplt 117 113),
  (113, fm_const 1 114),
  (114, fm_goto 118),
  (117, fm_const 0 118),
  (118, fm_zret post),
  (119, fm_load 2 120),
  (120, fm_ifeq 131 123),
  (123, fm_load 3 124),
  (124, fm_ifne 131 127),
  (127, fm_const 1 128),
  (128, fm_goto 132),
  (131, fm_const 0 132),
  (132, fm_zret post),
  (133, fm_load 3 134),
  (134, fm_ifeq 145 137),
  (137, fm_load 2 138),
  (138, fm_ifne 145 141),
  (141, fm_const 1 142),
  (142, fm_goto 146),
  (145, fm_const 0 146),
  (146, fm_zret post),
  (147, fm_load 5 149),
  (149, fm_ifeq 167 152),
  (152, fm_loada 0 153),
  (153, fm_getr 5 25 156),
  (156, fm_load 1 157),
  (157, fm_ald lnXI 158),
  (158, fm_load 6 160),
  (160, fm_cmplt 167 163),
  (163, fm_const 1 164),
  (164, fm_goto 168),
  (167, fm_const 0 168),
  (168, fm_zret post),
  (169, fm_load 5 171),
  (171, fm_ifeq 189 174),
  (174, fm_loada 0 175),
  (175, fm_getr 5 25 178),
  (178, fm_load 1 179),
  (179, fm_ald lnXI 180),
  (180, fm_load 6 182),
  (182, fm_cmpge 189 185),
  (185, fm_const 1 186),
  (186, fm_goto 190),
  (189, fm_const 0 190),
  (190, fm_zret post),
  (191, fm_const 0 192),
  (192, fm_zret post)]
set_option maxHeartbeats 4000000 in
set_option maxRecDepth 100000 in
theorem mo_Ac_isOn {κ : fx_K} (hq : fx_I κ lyX.length) {av : List fx_V} {S : fx_S} {post : Int32 → fx_S → Prop} (hlen : av.length ≤ 7) (body : ∀ J : fx_J fx_S, (∀ r ∈ tt_Ac_isOn κ post, fx_Snd J r.1 r.2) → (∀ pc k ls st S, J pc (ls.take k) st S → J pc ls st S) → J 0 av [] S) : MC_Ac_isOn κ av S post := by
  refine fx_Met_of (cc := c_Ac_isOn) (nL := 7) (ret := (some .boolean)) (by decide) rfl hq hlen ?_
  intro p e s m args below meth c hC hr hnw
  refine body _ ?_ fx_W_take
  have hF := hC.1
  have hts := hC.1.2.2.2.2
  have hm : ∀ {w : Cond}, w ∈ TB → w.before args s = true := fun h => hts _ (List.mem_cons_of_mem _ h)
  have g31 : ∀ (Q : State → Prop) (pc : Nat), decode c_Ac_isOn pc = .ok (.getfield 31, 3) → fx_Snd (fx_W p κ.1 e rm_Ac_isOn s m args below meth c Q (fx_A κ.2.2.2 lyX.length) 0 0 (fx_P κ.2.1 vwCl κ.2.2.1 κ.2.2.2 lyX) κ.2.2.2 7) pc (fm_get 5 6 (pc + 3)) := fun Q pc hd => fs_get hC (cN := 5) (j := 6) (ci := 5) (C := R_Ac) (T := T_Ac) (N := 7) rfl rfl rfl (by decide) (fun w h => List.mem_cons_of_mem _ (in_Ac w h)) (hm wd_153) hd
  have g21 : ∀ (Q : State → Prop) (pc : Nat), decode c_Ac_isOn pc = .ok (.getfield 21, 3) → fx_Snd (fx_W p κ.1 e rm_Ac_isOn s m args below meth c Q (fx_A κ.2.2.2 lyX.length) 0 0 (fx_P κ.2.1 vwCl κ.2.2.1 κ.2.2.2 lyX) κ.2.2.2 7) pc (fm_getr 5 24 (pc + 3)) := fun Q pc hd => fs_getr hC (cN := 5) (j := 3) (ci := 5) (C := R_Ac) (T := T_Ac) (N := 7) rfl rfl rfl (by decide) (fun w h => List.mem_cons_of_mem _ (in_Ac w h)) (hm wd_149) hd
  have g15 : ∀ (Q : State → Prop) (pc : Nat), decode c_Ac_isOn pc = .ok (.getfield 15, 3) → fx_Snd (fx_W p κ.1 e rm_Ac_isOn s m args below meth c Q (fx_A κ.2.2.2 lyX.length) 0 0 (fx_P κ.2.1 vwCl κ.2.2.1 κ.2.2.2 lyX) κ.2.2.2 7) pc (fm_getr 5 22 (pc + 3)) := fun Q pc hd => fs_getr hC (cN := 5) (j := 1) (ci := 5) (C := R_Ac) (T := T_Ac) (N := 7) rfl rfl rfl (by decide) (fun w h => List.mem_cons_of_mem _ (in_Ac w h)) (hm wd_147) hd
  have g24 : ∀ (Q : State → Prop) (pc : Nat), decode c_Ac_isOn pc = .ok (.getfield 24, 3) → fx_Snd (fx_W p κ.1 e rm_Ac_isOn s m args below meth c Q (fx_A κ.2.2.2 lyX.length) 0 0 (fx_P κ.2.1 vwCl κ.2.2.1 κ.2.2.2 lyX) κ.2.2.2 7) pc (fm_getr 5 25 (pc + 3)) := fun Q pc hd => fs_getr hC (cN := 5) (j := 4) (ci := 5) (C := R_Ac) (T := T_Ac) (N := 7) rfl rfl rfl (by decide) (fun w h => List.mem_cons_of_mem _ (in_Ac w h)) (hm wd_150) hd
  refine List.forall_mem_cons.mpr ⟨fs_load_n hF d_Ac_isOn_0 rfl, ?_⟩
  refine List.forall_mem_cons.mpr ⟨fs_loada_n hF d_Ac_isOn_1 rfl, ?_⟩
  refine List.forall_mem_cons.mpr ⟨g31 _ 2 d_Ac_isOn_2, ?_⟩
  refine List.forall_mem_cons.mpr ⟨fs_callSN hC nwl_ok hnw ⟨va_cnB 2 hts (tb_good wd_369) rfl rfl rfl (hnw _ (List.mem_of_getElem? (i := 30) rfl)) (hm wd_32) pd_Fc_isIn ⟨Nat.le_of_ble_eq_true rfl, Nat.le_of_ble_eq_true rfl⟩, hm wd_368⟩ d_Ac_isOn_5, ?_⟩
  refine List.forall_mem_cons.mpr ⟨fs_store hF d_Ac_isOn_8 (by decide), ?_⟩
  refine List.forall_mem_cons.mpr ⟨fs_loada_n hF d_Ac_isOn_10 rfl, ?_⟩
  refine List.forall_mem_cons.mpr ⟨g21 _ 11 d_Ac_isOn_11, ?_⟩
  refine List.forall_mem_cons.mpr ⟨fs_load_n hF d_Ac_isOn_14 rfl, ?_⟩
  refine List.forall_mem_cons.mpr ⟨fs_ald hC lkXI d_Ac_isOn_15, ?_⟩
  refine List.forall_mem_cons.mpr ⟨fs_store hF d_Ac_isOn_16 (by decide), ?_⟩
  refine List.forall_mem_cons.mpr ⟨fs_loada_n hF d_Ac_isOn_18 rfl, ?_⟩
  refine List.forall_mem_cons.mpr ⟨g15 _ 19 d_Ac_isOn_19, ?_⟩
  refine List.forall_mem_cons.mpr ⟨fs_load_n hF d_Ac_isOn_22 rfl, ?_⟩
  refine List.forall_mem_cons.mpr ⟨fs_ald hC lkXI d_Ac_isOn_23, ?_⟩
  refine List.forall_mem_cons.mpr ⟨fs_table hC 10 d_Ac_isOn_24 (by decide) (by decide +kernel) (by decide +kernel) (by decide), ?_⟩
  refine List.forall_mem_cons.mpr ⟨fs_load_n hF d_Ac_isOn_80 rfl, ?_⟩
  refine List.forall_mem_cons.mpr ⟨fs_zret hC hr d_Ac_isOn_81, ?_⟩
  refine List.forall_mem_cons.mpr ⟨fs_load hF d_Ac_isOn_82, ?_⟩
  refine List.forall_mem_cons.mpr ⟨fs_zret hC hr d_Ac_isOn_84, ?_⟩
  refine List.forall_mem_cons.mpr ⟨fs_load_n hF d_Ac_isOn_85 rfl, ?_⟩
  refine List.forall_mem_cons.mpr ⟨fs_ifeq hF d_Ac_isOn_86 (by decide), ?_⟩
  refine List.forall_mem_cons.mpr ⟨fs_load hF d_Ac_isOn_89, ?_⟩
  refine List.forall_mem_cons.mpr ⟨fs_load hF d_Ac_isOn_91, ?_⟩
  refine List.forall_mem_cons.mpr ⟨fs_cmpge hF d_Ac_isOn_93 (by decide), ?_⟩
  refine List.forall_mem_cons.mpr ⟨fs_const hF d_Ac_isOn_96 (by decide), ?_⟩
  refine List.forall_mem_cons.mpr ⟨fs_goto hF d_Ac_isOn_97 (by decide), ?_⟩
  refine List.forall_mem_cons.mpr ⟨fs_const hF d_Ac_isOn_100 (by decide), ?_⟩
  refine List.forall_mem_cons.mpr ⟨fs_zret hC hr d_Ac_isOn_101, ?_⟩
  refine List.forall_mem_cons.mpr ⟨fs_load_n hF d_Ac_isOn_102 rfl, ?_⟩
  refine List.forall_mem_cons.mpr ⟨fs_ifeq hF d_Ac_isOn_103 (by decide), ?_⟩
  refine List.forall_mem_cons.mpr ⟨fs_load hF d_Ac_isOn_106, ?_⟩
  refine List.forall_mem_cons.mpr ⟨fs_load hF d_Ac_isOn_108, ?_⟩
  refine List.forall_mem_cons.mpr ⟨fs_cmplt hF d_Ac_isOn_110 (by decide), ?_⟩
  refine List.forall_mem_cons.mpr ⟨fs_const hF d_Ac_isOn_113 (by decide), ?_⟩
  refine List.forall_mem_cons.mpr ⟨fs_goto hF d_Ac_isOn_114 (by decide), ?_⟩
  refine List.forall_mem_cons.mpr ⟨fs_const hF d_Ac_isOn_117 (by decide), ?_⟩
  refine List.forall_mem_cons.mpr ⟨fs_zret hC hr d_Ac_isOn_118, ?_⟩
  refine List.forall_mem_cons.mpr ⟨fs_load_n hF d_Ac_isOn_119 rfl, ?_⟩
  refine List.forall_mem_cons.mpr ⟨fs_ifeq hF d_Ac_isOn_120 (by decide), ?_⟩
  refine List.forall_mem_cons.mpr ⟨fs_load_n hF d_Ac_isOn_123 rfl, ?_⟩
  refine List.forall_mem_cons.mpr ⟨fs_ifne hF d_Ac_isOn_124 (by decide), ?_⟩
  refine List.forall_mem_cons.mpr ⟨fs_const hF d_Ac_isOn_127 (by decide), ?_⟩
  refine List.forall_mem_cons.mpr ⟨fs_goto hF d_Ac_isOn_128 (by decide), ?_⟩
  refine List.forall_mem_cons.mpr ⟨fs_const hF d_Ac_isOn_131 (by decide), ?_⟩
  refine List.forall_mem_cons.mpr ⟨fs_zret hC hr d_Ac_isOn_132, ?_⟩
  refine List.forall_mem_cons.mpr ⟨fs_load_n hF d_Ac_isOn_133 rfl, ?_⟩
  refine List.forall_mem_cons.mpr ⟨fs_ifeq hF d_Ac_isOn_134 (by decide), ?_⟩
  refine List.forall_mem_cons.mpr ⟨fs_load_n hF d_Ac_isOn_137 rfl, ?_⟩
  refine List.forall_mem_cons.mpr ⟨fs_ifne hF d_Ac_isOn_138 (by decide), ?_⟩
  refine List.forall_mem_cons.mpr ⟨fs_const hF d_Ac_isOn_141 (by decide), ?_⟩
  refine List.forall_mem_cons.mpr ⟨fs_goto hF d_Ac_isOn_142 (by decide), ?_⟩
  refine List.forall_mem_cons.mpr ⟨fs_const hF d_Ac_isOn_145 (by decide), ?_⟩
  refine List.forall_mem_cons.mpr ⟨fs_zret hC hr d_Ac_isOn_146, ?_⟩
  refine List.forall_mem_cons.mpr ⟨fs_load hF d_Ac_isOn_147, ?_⟩
  refine List.forall_mem_cons.mpr ⟨fs_ifeq hF d_Ac_isOn_149 (by decide), ?_⟩
  refine List.forall_mem_cons.mpr ⟨fs_loada_n hF d_Ac_isOn_152 rfl, ?_⟩
  refine List.forall_mem_cons.mpr ⟨g24 _ 153 d_Ac_isOn_153, ?_⟩
  refine List.forall_mem_cons.mpr ⟨fs_load_n hF d_Ac_isOn_156 rfl, ?_⟩
  refine List.forall_mem_cons.mpr ⟨fs_ald hC lkXI d_Ac_isOn_157, ?_⟩
  refine List.forall_mem_cons.mpr ⟨fs_load hF d_Ac_isOn_158, ?_⟩
  refine List.forall_mem_cons.mpr ⟨fs_cmplt hF d_Ac_isOn_160 (by decide), ?_⟩
  refine List.forall_mem_cons.mpr ⟨fs_const hF d_Ac_isOn_163 (by decide), ?_⟩
  refine List.forall_mem_cons.mpr ⟨fs_goto hF d_Ac_isOn_164 (by decide), ?_⟩
  refine List.forall_mem_cons.mpr ⟨fs_const hF d_Ac_isOn_167 (by decide), ?_⟩
  refine List.forall_mem_cons.mpr ⟨fs_zret hC hr d_Ac_isOn_168, ?_⟩
  refine List.forall_mem_cons.mpr ⟨fs_load hF d_Ac_isOn_169, ?_⟩
  refine List.forall_mem_cons.mpr ⟨fs_ifeq hF d_Ac_isOn_171 (by decide), ?_⟩
  refine List.forall_mem_cons.mpr ⟨fs_loada_n hF d_Ac_isOn_174 rfl, ?_⟩
  refine List.forall_mem_cons.mpr ⟨g24 _ 175 d_Ac_isOn_175, ?_⟩
  refine List.forall_mem_cons.mpr ⟨fs_load_n hF d_Ac_isOn_178 rfl, ?_⟩
  refine List.forall_mem_cons.mpr ⟨fs_ald hC lkXI d_Ac_isOn_179, ?_⟩
  refine List.forall_mem_cons.mpr ⟨fs_load hF d_Ac_isOn_180, ?_⟩
  refine List.forall_mem_cons.mpr ⟨fs_cmpge hF d_Ac_isOn_182 (by decide), ?_⟩
  refine List.forall_mem_cons.mpr ⟨fs_const hF d_Ac_isOn_185 (by decide), ?_⟩
  refine List.forall_mem_cons.mpr ⟨fs_goto hF d_Ac_isOn_186 (by decide), ?_⟩
  refine List.forall_mem_cons.mpr ⟨fs_const hF d_Ac_isOn_189 (by decide), ?_⟩
  refine List.forall_mem_cons.mpr ⟨fs_zret hC hr d_Ac_isOn_190, ?_⟩
  refine List.forall_mem_cons.mpr ⟨fs_const hF d_Ac_isOn_191 (by decide), ?_⟩
  refine List.forall_mem_cons.mpr ⟨fs_zret hC hr d_Ac_isOn_192, ?_⟩
  exact fun _ h => absurd h List.not_mem_nil
abbrev rm_Ac_workOut : Room := { frames := 2, cells := 0, slots := 0, locals := 47 }
def ws_Ac_workOut : List Cond := .code y_Ac_workOut c_Ac_workOut 10 (some .int) :: TB
abbrev MC_Ac_workOut (κ : fx_K) : List fx_V → fx_S → (Int32 → fx_S → Prop) → Prop := fx_Met κ.1 κ.2.1 vwCl κ.2.2.1 κ.2.2.2 lyX nwl y_Ac_workOut ws_Ac_workOut rm_Ac_workOut true
def tt_Ac_workOut (κ : fx_K) (post : Int32 → fx_S → Prop) : List (Nat × fx_M fx_S) := [(0, fm_loada 0 1),
  (1, fm_load 1 2),
  (2, fm_call true 5 1 (MC_Ac_resetVariables κ) 5),
  (5, fm_store 4 7),
  (7, fm_const 0 8),
  (8, fm_store 5 10),
  (10, fm_const 0 11),
  (11, fm_store 6 13),
  (13, fm_load 6 15),
  (15, fm_loada 0 16),
  (16, fm_get 5 5 19),
  (19, fm_cmpge 108 22),
  (22, fm_loada 0 23),
  (23, fm_getr 5 21 26),
  (26, fm_load 6 28),
  (28, fm_ald lnXI 29),
  (29, fm_store 7 31),
  (31, fm_load 7 33),
  (33, fm_load 1 34),
  (34, fm_calls true 2 (MC_Fc_isIn κ) 37),
  (37, fm_store 8 39),
  (39, fm_load 7 41),
  (41, fm_load 2 42),
  (42, fm_calls true 2 (MC_Fc_isIn κ) 45),
  (45, fm_store 9 47),
  (47, fm_loada 0 48),
  (48, fm_load 6 50),
  (50, fm_loada 0 51),
  (51, fm_getr 5 23 54),
  (54, fm_load 6 56),
  (56, fm_ald lnXI 57),
  (57, fm_load 4 59),
  (59, fm_calls true 2 (MC_Fc_isIn κ) 62),
  (62, fm_load 8 64),
  (64, fm_loada 3 65),
  (65, fm_load 7 67),
  (67, fm_ald lnXI 68),
  (68, fm_call false 5 4 (MC_Ac_store κ) 71),
  (71, fm_loada 0 72),
  (72, fm_load 6 74),
  (74, fm_load 8 76),
  (76, fm_load 9 78),
  (78, fm_loada 3 79),
  (79, fm_load 7 81),
  (81, fm_ald lnXI 82),
  (82, fm_call true 5 4 (MC_Ac_isOn κ) 85),
  (85, fm_ifeq 102 88),
  (88, fm_load 5 90),
  (90, fm_const 1 91),
  (91, fm_loada 0 92),
  (92, fm_getr 5 23 95),
  (95, fm_load 6 97),
  (97, fm_ald lnXI 98),
  (98, fm_ishl 99),
  (99, fm_ior 100),
  (100, fm_store 5 102),
  (102, fm_inc 6 1 105),
  (105, fm_goto 13),
  (108, fm_load 5 110),
  (110, fm_load 4 112),
  (112, fm_const (-1) 113),
  (113, fm_ixor 114),
  (114, fm_iand 115),
  (115, fm_ret post)]
set_option maxHeartbeats 4000000 in
set_option maxRecDepth 100000 in
theorem mo_Ac_workOut {κ : fx_K} (hq : fx_I κ lyX.length) {av : List fx_V} {S : fx_S} {post : Int32 → fx_S → Prop} (hlen : av.length ≤ 10) (body : ∀ J : fx_J fx_S, (∀ r ∈ tt_Ac_workOut κ post, fx_Snd J r.1 r.2) → (∀ pc k ls st S, J pc (ls.take k) st S → J pc ls st S) → J 0 av [] S) : MC_Ac_workOut κ av S post := by
  refine fx_Met_of (cc := c_Ac_workOut) (nL := 10) (ret := (some .int)) (by decide) rfl hq hlen ?_
  intro p e s m args below meth c hC hr hnw
  refine body _ ?_ fx_W_take
  have hF := hC.1
  have hts := hC.1.2.2.2.2
  have hm : ∀ {w : Cond}, w ∈ TB → w.before args s = true := fun h => hts _ (List.mem_cons_of_mem _ h)
  have g27 : ∀ (Q : State → Prop) (pc : Nat), decode c_Ac_workOut pc = .ok (.getfield 27, 3) → fx_Snd (fx_W p κ.1 e rm_Ac_workOut s m args below meth c Q (fx_A κ.2.2.2 lyX.length) 0 0 (fx_P κ.2.1 vwCl κ.2.2.1 κ.2.2.2 lyX) κ.2.2.2 10) pc (fm_get 5 5 (pc + 3)) := fun Q pc hd => fs_get hC (cN := 5) (j := 5) (ci := 5) (C := R_Ac) (T := T_Ac) (N := 7) rfl rfl rfl (by decide) (fun w h => List.mem_cons_of_mem _ (in_Ac w h)) (hm wd_151) hd
  have g9 : ∀ (Q : State → Prop) (pc : Nat), decode c_Ac_workOut pc = .ok (.getfield 9, 3) → fx_Snd (fx_W p κ.1 e rm_Ac_workOut s m args below meth c Q (fx_A κ.2.2.2 lyX.length) 0 0 (fx_P κ.2.1 vwCl κ.2.2.1 κ.2.2.2 lyX) κ.2.2.2 10) pc (fm_getr 5 21 (pc + 3)) := fun Q pc hd => fs_getr hC (cN := 5) (j := 0) (ci := 5) (C := R_Ac) (T := T_Ac) (N := 7) rfl rfl rfl (by decide) (fun w h => List.mem_cons_of_mem _ (in_Ac w h)) (hm wd_146) hd
  have g18 : ∀ (Q : State → Prop) (pc : Nat), decode c_Ac_workOut pc = .ok (.getfield 18, 3) → fx_Snd (fx_W p κ.1 e rm_Ac_workOut s m args below meth c Q (fx_A κ.2.2.2 lyX.length) 0 0 (fx_P κ.2.1 vwCl κ.2.2.1 κ.2.2.2 lyX) κ.2.2.2 10) pc (fm_getr 5 23 (pc + 3)) := fun Q pc hd => fs_getr hC (cN := 5) (j := 2) (ci := 5) (C := R_Ac) (T := T_Ac) (N := 7) rfl rfl rfl (by decide) (fun w h => List.mem_cons_of_mem _ (in_Ac w h)) (hm wd_148) hd
  refine List.forall_mem_cons.mpr ⟨fs_loada_n hF d_Ac_workOut_0 rfl, ?_⟩
  refine List.forall_mem_cons.mpr ⟨fs_load_n hF d_Ac_workOut_1 rfl, ?_⟩
  refine List.forall_mem_cons.mpr ⟨fs_callV hC nwl_ok hnw (cN := 5) (ci := 5) (C := R_Ac) rfl rfl ⟨callB_of 1 hts (tb_good wd_480) rfl rfl rfl (hm wd_37) (hm wd_477) pd_Ac_resetVariables ⟨Nat.le_of_ble_eq_true rfl, Nat.le_of_ble_eq_true rfl⟩, hm wd_479, hm wd_8⟩ d_Ac_workOut_2, ?_⟩
  refine List.forall_mem_cons.mpr ⟨fs_store hF d_Ac_workOut_5 (by decide), ?_⟩
  refine List.forall_mem_cons.mpr ⟨fs_const hF d_Ac_workOut_7 (by decide), ?_⟩
  refine List.forall_mem_cons.mpr ⟨fs_store hF d_Ac_workOut_8 (by decide), ?_⟩
  refine List.forall_mem_cons.mpr ⟨fs_const hF d_Ac_workOut_10 (by decide), ?_⟩
  refine List.forall_mem_cons.mpr ⟨fs_store hF d_Ac_workOut_11 (by decide), ?_⟩
  refine List.forall_mem_cons.mpr ⟨fs_load hF d_Ac_workOut_13, ?_⟩
  refine List.forall_mem_cons.mpr ⟨fs_loada_n hF d_Ac_workOut_15 rfl, ?_⟩
  refine List.forall_mem_cons.mpr ⟨g27 _ 16 d_Ac_workOut_16, ?_⟩
  refine List.forall_mem_cons.mpr ⟨fs_cmpge hF d_Ac_workOut_19 (by decide), ?_⟩
  refine List.forall_mem_cons.mpr ⟨fs_loada_n hF d_Ac_workOut_22 rfl, ?_⟩
  refine List.forall_mem_cons.mpr ⟨g9 _ 23 d_Ac_workOut_23, ?_⟩
  refine List.forall_mem_cons.mpr ⟨fs_load hF d_Ac_workOut_26, ?_⟩
  refine List.forall_mem_cons.mpr ⟨fs_ald hC lkXI d_Ac_workOut_28, ?_⟩
  refine List.forall_mem_cons.mpr ⟨fs_store hF d_Ac_workOut_29 (by decide), ?_⟩
  refine List.forall_mem_cons.mpr ⟨fs_load hF d_Ac_workOut_31, ?_⟩
  refine List.forall_mem_cons.mpr ⟨fs_load_n hF d_Ac_workOut_33 rfl, ?_⟩
  refine List.forall_mem_cons.mpr ⟨fs_callSN hC nwl_ok hnw ⟨va_cnB 2 hts (tb_good wd_369) rfl rfl rfl (hnw _ (List.mem_of_getElem? (i := 30) rfl)) (hm wd_32) pd_Fc_isIn ⟨Nat.le_of_ble_eq_true rfl, Nat.le_of_ble_eq_true rfl⟩, hm wd_368⟩ d_Ac_workOut_34, ?_⟩
  refine List.forall_mem_cons.mpr ⟨fs_store hF d_Ac_workOut_37 (by decide), ?_⟩
  refine List.forall_mem_cons.mpr ⟨fs_load hF d_Ac_workOut_39, ?_⟩
  refine List.forall_mem_cons.mpr ⟨fs_load_n hF d_Ac_workOut_41 rfl, ?_⟩
  refine List.forall_mem_cons.mpr ⟨fs_callSN hC nwl_ok hnw ⟨va_cnB 2 hts (tb_good wd_369) rfl rfl rfl (hnw _ (List.mem_of_getElem? (i := 30) rfl)) (hm wd_32) pd_Fc_isIn ⟨Nat.le_of_ble_eq_true rfl, Nat.le_of_ble_eq_true rfl⟩, hm wd_368⟩ d_Ac_workOut_42, ?_⟩
  refine List.forall_mem_cons.mpr ⟨fs_store hF d_Ac_workOut_45 (by decide), ?_⟩
  refine List.forall_mem_cons.mpr ⟨fs_loada_n hF d_Ac_workOut_47 rfl, ?_⟩
  refine List.forall_mem_cons.mpr ⟨fs_load hF d_Ac_workOut_48, ?_⟩
  refine List.forall_mem_cons.mpr ⟨fs_loada_n hF d_Ac_workOut_50 rfl, ?_⟩
  refine List.forall_mem_cons.mpr ⟨g18 _ 51 d_Ac_workOut_51, ?_⟩
  refine List.forall_mem_cons.mpr ⟨fs_load hF d_Ac_workOut_54, ?_⟩
  refine List.forall_mem_cons.mpr ⟨fs_ald hC lkXI d_Ac_workOut_56, ?_⟩
  refine List.forall_mem_cons.mpr ⟨fs_load hF d_Ac_workOut_57, ?_⟩
  refine List.forall_mem_cons.mpr ⟨fs_callSN hC nwl_ok hnw ⟨va_cnB 2 hts (tb_good wd_369) rfl rfl rfl (hnw _ (List.mem_of_getElem? (i := 30) rfl)) (hm wd_32) pd_Fc_isIn ⟨Nat.le_of_ble_eq_true rfl, Nat.le_of_ble_eq_true rfl⟩, hm wd_368⟩ d_Ac_workOut_59, ?_⟩
  refine List.forall_mem_cons.mpr ⟨fs_load hF d_Ac_workOut_62, ?_⟩
  refine List.forall_mem_cons.mpr ⟨fs_loada_n hF d_Ac_workOut_64 rfl, ?_⟩
  refine List.forall_mem_cons.mpr ⟨fs_load hF d_Ac_workOut_65, ?_⟩
  refine List.forall_mem_cons.mpr ⟨fs_ald hC lkXI d_Ac_workOut_67, ?_⟩
  refine List.forall_mem_cons.mpr ⟨fs_callV hC nwl_ok hnw (cN := 5) (ci := 5) (C := R_Ac) rfl rfl ⟨callB_of 4 hts (tb_good wd_484) rfl rfl rfl (hm wd_37) (hm wd_481) pd_Ac_store ⟨Nat.le_of_ble_eq_true rfl, Nat.le_of_ble_eq_true rfl⟩, hm wd_483, hm wd_9⟩ d_Ac_workOut_68, ?_⟩
  refine List.forall_mem_cons.mpr ⟨fs_loada_n hF d_Ac_workOut_71 rfl, ?_⟩
  refine List.forall_mem_cons.mpr ⟨fs_load hF d_Ac_workOut_72, ?_⟩
  refine List.forall_mem_cons.mpr ⟨fs_load hF d_Ac_workOut_74, ?_⟩
  refine List.forall_mem_cons.mpr ⟨fs_load hF d_Ac_workOut_76, ?_⟩
  refine List.forall_mem_cons.mpr ⟨fs_loada_n hF d_Ac_workOut_78 rfl, ?_⟩
  refine List.forall_mem_cons.mpr ⟨fs_load hF d_Ac_workOut_79, ?_⟩
  refine List.forall_mem_cons.mpr ⟨fs_ald hC lkXI d_Ac_workOut_81, ?_⟩
  refine List.forall_mem_cons.mpr ⟨fs_callV hC nwl_ok hnw (cN := 5) (ci := 5) (C := R_Ac) rfl rfl ⟨callB_of 4 hts (tb_good wd_492) rfl rfl rfl (hm wd_37) (hm wd_489) pd_Ac_isOn ⟨Nat.le_of_ble_eq_true rfl, Nat.le_of_ble_eq_true rfl⟩, hm wd_491, hm wd_11⟩ d_Ac_workOut_82, ?_⟩
  refine List.forall_mem_cons.mpr ⟨fs_ifeq hF d_Ac_workOut_85 (by decide), ?_⟩
  refine List.forall_mem_cons.mpr ⟨fs_load hF d_Ac_workOut_88, ?_⟩
  refine List.forall_mem_cons.mpr ⟨fs_const hF d_Ac_workOut_90 (by decide), ?_⟩
  refine List.forall_mem_cons.mpr ⟨fs_loada_n hF d_Ac_workOut_91 rfl, ?_⟩
  refine List.forall_mem_cons.mpr ⟨g18 _ 92 d_Ac_workOut_92, ?_⟩
  refine List.forall_mem_cons.mpr ⟨fs_load hF d_Ac_workOut_95, ?_⟩
  refine List.forall_mem_cons.mpr ⟨fs_ald hC lkXI d_Ac_workOut_97, ?_⟩
  refine List.forall_mem_cons.mpr ⟨fs_ishl hF d_Ac_workOut_98, ?_⟩
  refine List.forall_mem_cons.mpr ⟨fs_ior hF d_Ac_workOut_99, ?_⟩
  refine List.forall_mem_cons.mpr ⟨fs_store hF d_Ac_workOut_100 (by decide), ?_⟩
  refine List.forall_mem_cons.mpr ⟨fs_inc hF d_Ac_workOut_102 (by decide) (by decide), ?_⟩
  refine List.forall_mem_cons.mpr ⟨fs_goto hF d_Ac_workOut_105 (by decide), ?_⟩
  refine List.forall_mem_cons.mpr ⟨fs_load hF d_Ac_workOut_108, ?_⟩
  refine List.forall_mem_cons.mpr ⟨fs_load hF d_Ac_workOut_110, ?_⟩
  refine List.forall_mem_cons.mpr ⟨fs_const hF d_Ac_workOut_112 (by decide), ?_⟩
  refine List.forall_mem_cons.mpr ⟨fs_ixor hF d_Ac_workOut_113, ?_⟩
  refine List.forall_mem_cons.mpr ⟨fs_iand hF d_Ac_workOut_114, ?_⟩
  refine List.forall_mem_cons.mpr ⟨fs_ret hC hr d_Ac_workOut_115, ?_⟩
  exact fun _ h => absurd h List.not_mem_nil
abbrev rm_Fc_step : Room := { frames := 1, cells := 0, slots := 0, locals := 23 }
def ws_Fc_step : List Cond := .code y_Fc_step c_Fc_step 3 (some .int) :: TB
abbrev MC_Fc_step (κ : fx_K) : List fx_V → fx_S → (Int32 → fx_S → Prop) → Prop := fx_Met κ.1 κ.2.1 vwCl κ.2.2.1 κ.2.2.2 lyX nwl y_Fc_step ws_Fc_step rm_Fc_step true
def tt_Fc_step (κ : fx_K) (post : Int32 → fx_S → Prop) : List (Nat × fx_M fx_S) := [(0, fm_loada 0 1),
  (1, fm_get 0 7 4),
  (4, fm_ifne 28 7),
  (7, fm_loada 0 8),
  (8, fm_getr 0 1 11),
  (11, fm_get 1 2 14),
  (14, fm_const 8 16),
  (16, fm_cmpeq 28 19),
  (19, fm_load 1 20),
  (20, fm_iflt 28 23),
  (23, fm_load 1 24),
  (24, fm_const 3 25),
  (25, fm_cmplt 31 28),
  (28, fm_const (-2) 30),
  (30, fm_ret post),
  (31, fm_loada 0 32),
  (32, fm_getr 0 1 35),
  (35, fm_load 1 36),
  (36, fm_load 2 37),
  (37, fm_call true 1 2 (MC_St_add κ) 40),
  (40, fm_ret post)]
set_option maxHeartbeats 4000000 in
set_option maxRecDepth 100000 in
theorem mo_Fc_step {κ : fx_K} (hq : fx_I κ lyX.length) {av : List fx_V} {S : fx_S} {post : Int32 → fx_S → Prop} (hlen : av.length ≤ 3) (body : ∀ J : fx_J fx_S, (∀ r ∈ tt_Fc_step κ post, fx_Snd J r.1 r.2) → (∀ pc k ls st S, J pc (ls.take k) st S → J pc ls st S) → J 0 av [] S) : MC_Fc_step κ av S post := by
  refine fx_Met_of (cc := c_Fc_step) (nL := 3) (ret := (some .int)) (by decide) rfl hq hlen ?_
  intro p e s m args below meth c hC hr hnw
  refine body _ ?_ fx_W_take
  have hF := hC.1
  have hts := hC.1.2.2.2.2
  have hm : ∀ {w : Cond}, w ∈ TB → w.before args s = true := fun h => hts _ (List.mem_cons_of_mem _ h)
  have g55 : ∀ (Q : State → Prop) (pc : Nat), decode c_Fc_step pc = .ok (.getfield 55, 3) → fx_Snd (fx_W p κ.1 e rm_Fc_step s m args below meth c Q (fx_A κ.2.2.2 lyX.length) 0 0 (fx_P κ.2.1 vwCl κ.2.2.1 κ.2.2.2 lyX) κ.2.2.2 3) pc (fm_get 0 7 (pc + 3)) := fun Q pc hd => fs_get hC (cN := 0) (j := 7) (ci := 0) (C := R_Fc) (T := T_Fc) (N := 17) rfl rfl rfl (by decide) (fun w h => List.mem_cons_of_mem _ (in_Fc w h)) (hm wd_225) hd
  have g10 : ∀ (Q : State → Prop) (pc : Nat), decode c_Fc_step pc = .ok (.getfield 10, 3) → fx_Snd (fx_W p κ.1 e rm_Fc_step s m args below meth c Q (fx_A κ.2.2.2 lyX.length) 0 0 (fx_P κ.2.1 vwCl κ.2.2.1 κ.2.2.2 lyX) κ.2.2.2 3) pc (fm_getr 0 1 (pc + 3)) := fun Q pc hd => fs_getr hC (cN := 0) (j := 0) (ci := 0) (C := R_Fc) (T := T_Fc) (N := 17) rfl rfl rfl (by decide) (fun w h => List.mem_cons_of_mem _ (in_Fc w h)) (hm wd_218) hd
  have g59 : ∀ (Q : State → Prop) (pc : Nat), decode c_Fc_step pc = .ok (.getfield 59, 3) → fx_Snd (fx_W p κ.1 e rm_Fc_step s m args below meth c Q (fx_A κ.2.2.2 lyX.length) 0 0 (fx_P κ.2.1 vwCl κ.2.2.1 κ.2.2.2 lyX) κ.2.2.2 3) pc (fm_get 1 2 (pc + 3)) := fun Q pc hd => fs_getN hC (cN := 1) (j := 2) (ci := 1) (C := R_St) (T := T_St) (N := 4) rfl rfl rfl (by decide) (fun w h => List.mem_cons_of_mem _ (in_St w h)) (hnw _ (List.mem_of_getElem? (i := 3) rfl)) hd
  refine List.forall_mem_cons.mpr ⟨fs_loada_n hF d_Fc_step_0 rfl, ?_⟩
  refine List.forall_mem_cons.mpr ⟨g55 _ 1 d_Fc_step_1, ?_⟩
  refine List.forall_mem_cons.mpr ⟨fs_ifne hF d_Fc_step_4 (by decide), ?_⟩
  refine List.forall_mem_cons.mpr ⟨fs_loada_n hF d_Fc_step_7 rfl, ?_⟩
  refine List.forall_mem_cons.mpr ⟨g10 _ 8 d_Fc_step_8, ?_⟩
  refine List.forall_mem_cons.mpr ⟨g59 _ 11 d_Fc_step_11, ?_⟩
  refine List.forall_mem_cons.mpr ⟨fs_bipush hF d_Fc_step_14 (by decide), ?_⟩
  refine List.forall_mem_cons.mpr ⟨fs_cmpeq hF d_Fc_step_16 (by decide), ?_⟩
  refine List.forall_mem_cons.mpr ⟨fs_load_n hF d_Fc_step_19 rfl, ?_⟩
  refine List.forall_mem_cons.mpr ⟨fs_iflt hF d_Fc_step_20 (by decide), ?_⟩
  refine List.forall_mem_cons.mpr ⟨fs_load_n hF d_Fc_step_23 rfl, ?_⟩
  refine List.forall_mem_cons.mpr ⟨fs_const hF d_Fc_step_24 (by decide), ?_⟩
  refine List.forall_mem_cons.mpr ⟨fs_cmplt hF d_Fc_step_25 (by decide), ?_⟩
  refine List.forall_mem_cons.mpr ⟨fs_bipush hF d_Fc_step_28 (by decide), ?_⟩
  refine List.forall_mem_cons.mpr ⟨fs_ret hC hr d_Fc_step_30, ?_⟩
  refine List.forall_mem_cons.mpr ⟨fs_loada_n hF d_Fc_step_31 rfl, ?_⟩
  refine List.forall_mem_cons.mpr ⟨g10 _ 32 d_Fc_step_32, ?_⟩
  refine List.forall_mem_cons.mpr ⟨fs_load_n hF d_Fc_step_35 rfl, ?_⟩
  refine List.forall_mem_cons.mpr ⟨fs_load_n hF d_Fc_step_36 rfl, ?_⟩
  refine List.forall_mem_cons.mpr ⟨fs_callV hC nwl_ok hnw (cN := 1) (ci := 1) (C := R_St) rfl rfl ⟨callB_of 2 hts (tb_good wd_277) rfl rfl rfl (hm wd_33) (hm wd_274) pd_St_add ⟨Nat.le_of_ble_eq_true rfl, Nat.le_of_ble_eq_true rfl⟩, hm wd_275, hm wd_276⟩ d_Fc_step_37, ?_⟩
  refine List.forall_mem_cons.mpr ⟨fs_ret hC hr d_Fc_step_40, ?_⟩
  exact fun _ h => absurd h List.not_mem_nil
abbrev rm_Fc_expression : Room := { frames := 3, cells := 0, slots := 0, locals := 68 }
def ws_Fc_expression : List Cond := .code y_Fc_expression c_Fc_expression 4 (some .int) :: TB
abbrev MC_Fc_expression (κ : fx_K) : List fx_V → fx_S → (Int32 → fx_S → Prop) → Prop := fx_Met κ.1 κ.2.1 vwCl κ.2.2.1 κ.2.2.2 lyX nwl y_Fc_expression ws_Fc_expression rm_Fc_expression true
def tt_Fc_expression (κ : fx_K) (post : Int32 → fx_S → Prop) : List (Nat × fx_M fx_S) := [(0, fm_loada 0 1),
  (1, fm_get 0 7 4),
  (4, fm_ifne 36 7),
  (7, fm_loada 0 8),
  (8, fm_getr 0 2 11),
  (11, fm_get 2 4 14),
  (14, fm_const 24 16),
  (16, fm_cmpeq 36 19),
  (19, fm_loada 0 20),
  (20, fm_getr 0 2 23),
  (23, fm_load 1 24),
  (24, fm_load 2 25),
  (25, fm_load 3 26),
  (26, fm_loada 0 27),
  (27, fm_getr 0 1 30),
  (30, fm_call true 2 4 (MC_Ex_allow κ) 33),
  (33, fm_ifne 39 36),
  (36, fm_const (-2) 38),
  (38, fm_ret post),
  (39, fm_loada 0 40),
  (40, fm_getr 0 2 43),
  (43, fm_load 1 44),
  (44, fm_load 2 45),
  (45, fm_load 3 46),
  (46, fm_call true 2 3 (MC_Ex_add κ) 49),
  (49, fm_ret post)]
set_option maxHeartbeats 4000000 in
set_option maxRecDepth 100000 in
theorem mo_Fc_expression {κ : fx_K} (hq : fx_I κ lyX.length) {av : List fx_V} {S : fx_S} {post : Int32 → fx_S → Prop} (hlen : av.length ≤ 4) (body : ∀ J : fx_J fx_S, (∀ r ∈ tt_Fc_expression κ post, fx_Snd J r.1 r.2) → (∀ pc k ls st S, J pc (ls.take k) st S → J pc ls st S) → J 0 av [] S) : MC_Fc_expression κ av S post := by
  refine fx_Met_of (cc := c_Fc_expression) (nL := 4) (ret := (some .int)) (by decide) rfl hq hlen ?_
  intro p e s m args below meth c hC hr hnw
  refine body _ ?_ fx_W_take
  have hF := hC.1
  have hts := hC.1.2.2.2.2
  have hm : ∀ {w : Cond}, w ∈ TB → w.before args s = true := fun h => hts _ (List.mem_cons_of_mem _ h)
  have g55 : ∀ (Q : State → Prop) (pc : Nat), decode c_Fc_expression pc = .ok (.getfield 55, 3) → fx_Snd (fx_W p κ.1 e rm_Fc_expression s m args below meth c Q (fx_A κ.2.2.2 lyX.length) 0 0 (fx_P κ.2.1 vwCl κ.2.2.1 κ.2.2.2 lyX) κ.2.2.2 4) pc (fm_get 0 7 (pc + 3)) := fun Q pc hd => fs_get hC (cN := 0) (j := 7) (ci := 0) (C := R_Fc) (T := T_Fc) (N := 17) rfl rfl rfl (by decide) (fun w h => List.mem_cons_of_mem _ (in_Fc w h)) (hm wd_225) hd
  have g19 : ∀ (Q : State → Prop) (pc : Nat), decode c_Fc_expression pc = .ok (.getfield 19, 3) → fx_Snd (fx_W p κ.1 e rm_Fc_expression s m args below meth c Q (fx_A κ.2.2.2 lyX.length) 0 0 (fx_P κ.2.1 vwCl κ.2.2.1 κ.2.2.2 lyX) κ.2.2.2 4) pc (fm_getr 0 2 (pc + 3)) := fun Q pc hd => fs_getr hC (cN := 0) (j := 1) (ci := 0) (C := R_Fc) (T := T_Fc) (N := 17) rfl rfl rfl (by decide) (fun w h => List.mem_cons_of_mem _ (in_Fc w h)) (hm wd_219) hd
  have g67 : ∀ (Q : State → Prop) (pc : Nat), decode c_Fc_expression pc = .ok (.getfield 67, 3) → fx_Snd (fx_W p κ.1 e rm_Fc_expression s m args below meth c Q (fx_A κ.2.2.2 lyX.length) 0 0 (fx_P κ.2.1 vwCl κ.2.2.1 κ.2.2.2 lyX) κ.2.2.2 4) pc (fm_get 2 4 (pc + 3)) := fun Q pc hd => fs_getN hC (cN := 2) (j := 4) (ci := 2) (C := R_Ex) (T := T_Ex) (N := 5) rfl rfl rfl (by decide) (fun w h => List.mem_cons_of_mem _ (in_Ex w h)) (hnw _ (List.mem_of_getElem? (i := 6) rfl)) hd
  have g10 : ∀ (Q : State → Prop) (pc : Nat), decode c_Fc_expression pc = .ok (.getfield 10, 3) → fx_Snd (fx_W p κ.1 e rm_Fc_expression s m args below meth c Q (fx_A κ.2.2.2 lyX.length) 0 0 (fx_P κ.2.1 vwCl κ.2.2.1 κ.2.2.2 lyX) κ.2.2.2 4) pc (fm_getr 0 1 (pc + 3)) := fun Q pc hd => fs_getr hC (cN := 0) (j := 0) (ci := 0) (C := R_Fc) (T := T_Fc) (N := 17) rfl rfl rfl (by decide) (fun w h => List.mem_cons_of_mem _ (in_Fc w h)) (hm wd_218) hd
  refine List.forall_mem_cons.mpr ⟨fs_loada_n hF d_Fc_expression_0 rfl, ?_⟩
  refine List.forall_mem_cons.mpr ⟨g55 _ 1 d_Fc_expression_1, ?_⟩
  refine List.forall_mem_cons.mpr ⟨fs_ifne hF d_Fc_expression_4 (by decide), ?_⟩
  refine List.forall_mem_cons.mpr ⟨fs_loada_n hF d_Fc_expression_7 rfl, ?_⟩
  refine List.forall_mem_cons.mpr ⟨g19 _ 8 d_Fc_expression_8, ?_⟩
  refine List.forall_mem_cons.mpr ⟨g67 _ 11 d_Fc_expression_11, ?_⟩
  refine List.forall_mem_cons.mpr ⟨fs_bipush hF d_Fc_expression_14 (by decide), ?_⟩
  refine List.forall_mem_cons.mpr ⟨fs_cmpeq hF d_Fc_expression_16 (by decide), ?_⟩
  refine List.forall_mem_cons.mpr ⟨fs_loada_n hF d_Fc_expression_19 rfl, ?_⟩
  refine List.forall_mem_cons.mpr ⟨g19 _ 20 d_Fc_expression_20, ?_⟩
  refine List.forall_mem_cons.mpr ⟨fs_load_n hF d_Fc_expression_23 rfl, ?_⟩
  refine List.forall_mem_cons.mpr ⟨fs_load_n hF d_Fc_expression_24 rfl, ?_⟩
  refine List.forall_mem_cons.mpr ⟨fs_load_n hF d_Fc_expression_25 rfl, ?_⟩
  refine List.forall_mem_cons.mpr ⟨fs_loada_n hF d_Fc_expression_26 rfl, ?_⟩
  refine List.forall_mem_cons.mpr ⟨g10 _ 27 d_Fc_expression_27, ?_⟩
  refine List.forall_mem_cons.mpr ⟨fs_callV hC nwl_ok hnw (cN := 2) (ci := 2) (C := R_Ex) rfl rfl ⟨callB_of 4 hts (tb_good wd_285) rfl rfl rfl (hm wd_34) (hm wd_282) pd_Ex_allow ⟨Nat.le_of_ble_eq_true rfl, Nat.le_of_ble_eq_true rfl⟩, hm wd_283, hm wd_284⟩ d_Fc_expression_30, ?_⟩
  refine List.forall_mem_cons.mpr ⟨fs_ifne hF d_Fc_expression_33 (by decide), ?_⟩
  refine List.forall_mem_cons.mpr ⟨fs_bipush hF d_Fc_expression_36 (by decide), ?_⟩
  refine List.forall_mem_cons.mpr ⟨fs_ret hC hr d_Fc_expression_38, ?_⟩
  refine List.forall_mem_cons.mpr ⟨fs_loada_n hF d_Fc_expression_39 rfl, ?_⟩
  refine List.forall_mem_cons.mpr ⟨g19 _ 40 d_Fc_expression_40, ?_⟩
  refine List.forall_mem_cons.mpr ⟨fs_load_n hF d_Fc_expression_43 rfl, ?_⟩
  refine List.forall_mem_cons.mpr ⟨fs_load_n hF d_Fc_expression_44 rfl, ?_⟩
  refine List.forall_mem_cons.mpr ⟨fs_load_n hF d_Fc_expression_45 rfl, ?_⟩
  refine List.forall_mem_cons.mpr ⟨fs_callV hC nwl_ok hnw (cN := 2) (ci := 2) (C := R_Ex) rfl rfl ⟨callB_of 3 hts (tb_good wd_308) rfl rfl rfl (hm wd_34) (hm wd_305) pd_Ex_add ⟨Nat.le_of_ble_eq_true rfl, Nat.le_of_ble_eq_true rfl⟩, hm wd_306, hm wd_307⟩ d_Fc_expression_46, ?_⟩
  refine List.forall_mem_cons.mpr ⟨fs_ret hC hr d_Fc_expression_49, ?_⟩
  exact fun _ h => absurd h List.not_mem_nil
abbrev rm_Fc_transition : Room := { frames := 1, cells := 0, slots := 0, locals := 25 }
def ws_Fc_transition : List Cond := .code y_Fc_transition c_Fc_transition 5 (some .int) :: TB
abbrev MC_Fc_transition (κ : fx_K) : List fx_V → fx_S → (Int32 → fx_S → Prop) → Prop := fx_Met κ.1 κ.2.1 vwCl κ.2.2.1 κ.2.2.2 lyX nwl y_Fc_transition ws_Fc_transition rm_Fc_transition true
def tt_Fc_transition (κ : fx_K) (post : Int32 → fx_S → Prop) : List (Nat × fx_M fx_S) := [(0, fm_loada 0 1),
  (1, fm_get 0 7 4),
  (4, fm_ifne 27 7),
  (7, fm_loada 0 8),
  (8, fm_getr 0 3 11),
  (11, fm_get 3 4 14),
  (14, fm_const 12 16),
  (16, fm_cmpeq 27 19),
  (19, fm_load 1 20),
  (20, fm_ifeq 27 23),
  (23, fm_load 2 24),
  (24, fm_ifne 30 27),
  (27, fm_const (-2) 29),
  (29, fm_ret post),
  (30, fm_loada 0 31),
  (31, fm_getr 0 1 34),
  (34, fm_load 1 35),
  (35, fm_load 2 36),
  (36, fm_ior 37),
  (37, fm_call true 1 1 (MC_St_partWithAll κ) 40),
  (40, fm_store 4 42),
  (42, fm_load 4 44),
  (44, fm_iflt 58 47),
  (47, fm_loada 0 48),
  (48, fm_getr 0 2 51),
  (51, fm_load 3 52),
  (52, fm_call true 2 1 (MC_Ex_has κ) 55),
  (55, fm_ifne 61 58),
  (58, fm_const (-2) 60),
  (60, fm_ret post),
  (61, fm_loada 0 62),
  (62, fm_getr 0 3 65),
  (65, fm_load 4 67),
  (67, fm_load 1 68),
  (68, fm_load 2 69),
  (69, fm_load 3 70),
  (70, fm_call true 3 4 (MC_Tr_add κ) 73),
  (73, fm_ret post)]
set_option maxHeartbeats 4000000 in
set_option maxRecDepth 100000 in
theorem mo_Fc_transition {κ : fx_K} (hq : fx_I κ lyX.length) {av : List fx_V} {S : fx_S} {post : Int32 → fx_S → Prop} (hlen : av.length ≤ 5) (body : ∀ J : fx_J fx_S, (∀ r ∈ tt_Fc_transition κ post, fx_Snd J r.1 r.2) → (∀ pc k ls st S, J pc (ls.take k) st S → J pc ls st S) → J 0 av [] S) : MC_Fc_transition κ av S post := by
  refine fx_Met_of (cc := c_Fc_transition) (nL := 5) (ret := (some .int)) (by decide) rfl hq hlen ?_
  intro p e s m args below meth c hC hr hnw
  refine body _ ?_ fx_W_take
  have hF := hC.1
  have hts := hC.1.2.2.2.2
  have hm : ∀ {w : Cond}, w ∈ TB → w.before args s = true := fun h => hts _ (List.mem_cons_of_mem _ h)
  have g55 : ∀ (Q : State → Prop) (pc : Nat), decode c_Fc_transition pc = .ok (.getfield 55, 3) → fx_Snd (fx_W p κ.1 e rm_Fc_transition s m args below meth c Q (fx_A κ.2.2.2 lyX.length) 0 0 (fx_P κ.2.1 vwCl κ.2.2.1 κ.2.2.2 lyX) κ.2.2.2 5) pc (fm_get 0 7 (pc + 3)) := fun Q pc hd => fs_get hC (cN := 0) (j := 7) (ci := 0) (C := R_Fc) (T := T_Fc) (N := 17) rfl rfl rfl (by decide) (fun w h => List.mem_cons_of_mem _ (in_Fc w h)) (hm wd_225) hd
  have g26 : ∀ (Q : State → Prop) (pc : Nat), decode c_Fc_transition pc = .ok (.getfield 26, 3) → fx_Snd (fx_W p κ.1 e rm_Fc_transition s m args below meth c Q (fx_A κ.2.2.2 lyX.length) 0 0 (fx_P κ.2.1 vwCl κ.2.2.1 κ.2.2.2 lyX) κ.2.2.2 5) pc (fm_getr 0 3 (pc + 3)) := fun Q pc hd => fs_getr hC (cN := 0) (j := 2) (ci := 0) (C := R_Fc) (T := T_Fc) (N := 17) rfl rfl rfl (by decide) (fun w h => List.mem_cons_of_mem _ (in_Fc w h)) (hm wd_220) hd
  have g75 : ∀ (Q : State → Prop) (pc : Nat), decode c_Fc_transition pc = .ok (.getfield 75, 3) → fx_Snd (fx_W p κ.1 e rm_Fc_transition s m args below meth c Q (fx_A κ.2.2.2 lyX.length) 0 0 (fx_P κ.2.1 vwCl κ.2.2.1 κ.2.2.2 lyX) κ.2.2.2 5) pc (fm_get 3 4 (pc + 3)) := fun Q pc hd => fs_getN hC (cN := 3) (j := 4) (ci := 3) (C := R_Tr) (T := T_Tr) (N := 5) rfl rfl rfl (by decide) (fun w h => List.mem_cons_of_mem _ (in_Tr w h)) (hnw _ (List.mem_of_getElem? (i := 9) rfl)) hd
  have g10 : ∀ (Q : State → Prop) (pc : Nat), decode c_Fc_transition pc = .ok (.getfield 10, 3) → fx_Snd (fx_W p κ.1 e rm_Fc_transition s m args below meth c Q (fx_A κ.2.2.2 lyX.length) 0 0 (fx_P κ.2.1 vwCl κ.2.2.1 κ.2.2.2 lyX) κ.2.2.2 5) pc (fm_getr 0 1 (pc + 3)) := fun Q pc hd => fs_getr hC (cN := 0) (j := 0) (ci := 0) (C := R_Fc) (T := T_Fc) (N := 17) rfl rfl rfl (by decide) (fun w h => List.mem_cons_of_mem _ (in_Fc w h)) (hm wd_218) hd
  have g19 : ∀ (Q : State → Prop) (pc : Nat), decode c_Fc_transition pc = .ok (.getfield 19, 3) → fx_Snd (fx_W p κ.1 e rm_Fc_transition s m args below meth c Q (fx_A κ.2.2.2 lyX.length) 0 0 (fx_P κ.2.1 vwCl κ.2.2.1 κ.2.2.2 lyX) κ.2.2.2 5) pc (fm_getr 0 2 (pc + 3)) := fun Q pc hd => fs_getr hC (cN := 0) (j := 1) (ci := 0) (C := R_Fc) (T := T_Fc) (N := 17) rfl rfl rfl (by decide) (fun w h => List.mem_cons_of_mem _ (in_Fc w h)) (hm wd_219) hd
  refine List.forall_mem_cons.mpr ⟨fs_loada_n hF d_Fc_transition_0 rfl, ?_⟩
  refine List.forall_mem_cons.mpr ⟨g55 _ 1 d_Fc_transition_1, ?_⟩
  refine List.forall_mem_cons.mpr ⟨fs_ifne hF d_Fc_transition_4 (by decide), ?_⟩
  refine List.forall_mem_cons.mpr ⟨fs_loada_n hF d_Fc_transition_7 rfl, ?_⟩
  refine List.forall_mem_cons.mpr ⟨g26 _ 8 d_Fc_transition_8, ?_⟩
  refine List.forall_mem_cons.mpr ⟨g75 _ 11 d_Fc_transition_11, ?_⟩
  refine List.forall_mem_cons.mpr ⟨fs_bipush hF d_Fc_transition_14 (by decide), ?_⟩
  refine List.forall_mem_cons.mpr ⟨fs_cmpeq hF d_Fc_transition_16 (by decide), ?_⟩
  refine List.forall_mem_cons.mpr ⟨fs_load_n hF d_Fc_transition_19 rfl, ?_⟩
  refine List.forall_mem_cons.mpr ⟨fs_ifeq hF d_Fc_transition_20 (by decide), ?_⟩
  refine List.forall_mem_cons.mpr ⟨fs_load_n hF d_Fc_transition_23 rfl, ?_⟩
  refine List.forall_mem_cons.mpr ⟨fs_ifne hF d_Fc_transition_24 (by decide), ?_⟩
  refine List.forall_mem_cons.mpr ⟨fs_bipush hF d_Fc_transition_27 (by decide), ?_⟩
  refine List.forall_mem_cons.mpr ⟨fs_ret hC hr d_Fc_transition_29, ?_⟩
  refine List.forall_mem_cons.mpr ⟨fs_loada_n hF d_Fc_transition_30 rfl, ?_⟩
  refine List.forall_mem_cons.mpr ⟨g10 _ 31 d_Fc_transition_31, ?_⟩
  refine List.forall_mem_cons.mpr ⟨fs_load_n hF d_Fc_transition_34 rfl, ?_⟩
  refine List.forall_mem_cons.mpr ⟨fs_load_n hF d_Fc_transition_35 rfl, ?_⟩
  refine List.forall_mem_cons.mpr ⟨fs_ior hF d_Fc_transition_36, ?_⟩
  refine List.forall_mem_cons.mpr ⟨fs_callV hC nwl_ok hnw (cN := 1) (ci := 1) (C := R_St) rfl rfl ⟨callB_of 1 hts (tb_good wd_323) rfl rfl rfl (hm wd_33) (hm wd_320) pd_St_partWithAll ⟨Nat.le_of_ble_eq_true rfl, Nat.le_of_ble_eq_true rfl⟩, hm wd_321, hm wd_322⟩ d_Fc_transition_37, ?_⟩
  refine List.forall_mem_cons.mpr ⟨fs_store hF d_Fc_transition_40 (by decide), ?_⟩
  refine List.forall_mem_cons.mpr ⟨fs_load hF d_Fc_transition_42, ?_⟩
  refine List.forall_mem_cons.mpr ⟨fs_iflt hF d_Fc_transition_44 (by decide), ?_⟩
  refine List.forall_mem_cons.mpr ⟨fs_loada_n hF d_Fc_transition_47 rfl, ?_⟩
  refine List.forall_mem_cons.mpr ⟨g19 _ 48 d_Fc_transition_48, ?_⟩
  refine List.forall_mem_cons.mpr ⟨fs_load_n hF d_Fc_transition_51 rfl, ?_⟩
  refine List.forall_mem_cons.mpr ⟨fs_callV hC nwl_ok hnw (cN := 2) (ci := 2) (C := R_Ex) rfl rfl ⟨callB_of 1 hts (tb_good wd_304) rfl rfl rfl (hm wd_34) (hm wd_324) pd_Ex_has ⟨Nat.le_of_ble_eq_true rfl, Nat.le_of_ble_eq_true rfl⟩, hm wd_302, hm wd_303⟩ d_Fc_transition_52, ?_⟩
  refine List.forall_mem_cons.mpr ⟨fs_ifne hF d_Fc_transition_55 (by decide), ?_⟩
  refine List.forall_mem_cons.mpr ⟨fs_bipush hF d_Fc_transition_58 (by decide), ?_⟩
  refine List.forall_mem_cons.mpr ⟨fs_ret hC hr d_Fc_transition_60, ?_⟩
  refine List.forall_mem_cons.mpr ⟨fs_loada_n hF d_Fc_transition_61 rfl, ?_⟩
  refine List.forall_mem_cons.mpr ⟨g26 _ 62 d_Fc_transition_62, ?_⟩
  refine List.forall_mem_cons.mpr ⟨fs_load hF d_Fc_transition_65, ?_⟩
  refine List.forall_mem_cons.mpr ⟨fs_load_n hF d_Fc_transition_67 rfl, ?_⟩
  refine List.forall_mem_cons.mpr ⟨fs_load_n hF d_Fc_transition_68 rfl, ?_⟩
  refine List.forall_mem_cons.mpr ⟨fs_load_n hF d_Fc_transition_69 rfl, ?_⟩
  refine List.forall_mem_cons.mpr ⟨fs_callV hC nwl_ok hnw (cN := 3) (ci := 3) (C := R_Tr) rfl rfl ⟨callB_of 4 hts (tb_good wd_328) rfl rfl rfl (hm wd_35) (hm wd_325) pd_Tr_add ⟨Nat.le_of_ble_eq_true rfl, Nat.le_of_ble_eq_true rfl⟩, hm wd_326, hm wd_327⟩ d_Fc_transition_70, ?_⟩
  refine List.forall_mem_cons.mpr ⟨fs_ret hC hr d_Fc_transition_73, ?_⟩
  exact fun _ h => absurd h List.not_mem_nil
abbrev rm_Fc_order : Room := { frames := 1, cells := 0, slots := 0, locals := 24 }
def ws_Fc_order : List Cond := .code y_Fc_order c_Fc_order 4 (some .int) :: TB
abbrev MC_Fc_order (κ : fx_K) : List fx_V → fx_S → (Int32 → fx_S → Prop) → Prop := fx_Met κ.1 κ.2.1 vwCl κ.2.2.1 κ.2.2.2 lyX nwl y_Fc_order ws_Fc_order rm_Fc_order true
def tt_Fc_order (κ : fx_K) (post : Int32 → fx_S → Prop) : List (Nat × fx_M fx_S) := [(0, fm_loada 0 1),
  (1, fm_get 0 7 4),
  (4, fm_ifne 29 7),
  (7, fm_loada 0 8),
  (8, fm_getr 0 4 11),
  (11, fm_get 4 3 14),
  (14, fm_const 4 15),
  (15, fm_cmpeq 29 18),
  (18, fm_loada 0 19),
  (19, fm_getr 0 1 22),
  (22, fm_load 1 23),
  (23, fm_call true 1 1 (MC_St_has κ) 26),
  (26, fm_ifne 32 29),
  (29, fm_const (-2) 31),
  (31, fm_ret post),
  (32, fm_load 2 33),
  (33, fm_loada 0 34),
  (34, fm_getr 0 1 37),
  (37, fm_getr 1 8 40),
  (40, fm_load 1 41),
  (41, fm_ald lnXI 42),
  (42, fm_cmple 50 45),
  (45, fm_load 2 46),
  (46, fm_const 3 47),
  (47, fm_cmplt 53 50),
  (50, fm_const (-2) 52),
  (52, fm_ret post),
  (53, fm_load 3 54),
  (54, fm_const (-1) 55),
  (55, fm_cmpeq 77 58),
  (58, fm_load 3 59),
  (59, fm_loada 0 60),
  (60, fm_getr 0 1 63),
  (63, fm_getr 1 9 66),
  (66, fm_load 2 67),
  (67, fm_ald lnXI 68),
  (68, fm_const (-1) 69),
  (69, fm_ixor 70),
  (70, fm_iand 71),
  (71, fm_ifeq 77 74),
  (74, fm_const (-2) 76),
  (76, fm_ret post),
  (77, fm_loada 0 78),
  (78, fm_getr 0 4 81),
  (81, fm_load 1 82),
  (82, fm_load 2 83),
  (83, fm_load 3 84),
  (84, fm_call true 4 3 (MC_Or_add κ) 87),
  (87, fm_ret post)]
set_option maxHeartbeats 4000000 in
set_option maxRecDepth 100000 in
theorem mo_Fc_order {κ : fx_K} (hq : fx_I κ lyX.length) {av : List fx_V} {S : fx_S} {post : Int32 → fx_S → Prop} (hlen : av.length ≤ 4) (body : ∀ J : fx_J fx_S, (∀ r ∈ tt_Fc_order κ post, fx_Snd J r.1 r.2) → (∀ pc k ls st S, J pc (ls.take k) st S → J pc ls st S) → J 0 av [] S) : MC_Fc_order κ av S post := by
  refine fx_Met_of (cc := c_Fc_order) (nL := 4) (ret := (some .int)) (by decide) rfl hq hlen ?_
  intro p e s m args below meth c hC hr hnw
  refine body _ ?_ fx_W_take
  have hF := hC.1
  have hts := hC.1.2.2.2.2
  have hm : ∀ {w : Cond}, w ∈ TB → w.before args s = true := fun h => hts _ (List.mem_cons_of_mem _ h)
  have g55 : ∀ (Q : State → Prop) (pc : Nat), decode c_Fc_order pc = .ok (.getfield 55, 3) → fx_Snd (fx_W p κ.1 e rm_Fc_order s m args below meth c Q (fx_A κ.2.2.2 lyX.length) 0 0 (fx_P κ.2.1 vwCl κ.2.2.1 κ.2.2.2 lyX) κ.2.2.2 4) pc (fm_get 0 7 (pc + 3)) := fun Q pc hd => fs_get hC (cN := 0) (j := 7) (ci := 0) (C := R_Fc) (T := T_Fc) (N := 17) rfl rfl rfl (by decide) (fun w h => List.mem_cons_of_mem _ (in_Fc w h)) (hm wd_225) hd
  have g33 : ∀ (Q : State → Prop) (pc : Nat), decode c_Fc_order pc = .ok (.getfield 33, 3) → fx_Snd (fx_W p κ.1 e rm_Fc_order s m args below meth c Q (fx_A κ.2.2.2 lyX.length) 0 0 (fx_P κ.2.1 vwCl κ.2.2.1 κ.2.2.2 lyX) κ.2.2.2 4) pc (fm_getr 0 4 (pc + 3)) := fun Q pc hd => fs_getr hC (cN := 0) (j := 3) (ci := 0) (C := R_Fc) (T := T_Fc) (N := 17) rfl rfl rfl (by decide) (fun w h => List.mem_cons_of_mem _ (in_Fc w h)) (hm wd_221) hd
  have g87 : ∀ (Q : State → Prop) (pc : Nat), decode c_Fc_order pc = .ok (.getfield 87, 3) → fx_Snd (fx_W p κ.1 e rm_Fc_order s m args below meth c Q (fx_A κ.2.2.2 lyX.length) 0 0 (fx_P κ.2.1 vwCl κ.2.2.1 κ.2.2.2 lyX) κ.2.2.2 4) pc (fm_get 4 3 (pc + 3)) := fun Q pc hd => fs_getN hC (cN := 4) (j := 3) (ci := 4) (C := R_Or) (T := T_Or) (N := 4) rfl rfl rfl (by decide) (fun w h => List.mem_cons_of_mem _ (in_Or w h)) (hnw _ (List.mem_of_getElem? (i := 11) rfl)) hd
  have g10 : ∀ (Q : State → Prop) (pc : Nat), decode c_Fc_order pc = .ok (.getfield 10, 3) → fx_Snd (fx_W p κ.1 e rm_Fc_order s m args below meth c Q (fx_A κ.2.2.2 lyX.length) 0 0 (fx_P κ.2.1 vwCl κ.2.2.1 κ.2.2.2 lyX) κ.2.2.2 4) pc (fm_getr 0 1 (pc + 3)) := fun Q pc hd => fs_getr hC (cN := 0) (j := 0) (ci := 0) (C := R_Fc) (T := T_Fc) (N := 17) rfl rfl rfl (by decide) (fun w h => List.mem_cons_of_mem _ (in_Fc w h)) (hm wd_218) hd
  have g89 : ∀ (Q : State → Prop) (pc : Nat), decode c_Fc_order pc = .ok (.getfield 89, 3) → fx_Snd (fx_W p κ.1 e rm_Fc_order s m args below meth c Q (fx_A κ.2.2.2 lyX.length) 0 0 (fx_P κ.2.1 vwCl κ.2.2.1 κ.2.2.2 lyX) κ.2.2.2 4) pc (fm_getr 1 8 (pc + 3)) := fun Q pc hd => fs_getrN hC (cN := 1) (j := 0) (ci := 1) (C := R_St) (T := T_St) (N := 4) rfl rfl rfl (by decide) (fun w h => List.mem_cons_of_mem _ (in_St w h)) (hnw _ (List.mem_of_getElem? (i := 1) rfl)) hd
  have g92 : ∀ (Q : State → Prop) (pc : Nat), decode c_Fc_order pc = .ok (.getfield 92, 3) → fx_Snd (fx_W p κ.1 e rm_Fc_order s m args below meth c Q (fx_A κ.2.2.2 lyX.length) 0 0 (fx_P κ.2.1 vwCl κ.2.2.1 κ.2.2.2 lyX) κ.2.2.2 4) pc (fm_getr 1 9 (pc + 3)) := fun Q pc hd => fs_getrN hC (cN := 1) (j := 1) (ci := 1) (C := R_St) (T := T_St) (N := 4) rfl rfl rfl (by decide) (fun w h => List.mem_cons_of_mem _ (in_St w h)) (hnw _ (List.mem_of_getElem? (i := 2) rfl)) hd
  refine List.forall_mem_cons.mpr ⟨fs_loada_n hF d_Fc_order_0 rfl, ?_⟩
  refine List.forall_mem_cons.mpr ⟨g55 _ 1 d_Fc_order_1, ?_⟩
  refine List.forall_mem_cons.mpr ⟨fs_ifne hF d_Fc_order_4 (by decide), ?_⟩
  refine List.forall_mem_cons.mpr ⟨fs_loada_n hF d_Fc_order_7 rfl, ?_⟩
  refine List.forall_mem_cons.mpr ⟨g33 _ 8 d_Fc_order_8, ?_⟩
  refine List.forall_mem_cons.mpr ⟨g87 _ 11 d_Fc_order_11, ?_⟩
  refine List.forall_mem_cons.mpr ⟨fs_const hF d_Fc_order_14 (by decide), ?_⟩
  refine List.forall_mem_cons.mpr ⟨fs_cmpeq hF d_Fc_order_15 (by decide), ?_⟩
  refine List.forall_mem_cons.mpr ⟨fs_loada_n hF d_Fc_order_18 rfl, ?_⟩
  refine List.forall_mem_cons.mpr ⟨g10 _ 19 d_Fc_order_19, ?_⟩
  refine List.forall_mem_cons.mpr ⟨fs_load_n hF d_Fc_order_22 rfl, ?_⟩
  refine List.forall_mem_cons.mpr ⟨fs_callV hC nwl_ok hnw (cN := 1) (ci := 1) (C := R_St) rfl rfl ⟨callB_of 1 hts (tb_good wd_292) rfl rfl rfl (hm wd_33) (hm wd_333) pd_St_has ⟨Nat.le_of_ble_eq_true rfl, Nat.le_of_ble_eq_true rfl⟩, hm wd_290, hm wd_291⟩ d_Fc_order_23, ?_⟩
  refine List.forall_mem_cons.mpr ⟨fs_ifne hF d_Fc_order_26 (by decide), ?_⟩
  refine List.forall_mem_cons.mpr ⟨fs_bipush hF d_Fc_order_29 (by decide), ?_⟩
  refine List.forall_mem_cons.mpr ⟨fs_ret hC hr d_Fc_order_31, ?_⟩
  refine List.forall_mem_cons.mpr ⟨fs_load_n hF d_Fc_order_32 rfl, ?_⟩
  refine List.forall_mem_cons.mpr ⟨fs_loada_n hF d_Fc_order_33 rfl, ?_⟩
  refine List.forall_mem_cons.mpr ⟨g10 _ 34 d_Fc_order_34, ?_⟩
  refine List.forall_mem_cons.mpr ⟨g89 _ 37 d_Fc_order_37, ?_⟩
  refine List.forall_mem_cons.mpr ⟨fs_load_n hF d_Fc_order_40 rfl, ?_⟩
  refine List.forall_mem_cons.mpr ⟨fs_ald hC lkXI d_Fc_order_41, ?_⟩
  refine List.forall_mem_cons.mpr ⟨fs_cmple hF d_Fc_order_42 (by decide), ?_⟩
  refine List.forall_mem_cons.mpr ⟨fs_load_n hF d_Fc_order_45 rfl, ?_⟩
  refine List.forall_mem_cons.mpr ⟨fs_const hF d_Fc_order_46 (by decide), ?_⟩
  refine List.forall_mem_cons.mpr ⟨fs_cmplt hF d_Fc_order_47 (by decide), ?_⟩
  refine List.forall_mem_cons.mpr ⟨fs_bipush hF d_Fc_order_50 (by decide), ?_⟩
  refine List.forall_mem_cons.mpr ⟨fs_ret hC hr d_Fc_order_52, ?_⟩
  refine List.forall_mem_cons.mpr ⟨fs_load_n hF d_Fc_order_53 rfl, ?_⟩
  refine List.forall_mem_cons.mpr ⟨fs_const hF d_Fc_order_54 (by decide), ?_⟩
  refine List.forall_mem_cons.mpr ⟨fs_cmpeq hF d_Fc_order_55 (by decide), ?_⟩
  refine List.forall_mem_cons.mpr ⟨fs_load_n hF d_Fc_order_58 rfl, ?_⟩
  refine List.forall_mem_cons.mpr ⟨fs_loada_n hF d_Fc_order_59 rfl, ?_⟩
  refine List.forall_mem_cons.mpr ⟨g10 _ 60 d_Fc_order_60, ?_⟩
  refine List.forall_mem_cons.mpr ⟨g92 _ 63 d_Fc_order_63, ?_⟩
  refine List.forall_mem_cons.mpr ⟨fs_load_n hF d_Fc_order_66 rfl, ?_⟩
  refine List.forall_mem_cons.mpr ⟨fs_ald hC lkXI d_Fc_order_67, ?_⟩
  refine List.forall_mem_cons.mpr ⟨fs_const hF d_Fc_order_68 (by decide), ?_⟩
  refine List.forall_mem_cons.mpr ⟨fs_ixor hF d_Fc_order_69, ?_⟩
  refine List.forall_mem_cons.mpr ⟨fs_iand hF d_Fc_order_70, ?_⟩
  refine List.forall_mem_cons.mpr ⟨fs_ifeq hF d_Fc_order_71 (by decide), ?_⟩
  refine List.forall_mem_cons.mpr ⟨fs_bipush hF d_Fc_order_74 (by decide), ?_⟩
  refine List.forall_mem_cons.mpr ⟨fs_ret hC hr d_Fc_order_76, ?_⟩
  refine List.forall_mem_cons.mpr ⟨fs_loada_n hF d_Fc_order_77 rfl, ?_⟩
  refine List.forall_mem_cons.mpr ⟨g33 _ 78 d_Fc_order_78, ?_⟩
  refine List.forall_mem_cons.mpr ⟨fs_load_n hF d_Fc_order_81 rfl, ?_⟩
  refine List.forall_mem_cons.mpr ⟨fs_load_n hF d_Fc_order_82 rfl, ?_⟩
  refine List.forall_mem_cons.mpr ⟨fs_load_n hF d_Fc_order_83 rfl, ?_⟩
  refine List.forall_mem_cons.mpr ⟨fs_callV hC nwl_ok hnw (cN := 4) (ci := 4) (C := R_Or) rfl rfl ⟨callB_of 3 hts (tb_good wd_337) rfl rfl rfl (hm wd_36) (hm wd_334) pd_Or_add ⟨Nat.le_of_ble_eq_true rfl, Nat.le_of_ble_eq_true rfl⟩, hm wd_335, hm wd_336⟩ d_Fc_order_84, ?_⟩
  refine List.forall_mem_cons.mpr ⟨fs_ret hC hr d_Fc_order_87, ?_⟩
  exact fun _ h => absurd h List.not_mem_nil
abbrev rm_Fc_action : Room := { frames := 1, cells := 0, slots := 0, locals := 25 }
def ws_Fc_action : List Cond := .code y_Fc_action c_Fc_action 5 (some .int) :: TB
abbrev MC_Fc_action (κ : fx_K) : List fx_V → fx_S → (Int32 → fx_S → Prop) → Prop := fx_Met κ.1 κ.2.1 vwCl κ.2.2.1 κ.2.2.2 lyX nwl y_Fc_action ws_Fc_action rm_Fc_action true
def tt_Fc_action (κ : fx_K) (post : Int32 → fx_S → Prop) : List (Nat × fx_M fx_S) := [(0, fm_loada 0 1),
  (1, fm_get 0 7 4),
  (4, fm_ifne 30 7),
  (7, fm_loada 0 8),
  (8, fm_getr 0 5 11),
  (11, fm_get 5 5 14),
  (14, fm_const 12 16),
  (16, fm_cmpeq 30 19),
  (19, fm_loada 0 20),
  (20, fm_getr 0 1 23),
  (23, fm_load 1 24),
  (24, fm_call true 1 1 (MC_St_has κ) 27),
  (27, fm_ifne 33 30),
  (30, fm_const (-2) 32),
  (32, fm_ret post),
  (33, fm_load 2 34),
  (34, fm_calls true 1 (MC_Ac_isQualifier κ) 37),
  (37, fm_ifeq 55 40),
  (40, fm_load 3 41),
  (41, fm_calls true 1 (MC_Fc_isLine κ) 44),
  (44, fm_ifeq 55 47),
  (47, fm_load 4 49),
  (49, fm_calls true 1 (MC_Fc_isSpan κ) 52),
  (52, fm_ifne 58 55),
  (55, fm_const (-2) 57),
  (57, fm_ret post),
  (58, fm_loada 0 59),
  (59, fm_getr 0 5 62),
  (62, fm_load 1 63),
  (63, fm_load 2 64),
  (64, fm_load 3 65),
  (65, fm_load 4 67),
  (67, fm_call true 5 4 (MC_Ac_add κ) 70),
  (70, fm_ret post)]
set_option maxHeartbeats 4000000 in
set_option maxRecDepth 100000 in
theorem mo_Fc_action {κ : fx_K} (hq : fx_I κ lyX.length) {av : List fx_V} {S : fx_S} {post : Int32 → fx_S → Prop} (hlen : av.length ≤ 5) (body : ∀ J : fx_J fx_S, (∀ r ∈ tt_Fc_action κ post, fx_Snd J r.1 r.2) → (∀ pc k ls st S, J pc (ls.take k) st S → J pc ls st S) → J 0 av [] S) : MC_Fc_action κ av S post := by
  refine fx_Met_of (cc := c_Fc_action) (nL := 5) (ret := (some .int)) (by decide) rfl hq hlen ?_
  intro p e s m args below meth c hC hr hnw
  refine body _ ?_ fx_W_take
  have hF := hC.1
  have hts := hC.1.2.2.2.2
  have hm : ∀ {w : Cond}, w ∈ TB → w.before args s = true := fun h => hts _ (List.mem_cons_of_mem _ h)
  have g55 : ∀ (Q : State → Prop) (pc : Nat), decode c_Fc_action pc = .ok (.getfield 55, 3) → fx_Snd (fx_W p κ.1 e rm_Fc_action s m args below meth c Q (fx_A κ.2.2.2 lyX.length) 0 0 (fx_P κ.2.1 vwCl κ.2.2.1 κ.2.2.2 lyX) κ.2.2.2 5) pc (fm_get 0 7 (pc + 3)) := fun Q pc hd => fs_get hC (cN := 0) (j := 7) (ci := 0) (C := R_Fc) (T := T_Fc) (N := 17) rfl rfl rfl (by decide) (fun w h => List.mem_cons_of_mem _ (in_Fc w h)) (hm wd_225) hd
  have g40 : ∀ (Q : State → Prop) (pc : Nat), decode c_Fc_action pc = .ok (.getfield 40, 3) → fx_Snd (fx_W p κ.1 e rm_Fc_action s m args below meth c Q (fx_A κ.2.2.2 lyX.length) 0 0 (fx_P κ.2.1 vwCl κ.2.2.1 κ.2.2.2 lyX) κ.2.2.2 5) pc (fm_getr 0 5 (pc + 3)) := fun Q pc hd => fs_getr hC (cN := 0) (j := 4) (ci := 0) (C := R_Fc) (T := T_Fc) (N := 17) rfl rfl rfl (by decide) (fun w h => List.mem_cons_of_mem _ (in_Fc w h)) (hm wd_222) hd
  have g96 : ∀ (Q : State → Prop) (pc : Nat), decode c_Fc_action pc = .ok (.getfield 96, 3) → fx_Snd (fx_W p κ.1 e rm_Fc_action s m args below meth c Q (fx_A κ.2.2.2 lyX.length) 0 0 (fx_P κ.2.1 vwCl κ.2.2.1 κ.2.2.2 lyX) κ.2.2.2 5) pc (fm_get 5 5 (pc + 3)) := fun Q pc hd => fs_getN hC (cN := 5) (j := 5) (ci := 5) (C := R_Ac) (T := T_Ac) (N := 7) rfl rfl rfl (by decide) (fun w h => List.mem_cons_of_mem _ (in_Ac w h)) (hnw _ (List.mem_of_getElem? (i := 13) rfl)) hd
  have g10 : ∀ (Q : State → Prop) (pc : Nat), decode c_Fc_action pc = .ok (.getfield 10, 3) → fx_Snd (fx_W p κ.1 e rm_Fc_action s m args below meth c Q (fx_A κ.2.2.2 lyX.length) 0 0 (fx_P κ.2.1 vwCl κ.2.2.1 κ.2.2.2 lyX) κ.2.2.2 5) pc (fm_getr 0 1 (pc + 3)) := fun Q pc hd => fs_getr hC (cN := 0) (j := 0) (ci := 0) (C := R_Fc) (T := T_Fc) (N := 17) rfl rfl rfl (by decide) (fun w h => List.mem_cons_of_mem _ (in_Fc w h)) (hm wd_218) hd
  refine List.forall_mem_cons.mpr ⟨fs_loada_n hF d_Fc_action_0 rfl, ?_⟩
  refine List.forall_mem_cons.mpr ⟨g55 _ 1 d_Fc_action_1, ?_⟩
  refine List.forall_mem_cons.mpr ⟨fs_ifne hF d_Fc_action_4 (by decide), ?_⟩
  refine List.forall_mem_cons.mpr ⟨fs_loada_n hF d_Fc_action_7 rfl, ?_⟩
  refine List.forall_mem_cons.mpr ⟨g40 _ 8 d_Fc_action_8, ?_⟩
  refine List.forall_mem_cons.mpr ⟨g96 _ 11 d_Fc_action_11, ?_⟩
  refine List.forall_mem_cons.mpr ⟨fs_bipush hF d_Fc_action_14 (by decide), ?_⟩
  refine List.forall_mem_cons.mpr ⟨fs_cmpeq hF d_Fc_action_16 (by decide), ?_⟩
  refine List.forall_mem_cons.mpr ⟨fs_loada_n hF d_Fc_action_19 rfl, ?_⟩
  refine List.forall_mem_cons.mpr ⟨g10 _ 20 d_Fc_action_20, ?_⟩
  refine List.forall_mem_cons.mpr ⟨fs_load_n hF d_Fc_action_23 rfl, ?_⟩
  refine List.forall_mem_cons.mpr ⟨fs_callV hC nwl_ok hnw (cN := 1) (ci := 1) (C := R_St) rfl rfl ⟨callB_of 1 hts (tb_good wd_292) rfl rfl rfl (hm wd_33) (hm wd_333) pd_St_has ⟨Nat.le_of_ble_eq_true rfl, Nat.le_of_ble_eq_true rfl⟩, hm wd_290, hm wd_291⟩ d_Fc_action_24, ?_⟩
  refine List.forall_mem_cons.mpr ⟨fs_ifne hF d_Fc_action_27 (by decide), ?_⟩
  refine List.forall_mem_cons.mpr ⟨fs_bipush hF d_Fc_action_30 (by decide), ?_⟩
  refine List.forall_mem_cons.mpr ⟨fs_ret hC hr d_Fc_action_32, ?_⟩
  refine List.forall_mem_cons.mpr ⟨fs_load_n hF d_Fc_action_33 rfl, ?_⟩
  refine List.forall_mem_cons.mpr ⟨fs_callS hC nwl_ok hnw ⟨callB_of 1 hts (tb_good wd_344) rfl rfl rfl (hm wd_37) (hm wd_342) pd_Ac_isQualifier ⟨Nat.le_of_ble_eq_true rfl, Nat.le_of_ble_eq_true rfl⟩, hm wd_343⟩ d_Fc_action_34, ?_⟩
  refine List.forall_mem_cons.mpr ⟨fs_ifeq hF d_Fc_action_37 (by decide), ?_⟩
  refine List.forall_mem_cons.mpr ⟨fs_load_n hF d_Fc_action_40 rfl, ?_⟩
  refine List.forall_mem_cons.mpr ⟨fs_callS hC nwl_ok hnw ⟨callB_of 1 hts (tb_good wd_288) rfl rfl rfl (hm wd_32) (hm wd_345) pd_Fc_isLine ⟨Nat.le_of_ble_eq_true rfl, Nat.le_of_ble_eq_true rfl⟩, hm wd_287⟩ d_Fc_action_41, ?_⟩
  refine List.forall_mem_cons.mpr ⟨fs_ifeq hF d_Fc_action_44 (by decide), ?_⟩
  refine List.forall_mem_cons.mpr ⟨fs_load hF d_Fc_action_47, ?_⟩
  refine List.forall_mem_cons.mpr ⟨fs_callS hC nwl_ok hnw ⟨callB_of 1 hts (tb_good wd_295) rfl rfl rfl (hm wd_32) (hm wd_346) pd_Fc_isSpan ⟨Nat.le_of_ble_eq_true rfl, Nat.le_of_ble_eq_true rfl⟩, hm wd_294⟩ d_Fc_action_49, ?_⟩
  refine List.forall_mem_cons.mpr ⟨fs_ifne hF d_Fc_action_52 (by decide), ?_⟩
  refine List.forall_mem_cons.mpr ⟨fs_bipush hF d_Fc_action_55 (by decide), ?_⟩
  refine List.forall_mem_cons.mpr ⟨fs_ret hC hr d_Fc_action_57, ?_⟩
  refine List.forall_mem_cons.mpr ⟨fs_loada_n hF d_Fc_action_58 rfl, ?_⟩
  refine List.forall_mem_cons.mpr ⟨g40 _ 59 d_Fc_action_59, ?_⟩
  refine List.forall_mem_cons.mpr ⟨fs_load_n hF d_Fc_action_62 rfl, ?_⟩
  refine List.forall_mem_cons.mpr ⟨fs_load_n hF d_Fc_action_63 rfl, ?_⟩
  refine List.forall_mem_cons.mpr ⟨fs_load_n hF d_Fc_action_64 rfl, ?_⟩
  refine List.forall_mem_cons.mpr ⟨fs_load hF d_Fc_action_65, ?_⟩
  refine List.forall_mem_cons.mpr ⟨fs_callV hC nwl_ok hnw (cN := 5) (ci := 5) (C := R_Ac) rfl rfl ⟨callB_of 4 hts (tb_good wd_350) rfl rfl rfl (hm wd_37) (hm wd_347) pd_Ac_add ⟨Nat.le_of_ble_eq_true rfl, Nat.le_of_ble_eq_true rfl⟩, hm wd_348, hm wd_349⟩ d_Fc_action_67, ?_⟩
  refine List.forall_mem_cons.mpr ⟨fs_ret hC hr d_Fc_action_70, ?_⟩
  exact fun _ h => absurd h List.not_mem_nil
abbrev rm_Fc_unreached : Room := { frames := 3, cells := 0, slots := 0, locals := 66 }
def ws_Fc_unreached : List Cond := .code y_Fc_unreached c_Fc_unreached 3 (some .int) :: TB
abbrev MC_Fc_unreached (κ : fx_K) : List fx_V → fx_S → (Int32 → fx_S → Prop) → Prop := fx_Met κ.1 κ.2.1 vwCl κ.2.2.1 κ.2.2.2 lyX nwl y_Fc_unreached ws_Fc_unreached rm_Fc_unreached true
def tt_Fc_unreached (κ : fx_K) (post : Int32 → fx_S → Prop) : List (Nat × fx_M fx_S) := [(0, fm_loada 0 1),
  (1, fm_getr 0 1 4),
  (4, fm_get 1 3 7),
  (7, fm_store 1 8),
  (8, fm_const 0 9),
  (9, fm_store 2 10),
  (10, fm_load 2 11),
  (11, fm_const 8 13),
  (13, fm_cmpge 49 16),
  (16, fm_load 1 17),
  (17, fm_loada 0 18),
  (18, fm_getr 0 3 21),
  (21, fm_loada 0 22),
  (22, fm_getr 0 3 25),
  (25, fm_load 1 26),
  (26, fm_call true 3 1 (MC_Tr_enabledIn κ) 29),
  (29, fm_call true 3 1 (MC_Tr_succeeding κ) 32),
  (32, fm_loada 0 33),
  (33, fm_getr 0 4 36),
  (36, fm_load 1 37),
  (37, fm_call true 4 1 (MC_Or_fixedBy κ) 40),
  (40, fm_ior 41),
  (41, fm_ior 42),
  (42, fm_store 1 43),
  (43, fm_inc 2 1 46),
  (46, fm_goto 10),
  (49, fm_loada 0 50),
  (50, fm_getr 0 1 53),
  (53, fm_call true 1 0 (MC_St_all κ) 56),
  (56, fm_load 1 57),
  (57, fm_const (-1) 58),
  (58, fm_ixor 59),
  (59, fm_iand 60),
  (60, fm_ret post)]
set_option maxHeartbeats 4000000 in
set_option maxRecDepth 100000 in
theorem mo_Fc_unreached {κ : fx_K} (hq : fx_I κ lyX.length) {av : List fx_V} {S : fx_S} {post : Int32 → fx_S → Prop} (hlen : av.length ≤ 3) (body : ∀ J : fx_J fx_S, (∀ r ∈ tt_Fc_unreached κ post, fx_Snd J r.1 r.2) → (∀ pc k ls st S, J pc (ls.take k) st S → J pc ls st S) → J 0 av [] S) : MC_Fc_unreached κ av S post := by
  refine fx_Met_of (cc := c_Fc_unreached) (nL := 3) (ret := (some .int)) (by decide) rfl hq hlen ?_
  intro p e s m args below meth c hC hr hnw
  refine body _ ?_ fx_W_take
  have hF := hC.1
  have hts := hC.1.2.2.2.2
  have hm : ∀ {w : Cond}, w ∈ TB → w.before args s = true := fun h => hts _ (List.mem_cons_of_mem _ h)
  have g10 : ∀ (Q : State → Prop) (pc : Nat), decode c_Fc_unreached pc = .ok (.getfield 10, 3) → fx_Snd (fx_W p κ.1 e rm_Fc_unreached s m args below meth c Q (fx_A κ.2.2.2 lyX.length) 0 0 (fx_P κ.2.1 vwCl κ.2.2.1 κ.2.2.2 lyX) κ.2.2.2 3) pc (fm_getr 0 1 (pc + 3)) := fun Q pc hd => fs_getr hC (cN := 0) (j := 0) (ci := 0) (C := R_Fc) (T := T_Fc) (N := 17) rfl rfl rfl (by decide) (fun w h => List.mem_cons_of_mem _ (in_Fc w h)) (hm wd_218) hd
  have g107 : ∀ (Q : State → Prop) (pc : Nat), decode c_Fc_unreached pc = .ok (.getfield 107, 3) → fx_Snd (fx_W p κ.1 e rm_Fc_unreached s m args below meth c Q (fx_A κ.2.2.2 lyX.length) 0 0 (fx_P κ.2.1 vwCl κ.2.2.1 κ.2.2.2 lyX) κ.2.2.2 3) pc (fm_get 1 3 (pc + 3)) := fun Q pc hd => fs_getN hC (cN := 1) (j := 3) (ci := 1) (C := R_St) (T := T_St) (N := 4) rfl rfl rfl (by decide) (fun w h => List.mem_cons_of_mem _ (in_St w h)) (hnw _ (List.mem_of_getElem? (i := 4) rfl)) hd
  have g26 : ∀ (Q : State → Prop) (pc : Nat), decode c_Fc_unreached pc = .ok (.getfield 26, 3) → fx_Snd (fx_W p κ.1 e rm_Fc_unreached s m args below meth c Q (fx_A κ.2.2.2 lyX.length) 0 0 (fx_P κ.2.1 vwCl κ.2.2.1 κ.2.2.2 lyX) κ.2.2.2 3) pc (fm_getr 0 3 (pc + 3)) := fun Q pc hd => fs_getr hC (cN := 0) (j := 2) (ci := 0) (C := R_Fc) (T := T_Fc) (N := 17) rfl rfl rfl (by decide) (fun w h => List.mem_cons_of_mem _ (in_Fc w h)) (hm wd_220) hd
  have g33 : ∀ (Q : State → Prop) (pc : Nat), decode c_Fc_unreached pc = .ok (.getfield 33, 3) → fx_Snd (fx_W p κ.1 e rm_Fc_unreached s m args below meth c Q (fx_A κ.2.2.2 lyX.length) 0 0 (fx_P κ.2.1 vwCl κ.2.2.1 κ.2.2.2 lyX) κ.2.2.2 3) pc (fm_getr 0 4 (pc + 3)) := fun Q pc hd => fs_getr hC (cN := 0) (j := 3) (ci := 0) (C := R_Fc) (T := T_Fc) (N := 17) rfl rfl rfl (by decide) (fun w h => List.mem_cons_of_mem _ (in_Fc w h)) (hm wd_221) hd
  refine List.forall_mem_cons.mpr ⟨fs_loada_n hF d_Fc_unreached_0 rfl, ?_⟩
  refine List.forall_mem_cons.mpr ⟨g10 _ 1 d_Fc_unreached_1, ?_⟩
  refine List.forall_mem_cons.mpr ⟨g107 _ 4 d_Fc_unreached_4, ?_⟩
  refine List.forall_mem_cons.mpr ⟨fs_store_n hF d_Fc_unreached_7 rfl (by decide), ?_⟩
  refine List.forall_mem_cons.mpr ⟨fs_const hF d_Fc_unreached_8 (by decide), ?_⟩
  refine List.forall_mem_cons.mpr ⟨fs_store_n hF d_Fc_unreached_9 rfl (by decide), ?_⟩
  refine List.forall_mem_cons.mpr ⟨fs_load_n hF d_Fc_unreached_10 rfl, ?_⟩
  refine List.forall_mem_cons.mpr ⟨fs_bipush hF d_Fc_unreached_11 (by decide), ?_⟩
  refine List.forall_mem_cons.mpr ⟨fs_cmpge hF d_Fc_unreached_13 (by decide), ?_⟩
  refine List.forall_mem_cons.mpr ⟨fs_load_n hF d_Fc_unreached_16 rfl, ?_⟩
  refine List.forall_mem_cons.mpr ⟨fs_loada_n hF d_Fc_unreached_17 rfl, ?_⟩
  refine List.forall_mem_cons.mpr ⟨g26 _ 18 d_Fc_unreached_18, ?_⟩
  refine List.forall_mem_cons.mpr ⟨fs_loada_n hF d_Fc_unreached_21 rfl, ?_⟩
  refine List.forall_mem_cons.mpr ⟨g26 _ 22 d_Fc_unreached_22, ?_⟩
  refine List.forall_mem_cons.mpr ⟨fs_load_n hF d_Fc_unreached_25 rfl, ?_⟩
  refine List.forall_mem_cons.mpr ⟨fs_callV hC nwl_ok hnw (cN := 3) (ci := 3) (C := R_Tr) rfl rfl ⟨callB_of 1 hts (tb_good wd_358) rfl rfl rfl (hm wd_35) (hm wd_355) pd_Tr_enabledIn ⟨Nat.le_of_ble_eq_true rfl, Nat.le_of_ble_eq_true rfl⟩, hm wd_356, hm wd_357⟩ d_Fc_unreached_26, ?_⟩
  refine List.forall_mem_cons.mpr ⟨fs_callV hC nwl_ok hnw (cN := 3) (ci := 3) (C := R_Tr) rfl rfl ⟨callB_of 1 hts (tb_good wd_362) rfl rfl rfl (hm wd_35) (hm wd_359) pd_Tr_succeeding ⟨Nat.le_of_ble_eq_true rfl, Nat.le_of_ble_eq_true rfl⟩, hm wd_360, hm wd_361⟩ d_Fc_unreached_29, ?_⟩
  refine List.forall_mem_cons.mpr ⟨fs_loada_n hF d_Fc_unreached_32 rfl, ?_⟩
  refine List.forall_mem_cons.mpr ⟨g33 _ 33 d_Fc_unreached_33, ?_⟩
  refine List.forall_mem_cons.mpr ⟨fs_load_n hF d_Fc_unreached_36 rfl, ?_⟩
  refine List.forall_mem_cons.mpr ⟨fs_callV hC nwl_ok hnw (cN := 4) (ci := 4) (C := R_Or) rfl rfl ⟨callB_of 1 hts (tb_good wd_373) rfl rfl rfl (hm wd_36) (hm wd_370) pd_Or_fixedBy ⟨Nat.le_of_ble_eq_true rfl, Nat.le_of_ble_eq_true rfl⟩, hm wd_371, hm wd_372⟩ d_Fc_unreached_37, ?_⟩
  refine List.forall_mem_cons.mpr ⟨fs_ior hF d_Fc_unreached_40, ?_⟩
  refine List.forall_mem_cons.mpr ⟨fs_ior hF d_Fc_unreached_41, ?_⟩
  refine List.forall_mem_cons.mpr ⟨fs_store_n hF d_Fc_unreached_42 rfl (by decide), ?_⟩
  refine List.forall_mem_cons.mpr ⟨fs_inc hF d_Fc_unreached_43 (by decide) (by decide), ?_⟩
  refine List.forall_mem_cons.mpr ⟨fs_goto hF d_Fc_unreached_46 (by decide), ?_⟩
  refine List.forall_mem_cons.mpr ⟨fs_loada_n hF d_Fc_unreached_49 rfl, ?_⟩
  refine List.forall_mem_cons.mpr ⟨g10 _ 50 d_Fc_unreached_50, ?_⟩
  refine List.forall_mem_cons.mpr ⟨fs_callV hC nwl_ok hnw (cN := 1) (ci := 1) (C := R_St) rfl rfl ⟨callB_of 0 hts (tb_good wd_382) rfl rfl rfl (hm wd_33) (hm wd_379) pd_St_all ⟨Nat.le_of_ble_eq_true rfl, Nat.le_of_ble_eq_true rfl⟩, hm wd_380, hm wd_381⟩ d_Fc_unreached_53, ?_⟩
  refine List.forall_mem_cons.mpr ⟨fs_load_n hF d_Fc_unreached_56 rfl, ?_⟩
  refine List.forall_mem_cons.mpr ⟨fs_const hF d_Fc_unreached_57 (by decide), ?_⟩
  refine List.forall_mem_cons.mpr ⟨fs_ixor hF d_Fc_unreached_58, ?_⟩
  refine List.forall_mem_cons.mpr ⟨fs_iand hF d_Fc_unreached_59, ?_⟩
  refine List.forall_mem_cons.mpr ⟨fs_ret hC hr d_Fc_unreached_60, ?_⟩
  exact fun _ h => absurd h List.not_mem_nil
abbrev rm_Fc_forgetRun : Room := { frames := 1, cells := 0, slots := 0, locals := 20 }
def ws_Fc_forgetRun : List Cond := .code y_Fc_forgetRun c_Fc_forgetRun 2 none :: TB
abbrev MC_Fc_forgetRun (κ : fx_K) : List fx_V → fx_S → (Int32 → fx_S → Prop) → Prop := fx_Met κ.1 κ.2.1 vwCl κ.2.2.1 κ.2.2.2 lyX nwl y_Fc_forgetRun ws_Fc_forgetRun rm_Fc_forgetRun false
def tt_Fc_forgetRun (κ : fx_K) (post : Int32 → fx_S → Prop) : List (Nat × fx_M fx_S) := [(0, fm_const 0 1),
  (1, fm_store 1 2),
  (2, fm_load 1 3),
  (3, fm_const 8 5),
  (5, fm_cmpge 21 8),
  (8, fm_loada 0 9),
  (9, fm_getr 0 7 12),
  (12, fm_load 1 13),
  (13, fm_const 0 14),
  (14, fm_ast lnXI 15),
  (15, fm_inc 1 1 18),
  (18, fm_goto 2),
  (21, fm_loada 0 22),
  (22, fm_getr 0 5 25),
  (25, fm_call false 5 0 (MC_Ac_forgetStored κ) 28),
  (28, fm_loada 0 29),
  (29, fm_const 0 30),
  (30, fm_put 0 9 33),
  (33, fm_loada 0 34),
  (34, fm_const 0 35),
  (35, fm_put 0 10 38),
  (38, fm_loada 0 39),
  (39, fm_const 0 40),
  (40, fm_put 0 11 43),
  (43, fm_loada 0 44),
  (44, fm_const 0 45),
  (45, fm_put 0 12 48),
  (48, fm_loada 0 49),
  (49, fm_const 0 50),
  (50, fm_put 0 13 53),
  (53, fm_loada 0 54),
  (54, fm_const 0 55),
  (55, fm_put 0 14 58),
  (58, fm_loada 0 59),
  (59, fm_const 0 60),
  (60, fm_put 0 15 63),
  (63, fm_loada 0 64),
  (64, fm_const 0 65),
  (65, fm_put 0 16 68),
  (68, fm_vret post)]
set_option maxHeartbeats 4000000 in
set_option maxRecDepth 100000 in
theorem mo_Fc_forgetRun {κ : fx_K} (hq : fx_I κ lyX.length) {av : List fx_V} {S : fx_S} {post : Int32 → fx_S → Prop} (hlen : av.length ≤ 2) (body : ∀ J : fx_J fx_S, (∀ r ∈ tt_Fc_forgetRun κ post, fx_Snd J r.1 r.2) → (∀ pc k ls st S, J pc (ls.take k) st S → J pc ls st S) → J 0 av [] S) : MC_Fc_forgetRun κ av S post := by
  refine fx_Met_of (cc := c_Fc_forgetRun) (nL := 2) (ret := none) (by decide) rfl hq hlen ?_
  intro p e s m args below meth c hC hr hnw
  refine body _ ?_ fx_W_take
  have hF := hC.1
  have hts := hC.1.2.2.2.2
  have hm : ∀ {w : Cond}, w ∈ TB → w.before args s = true := fun h => hts _ (List.mem_cons_of_mem _ h)
  have g51 : ∀ (Q : State → Prop) (pc : Nat), decode c_Fc_forgetRun pc = .ok (.getfield 51, 3) → fx_Snd (fx_W p κ.1 e rm_Fc_forgetRun s m args below meth c Q (fx_A κ.2.2.2 lyX.length) 0 0 (fx_P κ.2.1 vwCl κ.2.2.1 κ.2.2.2 lyX) κ.2.2.2 2) pc (fm_getr 0 7 (pc + 3)) := fun Q pc hd => fs_getr hC (cN := 0) (j := 6) (ci := 0) (C := R_Fc) (T := T_Fc) (N := 17) rfl rfl rfl (by decide) (fun w h => List.mem_cons_of_mem _ (in_Fc w h)) (hm wd_224) hd
  have g40 : ∀ (Q : State → Prop) (pc : Nat), decode c_Fc_forgetRun pc = .ok (.getfield 40, 3) → fx_Snd (fx_W p κ.1 e rm_Fc_forgetRun s m args below meth c Q (fx_A κ.2.2.2 lyX.length) 0 0 (fx_P κ.2.1 vwCl κ.2.2.1 κ.2.2.2 lyX) κ.2.2.2 2) pc (fm_getr 0 5 (pc + 3)) := fun Q pc hd => fs_getr hC (cN := 0) (j := 4) (ci := 0) (C := R_Fc) (T := T_Fc) (N := 17) rfl rfl rfl (by decide) (fun w h => List.mem_cons_of_mem _ (in_Fc w h)) (hm wd_222) hd
  refine List.forall_mem_cons.mpr ⟨fs_const hF d_Fc_forgetRun_0 (by decide), ?_⟩
  refine List.forall_mem_cons.mpr ⟨fs_store_n hF d_Fc_forgetRun_1 rfl (by decide), ?_⟩
  refine List.forall_mem_cons.mpr ⟨fs_load_n hF d_Fc_forgetRun_2 rfl, ?_⟩
  refine List.forall_mem_cons.mpr ⟨fs_bipush hF d_Fc_forgetRun_3 (by decide), ?_⟩
  refine List.forall_mem_cons.mpr ⟨fs_cmpge hF d_Fc_forgetRun_5 (by decide), ?_⟩
  refine List.forall_mem_cons.mpr ⟨fs_loada_n hF d_Fc_forgetRun_8 rfl, ?_⟩
  refine List.forall_mem_cons.mpr ⟨g51 _ 9 d_Fc_forgetRun_9, ?_⟩
  refine List.forall_mem_cons.mpr ⟨fs_load_n hF d_Fc_forgetRun_12 rfl, ?_⟩
  refine List.forall_mem_cons.mpr ⟨fs_const hF d_Fc_forgetRun_13 (by decide), ?_⟩
  refine List.forall_mem_cons.mpr ⟨fs_ast hC lkXI d_Fc_forgetRun_14, ?_⟩
  refine List.forall_mem_cons.mpr ⟨fs_inc hF d_Fc_forgetRun_15 (by decide) (by decide), ?_⟩
  refine List.forall_mem_cons.mpr ⟨fs_goto hF d_Fc_forgetRun_18 (by decide), ?_⟩
  refine List.forall_mem_cons.mpr ⟨fs_loada_n hF d_Fc_forgetRun_21 rfl, ?_⟩
  refine List.forall_mem_cons.mpr ⟨g40 _ 22 d_Fc_forgetRun_22, ?_⟩
  refine List.forall_mem_cons.mpr ⟨fs_callV hC nwl_ok hnw (cN := 5) (ci := 5) (C := R_Ac) rfl rfl ⟨callB_of 0 hts (tb_good wd_394) rfl rfl rfl (hm wd_37) (hm wd_391) pd_Ac_forgetStored ⟨Nat.le_of_ble_eq_true rfl, Nat.le_of_ble_eq_true rfl⟩, hm wd_392, hm wd_393⟩ d_Fc_forgetRun_25, ?_⟩
  refine List.forall_mem_cons.mpr ⟨fs_loada_n hF d_Fc_forgetRun_28 rfl, ?_⟩
  refine List.forall_mem_cons.mpr ⟨fs_const hF d_Fc_forgetRun_29 (by decide), ?_⟩
  refine List.forall_mem_cons.mpr ⟨fs_put hC (cN := 0) (j := 9) (ci := 0) (C := R_Fc) (T := T_Fc) (N := 17) rfl rfl rfl (by decide) ty_Fc tk_Fc nm_Fc rfl (by decide +kernel) (fun w h => List.mem_cons_of_mem _ (in_Fc w h)) (hm wd_227) d_Fc_forgetRun_30, ?_⟩
  refine List.forall_mem_cons.mpr ⟨fs_loada_n hF d_Fc_forgetRun_33 rfl, ?_⟩
  refine List.forall_mem_cons.mpr ⟨fs_const hF d_Fc_forgetRun_34 (by decide), ?_⟩
  refine List.forall_mem_cons.mpr ⟨fs_put hC (cN := 0) (j := 10) (ci := 0) (C := R_Fc) (T := T_Fc) (N := 17) rfl rfl rfl (by decide) ty_Fc tk_Fc nm_Fc rfl (by decide +kernel) (fun w h => List.mem_cons_of_mem _ (in_Fc w h)) (hm wd_228) d_Fc_forgetRun_35, ?_⟩
  refine List.forall_mem_cons.mpr ⟨fs_loada_n hF d_Fc_forgetRun_38 rfl, ?_⟩
  refine List.forall_mem_cons.mpr ⟨fs_const hF d_Fc_forgetRun_39 (by decide), ?_⟩
  refine List.forall_mem_cons.mpr ⟨fs_put hC (cN := 0) (j := 11) (ci := 0) (C := R_Fc) (T := T_Fc) (N := 17) rfl rfl rfl (by decide) ty_Fc tk_Fc nm_Fc rfl (by decide +kernel) (fun w h => List.mem_cons_of_mem _ (in_Fc w h)) (hm wd_229) d_Fc_forgetRun_40, ?_⟩
  refine List.forall_mem_cons.mpr ⟨fs_loada_n hF d_Fc_forgetRun_43 rfl, ?_⟩
  refine List.forall_mem_cons.mpr ⟨fs_const hF d_Fc_forgetRun_44 (by decide), ?_⟩
  refine List.forall_mem_cons.mpr ⟨fs_put hC (cN := 0) (j := 12) (ci := 0) (C := R_Fc) (T := T_Fc) (N := 17) rfl rfl rfl (by decide) ty_Fc tk_Fc nm_Fc rfl (by decide +kernel) (fun w h => List.mem_cons_of_mem _ (in_Fc w h)) (hm wd_230) d_Fc_forgetRun_45, ?_⟩
  refine List.forall_mem_cons.mpr ⟨fs_loada_n hF d_Fc_forgetRun_48 rfl, ?_⟩
  refine List.forall_mem_cons.mpr ⟨fs_const hF d_Fc_forgetRun_49 (by decide), ?_⟩
  refine List.forall_mem_cons.mpr ⟨fs_put hC (cN := 0) (j := 13) (ci := 0) (C := R_Fc) (T := T_Fc) (N := 17) rfl rfl rfl (by decide) ty_Fc tk_Fc nm_Fc rfl (by decide +kernel) (fun w h => List.mem_cons_of_mem _ (in_Fc w h)) (hm wd_231) d_Fc_forgetRun_50, ?_⟩
  refine List.forall_mem_cons.mpr ⟨fs_loada_n hF d_Fc_forgetRun_53 rfl, ?_⟩
  refine List.forall_mem_cons.mpr ⟨fs_const hF d_Fc_forgetRun_54 (by decide), ?_⟩
  refine List.forall_mem_cons.mpr ⟨fs_put hC (cN := 0) (j := 14) (ci := 0) (C := R_Fc) (T := T_Fc) (N := 17) rfl rfl rfl (by decide) ty_Fc tk_Fc nm_Fc rfl (by decide +kernel) (fun w h => List.mem_cons_of_mem _ (in_Fc w h)) (hm wd_232) d_Fc_forgetRun_55, ?_⟩
  refine List.forall_mem_cons.mpr ⟨fs_loada_n hF d_Fc_forgetRun_58 rfl, ?_⟩
  refine List.forall_mem_cons.mpr ⟨fs_const hF d_Fc_forgetRun_59 (by decide), ?_⟩
  refine List.forall_mem_cons.mpr ⟨fs_put hC (cN := 0) (j := 15) (ci := 0) (C := R_Fc) (T := T_Fc) (N := 17) rfl rfl rfl (by decide) ty_Fc tk_Fc nm_Fc rfl (by decide +kernel) (fun w h => List.mem_cons_of_mem _ (in_Fc w h)) (hm wd_233) d_Fc_forgetRun_60, ?_⟩
  refine List.forall_mem_cons.mpr ⟨fs_loada_n hF d_Fc_forgetRun_63 rfl, ?_⟩
  refine List.forall_mem_cons.mpr ⟨fs_const hF d_Fc_forgetRun_64 (by decide), ?_⟩
  refine List.forall_mem_cons.mpr ⟨fs_put hC (cN := 0) (j := 16) (ci := 0) (C := R_Fc) (T := T_Fc) (N := 17) rfl rfl rfl (by decide) ty_Fc tk_Fc nm_Fc rfl (by decide +kernel) (fun w h => List.mem_cons_of_mem _ (in_Fc w h)) (hm wd_234) d_Fc_forgetRun_65, ?_⟩
  refine List.forall_mem_cons.mpr ⟨fs_vret hC hr d_Fc_forgetRun_68, ?_⟩
  exact fun _ h => absurd h List.not_mem_nil
abbrev rm_Fc_start : Room := { frames := 2, cells := 0, slots := 0, locals := 41 }
def ws_Fc_start : List Cond := .code y_Fc_start c_Fc_start 2 (some .boolean) :: TB
abbrev MC_Fc_start (κ : fx_K) : List fx_V → fx_S → (Int32 → fx_S → Prop) → Prop := fx_Met κ.1 κ.2.1 vwCl κ.2.2.1 κ.2.2.2 lyX nwl y_Fc_start ws_Fc_start rm_Fc_start true
def tt_Fc_start (κ : fx_K) (post : Int32 → fx_S → Prop) : List (Nat × fx_M fx_S) := [(0, fm_loada 0 1),
  (1, fm_get 0 7 4),
  (4, fm_ifne 17 7),
  (7, fm_loada 0 8),
  (8, fm_getr 0 1 11),
  (11, fm_get 1 3 14),
  (14, fm_ifne 19 17),
  (17, fm_const 0 18),
  (18, fm_zret post),
  (19, fm_loada 0 20),
  (20, fm_call false 0 0 (MC_Fc_forgetRun κ) 23),
  (23, fm_loada 0 24),
  (24, fm_const 1 25),
  (25, fm_putz 0 7 28),
  (28, fm_loada 0 29),
  (29, fm_load 1 30),
  (30, fm_putz 0 8 33),
  (33, fm_loada 0 34),
  (34, fm_loada 0 35),
  (35, fm_getr 0 1 38),
  (38, fm_get 1 3 41),
  (41, fm_put 0 9 44),
  (44, fm_const 1 45),
  (45, fm_zret post)]
set_option maxHeartbeats 4000000 in
set_option maxRecDepth 100000 in
theorem mo_Fc_start {κ : fx_K} (hq : fx_I κ lyX.length) {av : List fx_V} {S : fx_S} {post : Int32 → fx_S → Prop} (hlen : av.length ≤ 2) (body : ∀ J : fx_J fx_S, (∀ r ∈ tt_Fc_start κ post, fx_Snd J r.1 r.2) → (∀ pc k ls st S, J pc (ls.take k) st S → J pc ls st S) → J 0 av [] S) : MC_Fc_start κ av S post := by
  refine fx_Met_of (cc := c_Fc_start) (nL := 2) (ret := (some .boolean)) (by decide) rfl hq hlen ?_
  intro p e s m args below meth c hC hr hnw
  refine body _ ?_ fx_W_take
  have hF := hC.1
  have hts := hC.1.2.2.2.2
  have hm : ∀ {w : Cond}, w ∈ TB → w.before args s = true := fun h => hts _ (List.mem_cons_of_mem _ h)
  have g55 : ∀ (Q : State → Prop) (pc : Nat), decode c_Fc_start pc = .ok (.getfield 55, 3) → fx_Snd (fx_W p κ.1 e rm_Fc_start s m args below meth c Q (fx_A κ.2.2.2 lyX.length) 0 0 (fx_P κ.2.1 vwCl κ.2.2.1 κ.2.2.2 lyX) κ.2.2.2 2) pc (fm_get 0 7 (pc + 3)) := fun Q pc hd => fs_get hC (cN := 0) (j := 7) (ci := 0) (C := R_Fc) (T := T_Fc) (N := 17) rfl rfl rfl (by decide) (fun w h => List.mem_cons_of_mem _ (in_Fc w h)) (hm wd_225) hd
  have g10 : ∀ (Q : State → Prop) (pc : Nat), decode c_Fc_start pc = .ok (.getfield 10, 3) → fx_Snd (fx_W p κ.1 e rm_Fc_start s m args below meth c Q (fx_A κ.2.2.2 lyX.length) 0 0 (fx_P κ.2.1 vwCl κ.2.2.1 κ.2.2.2 lyX) κ.2.2.2 2) pc (fm_getr 0 1 (pc + 3)) := fun Q pc hd => fs_getr hC (cN := 0) (j := 0) (ci := 0) (C := R_Fc) (T := T_Fc) (N := 17) rfl rfl rfl (by decide) (fun w h => List.mem_cons_of_mem _ (in_Fc w h)) (hm wd_218) hd
  have g107 : ∀ (Q : State → Prop) (pc : Nat), decode c_Fc_start pc = .ok (.getfield 107, 3) → fx_Snd (fx_W p κ.1 e rm_Fc_start s m args below meth c Q (fx_A κ.2.2.2 lyX.length) 0 0 (fx_P κ.2.1 vwCl κ.2.2.1 κ.2.2.2 lyX) κ.2.2.2 2) pc (fm_get 1 3 (pc + 3)) := fun Q pc hd => fs_getN hC (cN := 1) (j := 3) (ci := 1) (C := R_St) (T := T_St) (N := 4) rfl rfl rfl (by decide) (fun w h => List.mem_cons_of_mem _ (in_St w h)) (hnw _ (List.mem_of_getElem? (i := 4) rfl)) hd
  refine List.forall_mem_cons.mpr ⟨fs_loada_n hF d_Fc_start_0 rfl, ?_⟩
  refine List.forall_mem_cons.mpr ⟨g55 _ 1 d_Fc_start_1, ?_⟩
  refine List.forall_mem_cons.mpr ⟨fs_ifne hF d_Fc_start_4 (by decide), ?_⟩
  refine List.forall_mem_cons.mpr ⟨fs_loada_n hF d_Fc_start_7 rfl, ?_⟩
  refine List.forall_mem_cons.mpr ⟨g10 _ 8 d_Fc_start_8, ?_⟩
  refine List.forall_mem_cons.mpr ⟨g107 _ 11 d_Fc_start_11, ?_⟩
  refine List.forall_mem_cons.mpr ⟨fs_ifne hF d_Fc_start_14 (by decide), ?_⟩
  refine List.forall_mem_cons.mpr ⟨fs_const hF d_Fc_start_17 (by decide), ?_⟩
  refine List.forall_mem_cons.mpr ⟨fs_zret hC hr d_Fc_start_18, ?_⟩
  refine List.forall_mem_cons.mpr ⟨fs_loada_n hF d_Fc_start_19 rfl, ?_⟩
  refine List.forall_mem_cons.mpr ⟨fs_callV hC nwl_ok hnw (cN := 0) (ci := 0) (C := R_Fc) rfl rfl ⟨callB_of 0 hts (tb_good wd_390) rfl rfl rfl (hm wd_32) (hm wd_387) pd_Fc_forgetRun ⟨Nat.le_of_ble_eq_true rfl, Nat.le_of_ble_eq_true rfl⟩, hm wd_389, hm wd_3⟩ d_Fc_start_20, ?_⟩
  refine List.forall_mem_cons.mpr ⟨fs_loada_n hF d_Fc_start_23 rfl, ?_⟩
  refine List.forall_mem_cons.mpr ⟨fs_const hF d_Fc_start_24 (by decide), ?_⟩
  refine List.forall_mem_cons.mpr ⟨fs_putz hC (cN := 0) (j := 7) (ci := 0) (C := R_Fc) (T := T_Fc) (N := 17) rfl rfl rfl (by decide) ty_Fc tk_Fc nm_Fc rfl (by decide +kernel) (fun w h => List.mem_cons_of_mem _ (in_Fc w h)) (hm wd_225) d_Fc_start_25, ?_⟩
  refine List.forall_mem_cons.mpr ⟨fs_loada_n hF d_Fc_start_28 rfl, ?_⟩
  refine List.forall_mem_cons.mpr ⟨fs_load_n hF d_Fc_start_29 rfl, ?_⟩
  refine List.forall_mem_cons.mpr ⟨fs_putz hC (cN := 0) (j := 8) (ci := 0) (C := R_Fc) (T := T_Fc) (N := 17) rfl rfl rfl (by decide) ty_Fc tk_Fc nm_Fc rfl (by decide +kernel) (fun w h => List.mem_cons_of_mem _ (in_Fc w h)) (hm wd_226) d_Fc_start_30, ?_⟩
  refine List.forall_mem_cons.mpr ⟨fs_loada_n hF d_Fc_start_33 rfl, ?_⟩
  refine List.forall_mem_cons.mpr ⟨fs_loada_n hF d_Fc_start_34 rfl, ?_⟩
  refine List.forall_mem_cons.mpr ⟨g10 _ 35 d_Fc_start_35, ?_⟩
  refine List.forall_mem_cons.mpr ⟨g107 _ 38 d_Fc_start_38, ?_⟩
  refine List.forall_mem_cons.mpr ⟨fs_put hC (cN := 0) (j := 9) (ci := 0) (C := R_Fc) (T := T_Fc) (N := 17) rfl rfl rfl (by decide) ty_Fc tk_Fc nm_Fc rfl (by decide +kernel) (fun w h => List.mem_cons_of_mem _ (in_Fc w h)) (hm wd_227) d_Fc_start_41, ?_⟩
  refine List.forall_mem_cons.mpr ⟨fs_const hF d_Fc_start_44 (by decide), ?_⟩
  refine List.forall_mem_cons.mpr ⟨fs_zret hC hr d_Fc_start_45, ?_⟩
  exact fun _ h => absurd h List.not_mem_nil
abbrev rm_Fc_stop : Room := { frames := 2, cells := 0, slots := 0, locals := 41 }
def ws_Fc_stop : List Cond := .code y_Fc_stop c_Fc_stop 1 none :: TB
abbrev MC_Fc_stop (κ : fx_K) : List fx_V → fx_S → (Int32 → fx_S → Prop) → Prop := fx_Met κ.1 κ.2.1 vwCl κ.2.2.1 κ.2.2.2 lyX nwl y_Fc_stop ws_Fc_stop rm_Fc_stop false
def tt_Fc_stop (κ : fx_K) (post : Int32 → fx_S → Prop) : List (Nat × fx_M fx_S) := [(0, fm_loada 0 1),
  (1, fm_call false 0 0 (MC_Fc_forgetRun κ) 4),
  (4, fm_loada 0 5),
  (5, fm_const 0 6),
  (6, fm_putz 0 7 9),
  (9, fm_vret post)]
set_option maxHeartbeats 4000000 in
set_option maxRecDepth 100000 in
theorem mo_Fc_stop {κ : fx_K} (hq : fx_I κ lyX.length) {av : List fx_V} {S : fx_S} {post : Int32 → fx_S → Prop} (hlen : av.length ≤ 1) (body : ∀ J : fx_J fx_S, (∀ r ∈ tt_Fc_stop κ post, fx_Snd J r.1 r.2) → (∀ pc k ls st S, J pc (ls.take k) st S → J pc ls st S) → J 0 av [] S) : MC_Fc_stop κ av S post := by
  refine fx_Met_of (cc := c_Fc_stop) (nL := 1) (ret := none) (by decide) rfl hq hlen ?_
  intro p e s m args below meth c hC hr hnw
  refine body _ ?_ fx_W_take
  have hF := hC.1
  have hts := hC.1.2.2.2.2
  have hm : ∀ {w : Cond}, w ∈ TB → w.before args s = true := fun h => hts _ (List.mem_cons_of_mem _ h)
  refine List.forall_mem_cons.mpr ⟨fs_loada_n hF d_Fc_stop_0 rfl, ?_⟩
  refine List.forall_mem_cons.mpr ⟨fs_callV hC nwl_ok hnw (cN := 0) (ci := 0) (C := R_Fc) rfl rfl ⟨callB_of 0 hts (tb_good wd_390) rfl rfl rfl (hm wd_32) (hm wd_387) pd_Fc_forgetRun ⟨Nat.le_of_ble_eq_true rfl, Nat.le_of_ble_eq_true rfl⟩, hm wd_389, hm wd_3⟩ d_Fc_stop_1, ?_⟩
  refine List.forall_mem_cons.mpr ⟨fs_loada_n hF d_Fc_stop_4 rfl, ?_⟩
  refine List.forall_mem_cons.mpr ⟨fs_const hF d_Fc_stop_5 (by decide), ?_⟩
  refine List.forall_mem_cons.mpr ⟨fs_putz hC (cN := 0) (j := 7) (ci := 0) (C := R_Fc) (T := T_Fc) (N := 17) rfl rfl rfl (by decide) ty_Fc tk_Fc nm_Fc rfl (by decide +kernel) (fun w h => List.mem_cons_of_mem _ (in_Fc w h)) (hm wd_225) d_Fc_stop_6, ?_⟩
  refine List.forall_mem_cons.mpr ⟨fs_vret hC hr d_Fc_stop_9, ?_⟩
  exact fun _ h => absurd h List.not_mem_nil
abbrev rm_Fc_evolve : Room := { frames := 4, cells := 0, slots := 0, locals := 90 }
def ws_Fc_evolve : List Cond := .code y_Fc_evolve c_Fc_evolve 9 (some .boolean) :: TB
abbrev MC_Fc_evolve (κ : fx_K) : List fx_V → fx_S → (Int32 → fx_S → Prop) → Prop := fx_Met κ.1 κ.2.1 vwCl κ.2.2.1 κ.2.2.2 lyX nwl y_Fc_evolve ws_Fc_evolve rm_Fc_evolve true
def tt_Fc_evolve (κ : fx_K) (post : Int32 → fx_S → Prop) : List (Nat × fx_M fx_S) := [(0, fm_loada 0 1),
  (1, fm_getr 0 3 4),
  (4, fm_loada 0 5),
  (5, fm_getr 0 6 8),
  (8, fm_get 6 5 11),
  (11, fm_loada 0 12),
  (12, fm_getr 0 2 15),
  (15, fm_loada 0 16),
  (16, fm_getr 0 6 19),
  (19, fm_call true 2 1 (MC_Ex_trueIn κ) 22),
  (22, fm_call true 3 2 (MC_Tr_dueIn κ) 25),
  (25, fm_store 1 26),
  (26, fm_const 0 27),
  (27, fm_store 2 28),
  (28, fm_const 0 29),
  (29, fm_store 3 30),
  (30, fm_const 0 31),
  (31, fm_store 4 33),
  (33, fm_load 4 35),
  (35, fm_const 3 36),
  (36, fm_cmpge 169 39),
  (39, fm_loada 0 40),
  (40, fm_getr 0 6 43),
  (43, fm_get 6 5 46),
  (46, fm_loada 0 47),
  (47, fm_getr 0 1 50),
  (50, fm_getr 1 9 53),
  (53, fm_load 4 55),
  (55, fm_ald lnXI 56),
  (56, fm_iand 57),
  (57, fm_store 5 59),
  (59, fm_loada 0 60),
  (60, fm_getr 0 4 63),
  (63, fm_load 4 65),
  (65, fm_load 3 66),
  (66, fm_call true 4 2 (MC_Or_rulingOver κ) 69),
  (69, fm_store 6 71),
  (71, fm_load 6 73),
  (73, fm_const (-1) 74),
  (74, fm_cmpeq 94 77),
  (77, fm_load 3 78),
  (78, fm_loada 0 79),
  (79, fm_getr 0 4 82),
  (82, fm_load 6 84),
  (84, fm_load 5 86),
  (86, fm_call true 4 2 (MC_Or_forcedSteps κ) 89),
  (89, fm_ior 90),
  (90, fm_store 3 91),
  (91, fm_goto 163),
  (94, fm_load 1 95),
  (95, fm_loada 0 96),
  (96, fm_getr 0 3 99),
  (99, fm_getr 3 17 102),
  (102, fm_load 4 104),
  (104, fm_ald lnXI 105),
  (105, fm_iand 106),
  (106, fm_store 7 108),
  (108, fm_loada 0 109),
  (109, fm_get 0 8 112),
  (112, fm_ifeq 120 115),
  (115, fm_load 7 117),
  (117, fm_goto 129),
  (120, fm_loada 0 121),
  (121, fm_getr 0 3 124),
  (124, fm_load 7 126),
  (126, fm_call true 3 1 (MC_Tr_withoutRivals κ) 129),
  (129, fm_store 8 131),
  (131, fm_load 3 132),
  (132, fm_load 5 134),
  (134, fm_loada 0 135),
  (135, fm_getr 0 3 138),
  (138, fm_load 8 140),
  (140, fm_call true 3 1 (MC_Tr_preceding κ) 143),
  (143, fm_const (-1) 144),
  (144, fm_ixor 145),
  (145, fm_iand 146),
  (146, fm_loada 0 147),
  (147, fm_getr 0 3 150),
  (150, fm_load 8 152),
  (152, fm_call true 3 1 (MC_Tr_succeeding κ) 155),
  (155, fm_ior 156),
  (156, fm_ior 157),
  (157, fm_store 3 158),
  (158, fm_load 2 159),
  (159, fm_load 8 161),
  (161, fm_ior 162),
  (162, fm_store 2 163),
  (163, fm_inc 4 1 166),
  (166, fm_goto 33),
  (169, fm_loada 0 170),
  (170, fm_getr 0 6 173),
  (173, fm_load 3 174),
  (174, fm_load 2 175),
  (175, fm_call true 6 2 (MC_Ti_moveTo κ) 178),
  (178, fm_zret post)]
set_option maxHeartbeats 4000000 in
set_option maxRecDepth 100000 in
theorem mo_Fc_evolve {κ : fx_K} (hq : fx_I κ lyX.length) {av : List fx_V} {S : fx_S} {post : Int32 → fx_S → Prop} (hlen : av.length ≤ 9) (body : ∀ J : fx_J fx_S, (∀ r ∈ tt_Fc_evolve κ post, fx_Snd J r.1 r.2) → (∀ pc k ls st S, J pc (ls.take k) st S → J pc ls st S) → J 0 av [] S) : MC_Fc_evolve κ av S post := by
  refine fx_Met_of (cc := c_Fc_evolve) (nL := 9) (ret := (some .boolean)) (by decide) rfl hq hlen ?_
  intro p e s m args below meth c hC hr hnw
  refine body _ ?_ fx_W_take
  have hF := hC.1
  have hts := hC.1.2.2.2.2
  have hm : ∀ {w : Cond}, w ∈ TB → w.before args s = true := fun h => hts _ (List.mem_cons_of_mem _ h)
  have g26 : ∀ (Q : State → Prop) (pc : Nat), decode c_Fc_evolve pc = .ok (.getfield 26, 3) → fx_Snd (fx_W p κ.1 e rm_Fc_evolve s m args below meth c Q (fx_A κ.2.2.2 lyX.length) 0 0 (fx_P κ.2.1 vwCl κ.2.2.1 κ.2.2.2 lyX) κ.2.2.2 9) pc (fm_getr 0 3 (pc + 3)) := fun Q pc hd => fs_getr hC (cN := 0) (j := 2) (ci := 0) (C := R_Fc) (T := T_Fc) (N := 17) rfl rfl rfl (by decide) (fun w h => List.mem_cons_of_mem _ (in_Fc w h)) (hm wd_220) hd
  have g47 : ∀ (Q : State → Prop) (pc : Nat), decode c_Fc_evolve pc = .ok (.getfield 47, 3) → fx_Snd (fx_W p κ.1 e rm_Fc_evolve s m args below meth c Q (fx_A κ.2.2.2 lyX.length) 0 0 (fx_P κ.2.1 vwCl κ.2.2.1 κ.2.2.2 lyX) κ.2.2.2 9) pc (fm_getr 0 6 (pc + 3)) := fun Q pc hd => fs_getr hC (cN := 0) (j := 5) (ci := 0) (C := R_Fc) (T := T_Fc) (N := 17) rfl rfl rfl (by decide) (fun w h => List.mem_cons_of_mem _ (in_Fc w h)) (hm wd_223) hd
  have g186 : ∀ (Q : State → Prop) (pc : Nat), decode c_Fc_evolve pc = .ok (.getfield 186, 3) → fx_Snd (fx_W p κ.1 e rm_Fc_evolve s m args below meth c Q (fx_A κ.2.2.2 lyX.length) 0 0 (fx_P κ.2.1 vwCl κ.2.2.1 κ.2.2.2 lyX) κ.2.2.2 9) pc (fm_get 6 5 (pc + 3)) := fun Q pc hd => fs_getN hC (cN := 6) (j := 5) (ci := 6) (C := R_Ti) (T := T_Ti) (N := 11) rfl rfl rfl (by decide) (fun w h => List.mem_cons_of_mem _ (in_Ti w h)) (hnw _ (List.mem_of_getElem? (i := 19) rfl)) hd
  have g19 : ∀ (Q : State → Prop) (pc : Nat), decode c_Fc_evolve pc = .ok (.getfield 19, 3) → fx_Snd (fx_W p κ.1 e rm_Fc_evolve s m args below meth c Q (fx_A κ.2.2.2 lyX.length) 0 0 (fx_P κ.2.1 vwCl κ.2.2.1 κ.2.2.2 lyX) κ.2.2.2 9) pc (fm_getr 0 2 (pc + 3)) := fun Q pc hd => fs_getr hC (cN := 0) (j := 1) (ci := 0) (C := R_Fc) (T := T_Fc) (N := 17) rfl rfl rfl (by decide) (fun w h => List.mem_cons_of_mem _ (in_Fc w h)) (hm wd_219) hd
  have g10 : ∀ (Q : State → Prop) (pc : Nat), decode c_Fc_evolve pc = .ok (.getfield 10, 3) → fx_Snd (fx_W p κ.1 e rm_Fc_evolve s m args below meth c Q (fx_A κ.2.2.2 lyX.length) 0 0 (fx_P κ.2.1 vwCl κ.2.2.1 κ.2.2.2 lyX) κ.2.2.2 9) pc (fm_getr 0 1 (pc + 3)) := fun Q pc hd => fs_getr hC (cN := 0) (j := 0) (ci := 0) (C := R_Fc) (T := T_Fc) (N := 17) rfl rfl rfl (by decide) (fun w h => List.mem_cons_of_mem _ (in_Fc w h)) (hm wd_218) hd
  have g92 : ∀ (Q : State → Prop) (pc : Nat), decode c_Fc_evolve pc = .ok (.getfield 92, 3) → fx_Snd (fx_W p κ.1 e rm_Fc_evolve s m args below meth c Q (fx_A κ.2.2.2 lyX.length) 0 0 (fx_P κ.2.1 vwCl κ.2.2.1 κ.2.2.2 lyX) κ.2.2.2 9) pc (fm_getr 1 9 (pc + 3)) := fun Q pc hd => fs_getrN hC (cN := 1) (j := 1) (ci := 1) (C := R_St) (T := T_St) (N := 4) rfl rfl rfl (by decide) (fun w h => List.mem_cons_of_mem _ (in_St w h)) (hnw _ (List.mem_of_getElem? (i := 2) rfl)) hd
  have g33 : ∀ (Q : State → Prop) (pc : Nat), decode c_Fc_evolve pc = .ok (.getfield 33, 3) → fx_Snd (fx_W p κ.1 e rm_Fc_evolve s m args below meth c Q (fx_A κ.2.2.2 lyX.length) 0 0 (fx_P κ.2.1 vwCl κ.2.2.1 κ.2.2.2 lyX) κ.2.2.2 9) pc (fm_getr 0 4 (pc + 3)) := fun Q pc hd => fs_getr hC (cN := 0) (j := 3) (ci := 0) (C := R_Fc) (T := T_Fc) (N := 17) rfl rfl rfl (by decide) (fun w h => List.mem_cons_of_mem _ (in_Fc w h)) (hm wd_221) hd
  have g201 : ∀ (Q : State → Prop) (pc : Nat), decode c_Fc_evolve pc = .ok (.getfield 201, 3) → fx_Snd (fx_W p κ.1 e rm_Fc_evolve s m args below meth c Q (fx_A κ.2.2.2 lyX.length) 0 0 (fx_P κ.2.1 vwCl κ.2.2.1 κ.2.2.2 lyX) κ.2.2.2 9) pc (fm_getr 3 17 (pc + 3)) := fun Q pc hd => fs_getrN hC (cN := 3) (j := 3) (ci := 3) (C := R_Tr) (T := T_Tr) (N := 5) rfl rfl rfl (by decide) (fun w h => List.mem_cons_of_mem _ (in_Tr w h)) (hnw _ (List.mem_of_getElem? (i := 8) rfl)) hd
  have g126 : ∀ (Q : State → Prop) (pc : Nat), decode c_Fc_evolve pc = .ok (.getfield 126, 3) → fx_Snd (fx_W p κ.1 e rm_Fc_evolve s m args below meth c Q (fx_A κ.2.2.2 lyX.length) 0 0 (fx_P κ.2.1 vwCl κ.2.2.1 κ.2.2.2 lyX) κ.2.2.2 9) pc (fm_get 0 8 (pc + 3)) := fun Q pc hd => fs_get hC (cN := 0) (j := 8) (ci := 0) (C := R_Fc) (T := T_Fc) (N := 17) rfl rfl rfl (by decide) (fun w h => List.mem_cons_of_mem _ (in_Fc w h)) (hm wd_226) hd
  refine List.forall_mem_cons.mpr ⟨fs_loada_n hF d_Fc_evolve_0 rfl, ?_⟩
  refine List.forall_mem_cons.mpr ⟨g26 _ 1 d_Fc_evolve_1, ?_⟩
  refine List.forall_mem_cons.mpr ⟨fs_loada_n hF d_Fc_evolve_4 rfl, ?_⟩
  refine List.forall_mem_cons.mpr ⟨g47 _ 5 d_Fc_evolve_5, ?_⟩
  refine List.forall_mem_cons.mpr ⟨g186 _ 8 d_Fc_evolve_8, ?_⟩
  refine List.forall_mem_cons.mpr ⟨fs_loada_n hF d_Fc_evolve_11 rfl, ?_⟩
  refine List.forall_mem_cons.mpr ⟨g19 _ 12 d_Fc_evolve_12, ?_⟩
  refine List.forall_mem_cons.mpr ⟨fs_loada_n hF d_Fc_evolve_15 rfl, ?_⟩
  refine List.forall_mem_cons.mpr ⟨g47 _ 16 d_Fc_evolve_16, ?_⟩
  refine List.forall_mem_cons.mpr ⟨fs_callV hC nwl_ok hnw (cN := 2) (ci := 2) (C := R_Ex) rfl rfl ⟨callB_of 1 hts (tb_good wd_423) rfl rfl rfl (hm wd_34) (hm wd_420) pd_Ex_trueIn ⟨Nat.le_of_ble_eq_true rfl, Nat.le_of_ble_eq_true rfl⟩, hm wd_421, hm wd_422⟩ d_Fc_evolve_19, ?_⟩
  refine List.forall_mem_cons.mpr ⟨fs_callV hC nwl_ok hnw (cN := 3) (ci := 3) (C := R_Tr) rfl rfl ⟨callB_of 2 hts (tb_good wd_436) rfl rfl rfl (hm wd_35) (hm wd_433) pd_Tr_dueIn ⟨Nat.le_of_ble_eq_true rfl, Nat.le_of_ble_eq_true rfl⟩, hm wd_434, hm wd_435⟩ d_Fc_evolve_22, ?_⟩
  refine List.forall_mem_cons.mpr ⟨fs_store_n hF d_Fc_evolve_25 rfl (by decide), ?_⟩
  refine List.forall_mem_cons.mpr ⟨fs_const hF d_Fc_evolve_26 (by decide), ?_⟩
  refine List.forall_mem_cons.mpr ⟨fs_store_n hF d_Fc_evolve_27 rfl (by decide), ?_⟩
  refine List.forall_mem_cons.mpr ⟨fs_const hF d_Fc_evolve_28 (by decide), ?_⟩
  refine List.forall_mem_cons.mpr ⟨fs_store_n hF d_Fc_evolve_29 rfl (by decide), ?_⟩
  refine List.forall_mem_cons.mpr ⟨fs_const hF d_Fc_evolve_30 (by decide), ?_⟩
  refine List.forall_mem_cons.mpr ⟨fs_store hF d_Fc_evolve_31 (by decide), ?_⟩
  refine List.forall_mem_cons.mpr ⟨fs_load hF d_Fc_evolve_33, ?_⟩
  refine List.forall_mem_cons.mpr ⟨fs_const hF d_Fc_evolve_35 (by decide), ?_⟩
  refine List.forall_mem_cons.mpr ⟨fs_cmpge hF d_Fc_evolve_36 (by decide), ?_⟩
  refine List.forall_mem_cons.mpr ⟨fs_loada_n hF d_Fc_evolve_39 rfl, ?_⟩
  refine List.forall_mem_cons.mpr ⟨g47 _ 40 d_Fc_evolve_40, ?_⟩
  refine List.forall_mem_cons.mpr ⟨g186 _ 43 d_Fc_evolve_43, ?_⟩
  refine List.forall_mem_cons.mpr ⟨fs_loada_n hF d_Fc_evolve_46 rfl, ?_⟩
  refine List.forall_mem_cons.mpr ⟨g10 _ 47 d_Fc_evolve_47, ?_⟩
  refine List.forall_mem_cons.mpr ⟨g92 _ 50 d_Fc_evolve_50, ?_⟩
  refine List.forall_mem_cons.mpr ⟨fs_load hF d_Fc_evolve_53, ?_⟩
  refine List.forall_mem_cons.mpr ⟨fs_ald hC lkXI d_Fc_evolve_55, ?_⟩
  refine List.forall_mem_cons.mpr ⟨fs_iand hF d_Fc_evolve_56, ?_⟩
  refine List.forall_mem_cons.mpr ⟨fs_store hF d_Fc_evolve_57 (by decide), ?_⟩
  refine List.forall_mem_cons.mpr ⟨fs_loada_n hF d_Fc_evolve_59 rfl, ?_⟩
  refine List.forall_mem_cons.mpr ⟨g33 _ 60 d_Fc_evolve_60, ?_⟩
  refine List.forall_mem_cons.mpr ⟨fs_load hF d_Fc_evolve_63, ?_⟩
  refine List.forall_mem_cons.mpr ⟨fs_load_n hF d_Fc_evolve_65 rfl, ?_⟩
  refine List.forall_mem_cons.mpr ⟨fs_callV hC nwl_ok hnw (cN := 4) (ci := 4) (C := R_Or) rfl rfl ⟨callB_of 2 hts (tb_good wd_441) rfl rfl rfl (hm wd_36) (hm wd_438) pd_Or_rulingOver ⟨Nat.le_of_ble_eq_true rfl, Nat.le_of_ble_eq_true rfl⟩, hm wd_439, hm wd_440⟩ d_Fc_evolve_66, ?_⟩
  refine List.forall_mem_cons.mpr ⟨fs_store hF d_Fc_evolve_69 (by decide), ?_⟩
  refine List.forall_mem_cons.mpr ⟨fs_load hF d_Fc_evolve_71, ?_⟩
  refine List.forall_mem_cons.mpr ⟨fs_const hF d_Fc_evolve_73 (by decide), ?_⟩
  refine List.forall_mem_cons.mpr ⟨fs_cmpeq hF d_Fc_evolve_74 (by decide), ?_⟩
  refine List.forall_mem_cons.mpr ⟨fs_load_n hF d_Fc_evolve_77 rfl, ?_⟩
  refine List.forall_mem_cons.mpr ⟨fs_loada_n hF d_Fc_evolve_78 rfl, ?_⟩
  refine List.forall_mem_cons.mpr ⟨g33 _ 79 d_Fc_evolve_79, ?_⟩
  refine List.forall_mem_cons.mpr ⟨fs_load hF d_Fc_evolve_82, ?_⟩
  refine List.forall_mem_cons.mpr ⟨fs_load hF d_Fc_evolve_84, ?_⟩
  refine List.forall_mem_cons.mpr ⟨fs_callV hC nwl_ok hnw (cN := 4) (ci := 4) (C := R_Or) rfl rfl ⟨callB_of 2 hts (tb_good wd_378) rfl rfl rfl (hm wd_36) (hm wd_442) pd_Or_forcedSteps ⟨Nat.le_of_ble_eq_true rfl, Nat.le_of_ble_eq_true rfl⟩, hm wd_376, hm wd_377⟩ d_Fc_evolve_86, ?_⟩
  refine List.forall_mem_cons.mpr ⟨fs_ior hF d_Fc_evolve_89, ?_⟩
  refine List.forall_mem_cons.mpr ⟨fs_store_n hF d_Fc_evolve_90 rfl (by decide), ?_⟩
  refine List.forall_mem_cons.mpr ⟨fs_goto hF d_Fc_evolve_91 (by decide), ?_⟩
  refine List.forall_mem_cons.mpr ⟨fs_load_n hF d_Fc_evolve_94 rfl, ?_⟩
  refine List.forall_mem_cons.mpr ⟨fs_loada_n hF d_Fc_evolve_95 rfl, ?_⟩
  refine List.forall_mem_cons.mpr ⟨g26 _ 96 d_Fc_evolve_96, ?_⟩
  refine List.forall_mem_cons.mpr ⟨g201 _ 99 d_Fc_evolve_99, ?_⟩
  refine List.forall_mem_cons.mpr ⟨fs_load hF d_Fc_evolve_102, ?_⟩
  refine List.forall_mem_cons.mpr ⟨fs_ald hC lkXI d_Fc_evolve_104, ?_⟩
  refine List.forall_mem_cons.mpr ⟨fs_iand hF d_Fc_evolve_105, ?_⟩
  refine List.forall_mem_cons.mpr ⟨fs_store hF d_Fc_evolve_106 (by decide), ?_⟩
  refine List.forall_mem_cons.mpr ⟨fs_loada_n hF d_Fc_evolve_108 rfl, ?_⟩
  refine List.forall_mem_cons.mpr ⟨g126 _ 109 d_Fc_evolve_109, ?_⟩
  refine List.forall_mem_cons.mpr ⟨fs_ifeq hF d_Fc_evolve_112 (by decide), ?_⟩
  refine List.forall_mem_cons.mpr ⟨fs_load hF d_Fc_evolve_115, ?_⟩
  refine List.forall_mem_cons.mpr ⟨fs_goto hF d_Fc_evolve_117 (by decide), ?_⟩
  refine List.forall_mem_cons.mpr ⟨fs_loada_n hF d_Fc_evolve_120 rfl, ?_⟩
  refine List.forall_mem_cons.mpr ⟨g26 _ 121 d_Fc_evolve_121, ?_⟩
  refine List.forall_mem_cons.mpr ⟨fs_load hF d_Fc_evolve_124, ?_⟩
  refine List.forall_mem_cons.mpr ⟨fs_callV hC nwl_ok hnw (cN := 3) (ci := 3) (C := R_Tr) rfl rfl ⟨callB_of 1 hts (tb_good wd_446) rfl rfl rfl (hm wd_35) (hm wd_443) pd_Tr_withoutRivals ⟨Nat.le_of_ble_eq_true rfl, Nat.le_of_ble_eq_true rfl⟩, hm wd_444, hm wd_445⟩ d_Fc_evolve_126, ?_⟩
  refine List.forall_mem_cons.mpr ⟨fs_store hF d_Fc_evolve_129 (by decide), ?_⟩
  refine List.forall_mem_cons.mpr ⟨fs_load_n hF d_Fc_evolve_131 rfl, ?_⟩
  refine List.forall_mem_cons.mpr ⟨fs_load hF d_Fc_evolve_132, ?_⟩
  refine List.forall_mem_cons.mpr ⟨fs_loada_n hF d_Fc_evolve_134 rfl, ?_⟩
  refine List.forall_mem_cons.mpr ⟨g26 _ 135 d_Fc_evolve_135, ?_⟩
  refine List.forall_mem_cons.mpr ⟨fs_load hF d_Fc_evolve_138, ?_⟩
  refine List.forall_mem_cons.mpr ⟨fs_callV hC nwl_ok hnw (cN := 3) (ci := 3) (C := R_Tr) rfl rfl ⟨callB_of 1 hts (tb_good wd_450) rfl rfl rfl (hm wd_35) (hm wd_447) pd_Tr_preceding ⟨Nat.le_of_ble_eq_true rfl, Nat.le_of_ble_eq_true rfl⟩, hm wd_448, hm wd_449⟩ d_Fc_evolve_140, ?_⟩
  refine List.forall_mem_cons.mpr ⟨fs_const hF d_Fc_evolve_143 (by decide), ?_⟩
  refine List.forall_mem_cons.mpr ⟨fs_ixor hF d_Fc_evolve_144, ?_⟩
  refine List.forall_mem_cons.mpr ⟨fs_iand hF d_Fc_evolve_145, ?_⟩
  refine List.forall_mem_cons.mpr ⟨fs_loada_n hF d_Fc_evolve_146 rfl, ?_⟩
  refine List.forall_mem_cons.mpr ⟨g26 _ 147 d_Fc_evolve_147, ?_⟩
  refine List.forall_mem_cons.mpr ⟨fs_load hF d_Fc_evolve_150, ?_⟩
  refine List.forall_mem_cons.mpr ⟨fs_callV hC nwl_ok hnw (cN := 3) (ci := 3) (C := R_Tr) rfl rfl ⟨callB_of 1 hts (tb_good wd_362) rfl rfl rfl (hm wd_35) (hm wd_359) pd_Tr_succeeding ⟨Nat.le_of_ble_eq_true rfl, Nat.le_of_ble_eq_true rfl⟩, hm wd_360, hm wd_361⟩ d_Fc_evolve_152, ?_⟩
  refine List.forall_mem_cons.mpr ⟨fs_ior hF d_Fc_evolve_155, ?_⟩
  refine List.forall_mem_cons.mpr ⟨fs_ior hF d_Fc_evolve_156, ?_⟩
  refine List.forall_mem_cons.mpr ⟨fs_store_n hF d_Fc_evolve_157 rfl (by decide), ?_⟩
  refine List.forall_mem_cons.mpr ⟨fs_load_n hF d_Fc_evolve_158 rfl, ?_⟩
  refine List.forall_mem_cons.mpr ⟨fs_load hF d_Fc_evolve_159, ?_⟩
  refine List.forall_mem_cons.mpr ⟨fs_ior hF d_Fc_evolve_161, ?_⟩
  refine List.forall_mem_cons.mpr ⟨fs_store_n hF d_Fc_evolve_162 rfl (by decide), ?_⟩
  refine List.forall_mem_cons.mpr ⟨fs_inc hF d_Fc_evolve_163 (by decide) (by decide), ?_⟩
  refine List.forall_mem_cons.mpr ⟨fs_goto hF d_Fc_evolve_166 (by decide), ?_⟩
  refine List.forall_mem_cons.mpr ⟨fs_loada_n hF d_Fc_evolve_169 rfl, ?_⟩
  refine List.forall_mem_cons.mpr ⟨g47 _ 170 d_Fc_evolve_170, ?_⟩
  refine List.forall_mem_cons.mpr ⟨fs_load_n hF d_Fc_evolve_173 rfl, ?_⟩
  refine List.forall_mem_cons.mpr ⟨fs_load_n hF d_Fc_evolve_174 rfl, ?_⟩
  refine List.forall_mem_cons.mpr ⟨fs_callV hC nwl_ok hnw (cN := 6) (ci := 6) (C := R_Ti) rfl rfl ⟨callB_of 2 hts (tb_good wd_454) rfl rfl rfl (hm wd_38) (hm wd_451) pd_Ti_moveTo ⟨Nat.le_of_ble_eq_true rfl, Nat.le_of_ble_eq_true rfl⟩, hm wd_452, hm wd_453⟩ d_Fc_evolve_175, ?_⟩
  refine List.forall_mem_cons.mpr ⟨fs_zret hC hr d_Fc_evolve_178, ?_⟩
  exact fun _ h => absurd h List.not_mem_nil
abbrev rm_Fc_comesToAnEnd : Room := { frames := 5, cells := 0, slots := 0, locals := 118 }
def ws_Fc_comesToAnEnd : List Cond := .code y_Fc_comesToAnEnd c_Fc_comesToAnEnd 2 (some .boolean) :: TB
abbrev MC_Fc_comesToAnEnd (κ : fx_K) : List fx_V → fx_S → (Int32 → fx_S → Prop) → Prop := fx_Met κ.1 κ.2.1 vwCl κ.2.2.1 κ.2.2.2 lyX nwl y_Fc_comesToAnEnd ws_Fc_comesToAnEnd rm_Fc_comesToAnEnd true
def tt_Fc_comesToAnEnd (κ : fx_K) (post : Int32 → fx_S → Prop) : List (Nat × fx_M fx_S) := [(0, fm_loada 0 1),
  (1, fm_get 0 8 4),
  (4, fm_ifne 14 7),
  (7, fm_loada 0 8),
  (8, fm_call true 0 0 (MC_Fc_evolve κ) 11),
  (11, fm_pop 12),
  (12, fm_const 1 13),
  (13, fm_zret post),
  (14, fm_const 0 15),
  (15, fm_store 1 16),
  (16, fm_load 1 17),
  (17, fm_const 511 20),
  (20, fm_cmpgt 57 23),
  (23, fm_loada 0 24),
  (24, fm_call true 0 0 (MC_Fc_evolve κ) 27),
  (27, fm_ifne 32 30),
  (30, fm_const 1 31),
  (31, fm_zret post),
  (32, fm_loada 0 33),
  (33, fm_getr 0 6 36),
  (36, fm_call false 6 0 (MC_Ti_endEdges κ) 39),
  (39, fm_loada 0 40),
  (40, fm_getr 0 6 43),
  (43, fm_call true 6 0 (MC_Ti_findsCycle κ) 46),
  (46, fm_ifeq 51 49),
  (49, fm_const 0 50),
  (50, fm_zret post),
  (51, fm_inc 1 1 54),
  (54, fm_goto 16),
  (57, fm_const 0 58),
  (58, fm_zret post)]
set_option maxHeartbeats 4000000 in
set_option maxRecDepth 100000 in
theorem mo_Fc_comesToAnEnd {κ : fx_K} (hq : fx_I κ lyX.length) {av : List fx_V} {S : fx_S} {post : Int32 → fx_S → Prop} (hlen : av.length ≤ 2) (body : ∀ J : fx_J fx_S, (∀ r ∈ tt_Fc_comesToAnEnd κ post, fx_Snd J r.1 r.2) → (∀ pc k ls st S, J pc (ls.take k) st S → J pc ls st S) → J 0 av [] S) : MC_Fc_comesToAnEnd κ av S post := by
  refine fx_Met_of (cc := c_Fc_comesToAnEnd) (nL := 2) (ret := (some .boolean)) (by decide) rfl hq hlen ?_
  intro p e s m args below meth c hC hr hnw
  refine body _ ?_ fx_W_take
  have hF := hC.1
  have hts := hC.1.2.2.2.2
  have hm : ∀ {w : Cond}, w ∈ TB → w.before args s = true := fun h => hts _ (List.mem_cons_of_mem _ h)
  have g126 : ∀ (Q : State → Prop) (pc : Nat), decode c_Fc_comesToAnEnd pc = .ok (.getfield 126, 3) → fx_Snd (fx_W p κ.1 e rm_Fc_comesToAnEnd s m args below meth c Q (fx_A κ.2.2.2 lyX.length) 0 0 (fx_P κ.2.1 vwCl κ.2.2.1 κ.2.2.2 lyX) κ.2.2.2 2) pc (fm_get 0 8 (pc + 3)) := fun Q pc hd => fs_get hC (cN := 0) (j := 8) (ci := 0) (C := R_Fc) (T := T_Fc) (N := 17) rfl rfl rfl (by decide) (fun w h => List.mem_cons_of_mem _ (in_Fc w h)) (hm wd_226) hd
  have g47 : ∀ (Q : State → Prop) (pc : Nat), decode c_Fc_comesToAnEnd pc = .ok (.getfield 47, 3) → fx_Snd (fx_W p κ.1 e rm_Fc_comesToAnEnd s m args below meth c Q (fx_A κ.2.2.2 lyX.length) 0 0 (fx_P κ.2.1 vwCl κ.2.2.1 κ.2.2.2 lyX) κ.2.2.2 2) pc (fm_getr 0 6 (pc + 3)) := fun Q pc hd => fs_getr hC (cN := 0) (j := 5) (ci := 0) (C := R_Fc) (T := T_Fc) (N := 17) rfl rfl rfl (by decide) (fun w h => List.mem_cons_of_mem _ (in_Fc w h)) (hm wd_223) hd
  refine List.forall_mem_cons.mpr ⟨fs_loada_n hF d_Fc_comesToAnEnd_0 rfl, ?_⟩
  refine List.forall_mem_cons.mpr ⟨g126 _ 1 d_Fc_comesToAnEnd_1, ?_⟩
  refine List.forall_mem_cons.mpr ⟨fs_ifne hF d_Fc_comesToAnEnd_4 (by decide), ?_⟩
  refine List.forall_mem_cons.mpr ⟨fs_loada_n hF d_Fc_comesToAnEnd_7 rfl, ?_⟩
  refine List.forall_mem_cons.mpr ⟨fs_callV hC nwl_ok hnw (cN := 0) (ci := 0) (C := R_Fc) rfl rfl ⟨callB_of 0 hts (tb_good wd_419) rfl rfl rfl (hm wd_32) (hm wd_416) pd_Fc_evolve ⟨Nat.le_of_ble_eq_true rfl, Nat.le_of_ble_eq_true rfl⟩, hm wd_418, hm wd_5⟩ d_Fc_comesToAnEnd_8, ?_⟩
  refine List.forall_mem_cons.mpr ⟨fs_pop hF d_Fc_comesToAnEnd_11, ?_⟩
  refine List.forall_mem_cons.mpr ⟨fs_const hF d_Fc_comesToAnEnd_12 (by decide), ?_⟩
  refine List.forall_mem_cons.mpr ⟨fs_zret hC hr d_Fc_comesToAnEnd_13, ?_⟩
  refine List.forall_mem_cons.mpr ⟨fs_const hF d_Fc_comesToAnEnd_14 (by decide), ?_⟩
  refine List.forall_mem_cons.mpr ⟨fs_store_n hF d_Fc_comesToAnEnd_15 rfl (by decide), ?_⟩
  refine List.forall_mem_cons.mpr ⟨fs_load_n hF d_Fc_comesToAnEnd_16 rfl, ?_⟩
  refine List.forall_mem_cons.mpr ⟨fs_sipush hF d_Fc_comesToAnEnd_17 (by decide), ?_⟩
  refine List.forall_mem_cons.mpr ⟨fs_cmpgt hF d_Fc_comesToAnEnd_20 (by decide), ?_⟩
  refine List.forall_mem_cons.mpr ⟨fs_loada_n hF d_Fc_comesToAnEnd_23 rfl, ?_⟩
  refine List.forall_mem_cons.mpr ⟨fs_callV hC nwl_ok hnw (cN := 0) (ci := 0) (C := R_Fc) rfl rfl ⟨callB_of 0 hts (tb_good wd_419) rfl rfl rfl (hm wd_32) (hm wd_416) pd_Fc_evolve ⟨Nat.le_of_ble_eq_true rfl, Nat.le_of_ble_eq_true rfl⟩, hm wd_418, hm wd_5⟩ d_Fc_comesToAnEnd_24, ?_⟩
  refine List.forall_mem_cons.mpr ⟨fs_ifne hF d_Fc_comesToAnEnd_27 (by decide), ?_⟩
  refine List.forall_mem_cons.mpr ⟨fs_const hF d_Fc_comesToAnEnd_30 (by decide), ?_⟩
  refine List.forall_mem_cons.mpr ⟨fs_zret hC hr d_Fc_comesToAnEnd_31, ?_⟩
  refine List.forall_mem_cons.mpr ⟨fs_loada_n hF d_Fc_comesToAnEnd_32 rfl, ?_⟩
  refine List.forall_mem_cons.mpr ⟨g47 _ 33 d_Fc_comesToAnEnd_33, ?_⟩
  refine List.forall_mem_cons.mpr ⟨fs_callV hC nwl_ok hnw (cN := 6) (ci := 6) (C := R_Ti) rfl rfl ⟨callB_of 0 hts (tb_good wd_458) rfl rfl rfl (hm wd_38) (hm wd_455) pd_Ti_endEdges ⟨Nat.le_of_ble_eq_true rfl, Nat.le_of_ble_eq_true rfl⟩, hm wd_456, hm wd_457⟩ d_Fc_comesToAnEnd_36, ?_⟩
  refine List.forall_mem_cons.mpr ⟨fs_loada_n hF d_Fc_comesToAnEnd_39 rfl, ?_⟩
  refine List.forall_mem_cons.mpr ⟨g47 _ 40 d_Fc_comesToAnEnd_40, ?_⟩
  refine List.forall_mem_cons.mpr ⟨fs_callV hC nwl_ok hnw (cN := 6) (ci := 6) (C := R_Ti) rfl rfl ⟨callB_of 0 hts (tb_good wd_462) rfl rfl rfl (hm wd_38) (hm wd_459) pd_Ti_findsCycle ⟨Nat.le_of_ble_eq_true rfl, Nat.le_of_ble_eq_true rfl⟩, hm wd_460, hm wd_461⟩ d_Fc_comesToAnEnd_43, ?_⟩
  refine List.forall_mem_cons.mpr ⟨fs_ifeq hF d_Fc_comesToAnEnd_46 (by decide), ?_⟩
  refine List.forall_mem_cons.mpr ⟨fs_const hF d_Fc_comesToAnEnd_49 (by decide), ?_⟩
  refine List.forall_mem_cons.mpr ⟨fs_zret hC hr d_Fc_comesToAnEnd_50, ?_⟩
  refine List.forall_mem_cons.mpr ⟨fs_inc hF d_Fc_comesToAnEnd_51 (by decide) (by decide), ?_⟩
  refine List.forall_mem_cons.mpr ⟨fs_goto hF d_Fc_comesToAnEnd_54 (by decide), ?_⟩
  refine List.forall_mem_cons.mpr ⟨fs_const hF d_Fc_comesToAnEnd_57 (by decide), ?_⟩
  refine List.forall_mem_cons.mpr ⟨fs_zret hC hr d_Fc_comesToAnEnd_58, ?_⟩
  exact fun _ h => absurd h List.not_mem_nil
abbrev rm_Fc_keepTrial : Room := { frames := 3, cells := 0, slots := 0, locals := 76 }
def ws_Fc_keepTrial : List Cond := .code y_Fc_keepTrial c_Fc_keepTrial 3 none :: TB
abbrev MC_Fc_keepTrial (κ : fx_K) : List fx_V → fx_S → (Int32 → fx_S → Prop) → Prop := fx_Met κ.1 κ.2.1 vwCl κ.2.2.1 κ.2.2.2 lyX nwl y_Fc_keepTrial ws_Fc_keepTrial rm_Fc_keepTrial false
def tt_Fc_keepTrial (κ : fx_K) (post : Int32 → fx_S → Prop) : List (Nat × fx_M fx_S) := [(0, fm_loada 0 1),
  (1, fm_loada 0 2),
  (2, fm_getr 0 6 5),
  (5, fm_get 6 5 8),
  (8, fm_put 0 9 11),
  (11, fm_const 0 12),
  (12, fm_store 2 13),
  (13, fm_load 2 14),
  (14, fm_const 8 16),
  (16, fm_cmpge 39 19),
  (19, fm_loada 0 20),
  (20, fm_getr 0 7 23),
  (23, fm_load 2 24),
  (24, fm_loada 0 25),
  (25, fm_getr 0 6 28),
  (28, fm_load 2 29),
  (29, fm_call true 6 1 (MC_Ti_timeOf κ) 32),
  (32, fm_ast lnXI 33),
  (33, fm_inc 2 1 36),
  (36, fm_goto 13),
  (39, fm_loada 0 40),
  (40, fm_loada 0 41),
  (41, fm_getr 0 6 44),
  (44, fm_get 6 8 47),
  (47, fm_put 0 13 50),
  (50, fm_loada 0 51),
  (51, fm_loada 0 52),
  (52, fm_getr 0 6 55),
  (55, fm_get 6 7 58),
  (58, fm_put 0 14 61),
  (61, fm_loada 0 62),
  (62, fm_getr 0 5 65),
  (65, fm_load 1 66),
  (66, fm_call false 5 1 (MC_Ac_grow κ) 69),
  (69, fm_loada 0 70),
  (70, fm_loada 0 71),
  (71, fm_getr 0 5 74),
  (74, fm_loada 0 75),
  (75, fm_get 0 9 78),
  (78, fm_loada 0 79),
  (79, fm_get 0 10 82),
  (82, fm_loada 0 83),
  (83, fm_getr 0 7 86),
  (86, fm_call true 5 3 (MC_Ac_workOut κ) 89),
  (89, fm_put 0 12 92),
  (92, fm_loada 0 93),
  (93, fm_loada 0 94),
  (94, fm_get 0 9 97),
  (97, fm_put 0 10 100),
  (100, fm_vret post)]
set_option maxHeartbeats 4000000 in
set_option maxRecDepth 100000 in
theorem mo_Fc_keepTrial {κ : fx_K} (hq : fx_I κ lyX.length) {av : List fx_V} {S : fx_S} {post : Int32 → fx_S → Prop} (hlen : av.length ≤ 3) (body : ∀ J : fx_J fx_S, (∀ r ∈ tt_Fc_keepTrial κ post, fx_Snd J r.1 r.2) → (∀ pc k ls st S, J pc (ls.take k) st S → J pc ls st S) → J 0 av [] S) : MC_Fc_keepTrial κ av S post := by
  refine fx_Met_of (cc := c_Fc_keepTrial) (nL := 3) (ret := none) (by decide) rfl hq hlen ?_
  intro p e s m args below meth c hC hr hnw
  refine body _ ?_ fx_W_take
  have hF := hC.1
  have hts := hC.1.2.2.2.2
  have hm : ∀ {w : Cond}, w ∈ TB → w.before args s = true := fun h => hts _ (List.mem_cons_of_mem _ h)
  have g47 : ∀ (Q : State → Prop) (pc : Nat), decode c_Fc_keepTrial pc = .ok (.getfield 47, 3) → fx_Snd (fx_W p κ.1 e rm_Fc_keepTrial s m args below meth c Q (fx_A κ.2.2.2 lyX.length) 0 0 (fx_P κ.2.1 vwCl κ.2.2.1 κ.2.2.2 lyX) κ.2.2.2 3) pc (fm_getr 0 6 (pc + 3)) := fun Q pc hd => fs_getr hC (cN := 0) (j := 5) (ci := 0) (C := R_Fc) (T := T_Fc) (N := 17) rfl rfl rfl (by decide) (fun w h => List.mem_cons_of_mem _ (in_Fc w h)) (hm wd_223) hd
  have g186 : ∀ (Q : State → Prop) (pc : Nat), decode c_Fc_keepTrial pc = .ok (.getfield 186, 3) → fx_Snd (fx_W p κ.1 e rm_Fc_keepTrial s m args below meth c Q (fx_A κ.2.2.2 lyX.length) 0 0 (fx_P κ.2.1 vwCl κ.2.2.1 κ.2.2.2 lyX) κ.2.2.2 3) pc (fm_get 6 5 (pc + 3)) := fun Q pc hd => fs_getN hC (cN := 6) (j := 5) (ci := 6) (C := R_Ti) (T := T_Ti) (N := 11) rfl rfl rfl (by decide) (fun w h => List.mem_cons_of_mem _ (in_Ti w h)) (hnw _ (List.mem_of_getElem? (i := 19) rfl)) hd
  have g51 : ∀ (Q : State → Prop) (pc : Nat), decode c_Fc_keepTrial pc = .ok (.getfield 51, 3) → fx_Snd (fx_W p κ.1 e rm_Fc_keepTrial s m args below meth c Q (fx_A κ.2.2.2 lyX.length) 0 0 (fx_P κ.2.1 vwCl κ.2.2.1 κ.2.2.2 lyX) κ.2.2.2 3) pc (fm_getr 0 7 (pc + 3)) := fun Q pc hd => fs_getr hC (cN := 0) (j := 6) (ci := 0) (C := R_Fc) (T := T_Fc) (N := 17) rfl rfl rfl (by decide) (fun w h => List.mem_cons_of_mem _ (in_Fc w h)) (hm wd_224) hd
  have g215 : ∀ (Q : State → Prop) (pc : Nat), decode c_Fc_keepTrial pc = .ok (.getfield 215, 3) → fx_Snd (fx_W p κ.1 e rm_Fc_keepTrial s m args below meth c Q (fx_A κ.2.2.2 lyX.length) 0 0 (fx_P κ.2.1 vwCl κ.2.2.1 κ.2.2.2 lyX) κ.2.2.2 3) pc (fm_get 6 8 (pc + 3)) := fun Q pc hd => fs_getN hC (cN := 6) (j := 8) (ci := 6) (C := R_Ti) (T := T_Ti) (N := 11) rfl rfl rfl (by decide) (fun w h => List.mem_cons_of_mem _ (in_Ti w h)) (hnw _ (List.mem_of_getElem? (i := 21) rfl)) hd
  have g218 : ∀ (Q : State → Prop) (pc : Nat), decode c_Fc_keepTrial pc = .ok (.getfield 218, 3) → fx_Snd (fx_W p κ.1 e rm_Fc_keepTrial s m args below meth c Q (fx_A κ.2.2.2 lyX.length) 0 0 (fx_P κ.2.1 vwCl κ.2.2.1 κ.2.2.2 lyX) κ.2.2.2 3) pc (fm_get 6 7 (pc + 3)) := fun Q pc hd => fs_getN hC (cN := 6) (j := 7) (ci := 6) (C := R_Ti) (T := T_Ti) (N := 11) rfl rfl rfl (by decide) (fun w h => List.mem_cons_of_mem _ (in_Ti w h)) (hnw _ (List.mem_of_getElem? (i := 20) rfl)) hd
  have g40 : ∀ (Q : State → Prop) (pc : Nat), decode c_Fc_keepTrial pc = .ok (.getfield 40, 3) → fx_Snd (fx_W p κ.1 e rm_Fc_keepTrial s m args below meth c Q (fx_A κ.2.2.2 lyX.length) 0 0 (fx_P κ.2.1 vwCl κ.2.2.1 κ.2.2.2 lyX) κ.2.2.2 3) pc (fm_getr 0 5 (pc + 3)) := fun Q pc hd => fs_getr hC (cN := 0) (j := 4) (ci := 0) (C := R_Fc) (T := T_Fc) (N := 17) rfl rfl rfl (by decide) (fun w h => List.mem_cons_of_mem _ (in_Fc w h)) (hm wd_222) hd
  have g129 : ∀ (Q : State → Prop) (pc : Nat), decode c_Fc_keepTrial pc = .ok (.getfield 129, 3) → fx_Snd (fx_W p κ.1 e rm_Fc_keepTrial s m args below meth c Q (fx_A κ.2.2.2 lyX.length) 0 0 (fx_P κ.2.1 vwCl κ.2.2.1 κ.2.2.2 lyX) κ.2.2.2 3) pc (fm_get 0 9 (pc + 3)) := fun Q pc hd => fs_get hC (cN := 0) (j := 9) (ci := 0) (C := R_Fc) (T := T_Fc) (N := 17) rfl rfl rfl (by decide) (fun w h => List.mem_cons_of_mem _ (in_Fc w h)) (hm wd_227) hd
  have g174 : ∀ (Q : State → Prop) (pc : Nat), decode c_Fc_keepTrial pc = .ok (.getfield 174, 3) → fx_Snd (fx_W p κ.1 e rm_Fc_keepTrial s m args below meth c Q (fx_A κ.2.2.2 lyX.length) 0 0 (fx_P κ.2.1 vwCl κ.2.2.1 κ.2.2.2 lyX) κ.2.2.2 3) pc (fm_get 0 10 (pc + 3)) := fun Q pc hd => fs_get hC (cN := 0) (j := 10) (ci := 0) (C := R_Fc) (T := T_Fc) (N := 17) rfl rfl rfl (by decide) (fun w h => List.mem_cons_of_mem _ (in_Fc w h)) (hm wd_228) hd
  refine List.forall_mem_cons.mpr ⟨fs_loada_n hF d_Fc_keepTrial_0 rfl, ?_⟩
  refine List.forall_mem_cons.mpr ⟨fs_loada_n hF d_Fc_keepTrial_1 rfl, ?_⟩
  refine List.forall_mem_cons.mpr ⟨g47 _ 2 d_Fc_keepTrial_2, ?_⟩
  refine List.forall_mem_cons.mpr ⟨g186 _ 5 d_Fc_keepTrial_5, ?_⟩
  refine List.forall_mem_cons.mpr ⟨fs_put hC (cN := 0) (j := 9) (ci := 0) (C := R_Fc) (T := T_Fc) (N := 17) rfl rfl rfl (by decide) ty_Fc tk_Fc nm_Fc rfl (by decide +kernel) (fun w h => List.mem_cons_of_mem _ (in_Fc w h)) (hm wd_227) d_Fc_keepTrial_8, ?_⟩
  refine List.forall_mem_cons.mpr ⟨fs_const hF d_Fc_keepTrial_11 (by decide), ?_⟩
  refine List.forall_mem_cons.mpr ⟨fs_store_n hF d_Fc_keepTrial_12 rfl (by decide), ?_⟩
  refine List.forall_mem_cons.mpr ⟨fs_load_n hF d_Fc_keepTrial_13 rfl, ?_⟩
  refine List.forall_mem_cons.mpr ⟨fs_bipush hF d_Fc_keepTrial_14 (by decide), ?_⟩
  refine List.forall_mem_cons.mpr ⟨fs_cmpge hF d_Fc_keepTrial_16 (by decide), ?_⟩
  refine List.forall_mem_cons.mpr ⟨fs_loada_n hF d_Fc_keepTrial_19 rfl, ?_⟩
  refine List.forall_mem_cons.mpr ⟨g51 _ 20 d_Fc_keepTrial_20, ?_⟩
  refine List.forall_mem_cons.mpr ⟨fs_load_n hF d_Fc_keepTrial_23 rfl, ?_⟩
  refine List.forall_mem_cons.mpr ⟨fs_loada_n hF d_Fc_keepTrial_24 rfl, ?_⟩
  refine List.forall_mem_cons.mpr ⟨g47 _ 25 d_Fc_keepTrial_25, ?_⟩
  refine List.forall_mem_cons.mpr ⟨fs_load_n hF d_Fc_keepTrial_28 rfl, ?_⟩
  refine List.forall_mem_cons.mpr ⟨fs_callV hC nwl_ok hnw (cN := 6) (ci := 6) (C := R_Ti) rfl rfl ⟨callB_of 1 hts (tb_good wd_432) rfl rfl rfl (hm wd_38) (hm wd_467) pd_Ti_timeOf ⟨Nat.le_of_ble_eq_true rfl, Nat.le_of_ble_eq_true rfl⟩, hm wd_430, hm wd_431⟩ d_Fc_keepTrial_29, ?_⟩
  refine List.forall_mem_cons.mpr ⟨fs_ast hC lkXI d_Fc_keepTrial_32, ?_⟩
  refine List.forall_mem_cons.mpr ⟨fs_inc hF d_Fc_keepTrial_33 (by decide) (by decide), ?_⟩
  refine List.forall_mem_cons.mpr ⟨fs_goto hF d_Fc_keepTrial_36 (by decide), ?_⟩
  refine List.forall_mem_cons.mpr ⟨fs_loada_n hF d_Fc_keepTrial_39 rfl, ?_⟩
  refine List.forall_mem_cons.mpr ⟨fs_loada_n hF d_Fc_keepTrial_40 rfl, ?_⟩
  refine List.forall_mem_cons.mpr ⟨g47 _ 41 d_Fc_keepTrial_41, ?_⟩
  refine List.forall_mem_cons.mpr ⟨g215 _ 44 d_Fc_keepTrial_44, ?_⟩
  refine List.forall_mem_cons.mpr ⟨fs_put hC (cN := 0) (j := 13) (ci := 0) (C := R_Fc) (T := T_Fc) (N := 17) rfl rfl rfl (by decide) ty_Fc tk_Fc nm_Fc rfl (by decide +kernel) (fun w h => List.mem_cons_of_mem _ (in_Fc w h)) (hm wd_231) d_Fc_keepTrial_47, ?_⟩
  refine List.forall_mem_cons.mpr ⟨fs_loada_n hF d_Fc_keepTrial_50 rfl, ?_⟩
  refine List.forall_mem_cons.mpr ⟨fs_loada_n hF d_Fc_keepTrial_51 rfl, ?_⟩
  refine List.forall_mem_cons.mpr ⟨g47 _ 52 d_Fc_keepTrial_52, ?_⟩
  refine List.forall_mem_cons.mpr ⟨g218 _ 55 d_Fc_keepTrial_55, ?_⟩
  refine List.forall_mem_cons.mpr ⟨fs_put hC (cN := 0) (j := 14) (ci := 0) (C := R_Fc) (T := T_Fc) (N := 17) rfl rfl rfl (by decide) ty_Fc tk_Fc nm_Fc rfl (by decide +kernel) (fun w h => List.mem_cons_of_mem _ (in_Fc w h)) (hm wd_232) d_Fc_keepTrial_58, ?_⟩
  refine List.forall_mem_cons.mpr ⟨fs_loada_n hF d_Fc_keepTrial_61 rfl, ?_⟩
  refine List.forall_mem_cons.mpr ⟨g40 _ 62 d_Fc_keepTrial_62, ?_⟩
  refine List.forall_mem_cons.mpr ⟨fs_load_n hF d_Fc_keepTrial_65 rfl, ?_⟩
  refine List.forall_mem_cons.mpr ⟨fs_callV hC nwl_ok hnw (cN := 5) (ci := 5) (C := R_Ac) rfl rfl ⟨callB_of 1 hts (tb_good wd_471) rfl rfl rfl (hm wd_37) (hm wd_468) pd_Ac_grow ⟨Nat.le_of_ble_eq_true rfl, Nat.le_of_ble_eq_true rfl⟩, hm wd_469, hm wd_470⟩ d_Fc_keepTrial_66, ?_⟩
  refine List.forall_mem_cons.mpr ⟨fs_loada_n hF d_Fc_keepTrial_69 rfl, ?_⟩
  refine List.forall_mem_cons.mpr ⟨fs_loada_n hF d_Fc_keepTrial_70 rfl, ?_⟩
  refine List.forall_mem_cons.mpr ⟨g40 _ 71 d_Fc_keepTrial_71, ?_⟩
  refine List.forall_mem_cons.mpr ⟨fs_loada_n hF d_Fc_keepTrial_74 rfl, ?_⟩
  refine List.forall_mem_cons.mpr ⟨g129 _ 75 d_Fc_keepTrial_75, ?_⟩
  refine List.forall_mem_cons.mpr ⟨fs_loada_n hF d_Fc_keepTrial_78 rfl, ?_⟩
  refine List.forall_mem_cons.mpr ⟨g174 _ 79 d_Fc_keepTrial_79, ?_⟩
  refine List.forall_mem_cons.mpr ⟨fs_loada_n hF d_Fc_keepTrial_82 rfl, ?_⟩
  refine List.forall_mem_cons.mpr ⟨g51 _ 83 d_Fc_keepTrial_83, ?_⟩
  refine List.forall_mem_cons.mpr ⟨fs_callV hC nwl_ok hnw (cN := 5) (ci := 5) (C := R_Ac) rfl rfl ⟨callB_of 3 hts (tb_good wd_476) rfl rfl rfl (hm wd_37) (hm wd_473) pd_Ac_workOut ⟨Nat.le_of_ble_eq_true rfl, Nat.le_of_ble_eq_true rfl⟩, hm wd_474, hm wd_475⟩ d_Fc_keepTrial_86, ?_⟩
  refine List.forall_mem_cons.mpr ⟨fs_put hC (cN := 0) (j := 12) (ci := 0) (C := R_Fc) (T := T_Fc) (N := 17) rfl rfl rfl (by decide) ty_Fc tk_Fc nm_Fc rfl (by decide +kernel) (fun w h => List.mem_cons_of_mem _ (in_Fc w h)) (hm wd_230) d_Fc_keepTrial_89, ?_⟩
  refine List.forall_mem_cons.mpr ⟨fs_loada_n hF d_Fc_keepTrial_92 rfl, ?_⟩
  refine List.forall_mem_cons.mpr ⟨fs_loada_n hF d_Fc_keepTrial_93 rfl, ?_⟩
  refine List.forall_mem_cons.mpr ⟨g129 _ 94 d_Fc_keepTrial_94, ?_⟩
  refine List.forall_mem_cons.mpr ⟨fs_put hC (cN := 0) (j := 10) (ci := 0) (C := R_Fc) (T := T_Fc) (N := 17) rfl rfl rfl (by decide) ty_Fc tk_Fc nm_Fc rfl (by decide +kernel) (fun w h => List.mem_cons_of_mem _ (in_Fc w h)) (hm wd_228) d_Fc_keepTrial_97, ?_⟩
  refine List.forall_mem_cons.mpr ⟨fs_vret hC hr d_Fc_keepTrial_100, ?_⟩
  exact fun _ h => absurd h List.not_mem_nil
abbrev rm_Fc_scan : Room := { frames := 6, cells := 0, slots := 0, locals := 139 }
def ws_Fc_scan : List Cond := .code y_Fc_scan c_Fc_scan 5 (some .int) :: TB
abbrev MC_Fc_scan (κ : fx_K) : List fx_V → fx_S → (Int32 → fx_S → Prop) → Prop := fx_Met κ.1 κ.2.1 vwCl κ.2.2.1 κ.2.2.2 lyX nwl y_Fc_scan ws_Fc_scan rm_Fc_scan true
def tt_Fc_scan (κ : fx_K) (post : Int32 → fx_S → Prop) : List (Nat × fx_M fx_S) := [(0, fm_loada 0 1),
  (1, fm_get 0 7 4),
  (4, fm_ifeq 14 7),
  (7, fm_load 2 8),
  (8, fm_calls true 1 (MC_Fc_isSpan κ) 11),
  (11, fm_ifne 17 14),
  (14, fm_const (-2) 16),
  (16, fm_ret post),
  (17, fm_load 1 18),
  (18, fm_const 255 21),
  (21, fm_iand 22),
  (22, fm_store 3 23),
  (23, fm_loada 0 24),
  (24, fm_getr 0 6 27),
  (27, fm_loada 0 28),
  (28, fm_get 0 9 31),
  (31, fm_loada 0 32),
  (32, fm_getr 0 7 35),
  (35, fm_load 2 36),
  (36, fm_call false 6 3 (MC_Ti_begin κ) 39),
  (39, fm_loada 0 40),
  (40, fm_getr 0 6 43),
  (43, fm_loada 0 44),
  (44, fm_get 0 11 47),
  (47, fm_load 3 48),
  (48, fm_call false 6 2 (MC_Ti_sense κ) 51),
  (51, fm_loada 0 52),
  (52, fm_call true 0 0 (MC_Fc_comesToAnEnd κ) 55),
  (55, fm_store 4 57),
  (57, fm_loada 0 58),
  (58, fm_loada 0 59),
  (59, fm_getr 0 6 62),
  (62, fm_get 6 9 65),
  (65, fm_put 0 15 68),
  (68, fm_loada 0 69),
  (69, fm_loada 0 70),
  (70, fm_getr 0 6 73),
  (73, fm_get 6 10 76),
  (76, fm_put 0 16 79),
  (79, fm_load 4 81),
  (81, fm_ifne 86 84),
  (84, fm_const (-1) 85),
  (85, fm_ret post),
  (86, fm_loada 0 87),
  (87, fm_load 3 88),
  (88, fm_put 0 11 91),
  (91, fm_loada 0 92),
  (92, fm_load 2 93),
  (93, fm_call false 0 1 (MC_Fc_keepTrial κ) 96),
  (96, fm_loada 0 97),
  (97, fm_get 0 13 100),
  (100, fm_ret post)]
set_option maxHeartbeats 4000000 in
set_option maxRecDepth 100000 in
theorem mo_Fc_scan {κ : fx_K} (hq : fx_I κ lyX.length) {av : List fx_V} {S : fx_S} {post : Int32 → fx_S → Prop} (hlen : av.length ≤ 5) (body : ∀ J : fx_J fx_S, (∀ r ∈ tt_Fc_scan κ post, fx_Snd J r.1 r.2) → (∀ pc k ls st S, J pc (ls.take k) st S → J pc ls st S) → J 0 av [] S) : MC_Fc_scan κ av S post := by
  refine fx_Met_of (cc := c_Fc_scan) (nL := 5) (ret := (some .int)) (by decide) rfl hq hlen ?_
  intro p e s m args below meth c hC hr hnw
  refine body _ ?_ fx_W_take
  have hF := hC.1
  have hts := hC.1.2.2.2.2
  have hm : ∀ {w : Cond}, w ∈ TB → w.before args s = true := fun h => hts _ (List.mem_cons_of_mem _ h)
  have g55 : ∀ (Q : State → Prop) (pc : Nat), decode c_Fc_scan pc = .ok (.getfield 55, 3) → fx_Snd (fx_W p κ.1 e rm_Fc_scan s m args below meth c Q (fx_A κ.2.2.2 lyX.length) 0 0 (fx_P κ.2.1 vwCl κ.2.2.1 κ.2.2.2 lyX) κ.2.2.2 5) pc (fm_get 0 7 (pc + 3)) := fun Q pc hd => fs_get hC (cN := 0) (j := 7) (ci := 0) (C := R_Fc) (T := T_Fc) (N := 17) rfl rfl rfl (by decide) (fun w h => List.mem_cons_of_mem _ (in_Fc w h)) (hm wd_225) hd
  have g47 : ∀ (Q : State → Prop) (pc : Nat), decode c_Fc_scan pc = .ok (.getfield 47, 3) → fx_Snd (fx_W p κ.1 e rm_Fc_scan s m args below meth c Q (fx_A κ.2.2.2 lyX.length) 0 0 (fx_P κ.2.1 vwCl κ.2.2.1 κ.2.2.2 lyX) κ.2.2.2 5) pc (fm_getr 0 6 (pc + 3)) := fun Q pc hd => fs_getr hC (cN := 0) (j := 5) (ci := 0) (C := R_Fc) (T := T_Fc) (N := 17) rfl rfl rfl (by decide) (fun w h => List.mem_cons_of_mem _ (in_Fc w h)) (hm wd_223) hd
  have g129 : ∀ (Q : State → Prop) (pc : Nat), decode c_Fc_scan pc = .ok (.getfield 129, 3) → fx_Snd (fx_W p κ.1 e rm_Fc_scan s m args below meth c Q (fx_A κ.2.2.2 lyX.length) 0 0 (fx_P κ.2.1 vwCl κ.2.2.1 κ.2.2.2 lyX) κ.2.2.2 5) pc (fm_get 0 9 (pc + 3)) := fun Q pc hd => fs_get hC (cN := 0) (j := 9) (ci := 0) (C := R_Fc) (T := T_Fc) (N := 17) rfl rfl rfl (by decide) (fun w h => List.mem_cons_of_mem _ (in_Fc w h)) (hm wd_227) hd
  have g51 : ∀ (Q : State → Prop) (pc : Nat), decode c_Fc_scan pc = .ok (.getfield 51, 3) → fx_Snd (fx_W p κ.1 e rm_Fc_scan s m args below meth c Q (fx_A κ.2.2.2 lyX.length) 0 0 (fx_P κ.2.1 vwCl κ.2.2.1 κ.2.2.2 lyX) κ.2.2.2 5) pc (fm_getr 0 7 (pc + 3)) := fun Q pc hd => fs_getr hC (cN := 0) (j := 6) (ci := 0) (C := R_Fc) (T := T_Fc) (N := 17) rfl rfl rfl (by decide) (fun w h => List.mem_cons_of_mem _ (in_Fc w h)) (hm wd_224) hd
  have g136 : ∀ (Q : State → Prop) (pc : Nat), decode c_Fc_scan pc = .ok (.getfield 136, 3) → fx_Snd (fx_W p κ.1 e rm_Fc_scan s m args below meth c Q (fx_A κ.2.2.2 lyX.length) 0 0 (fx_P κ.2.1 vwCl κ.2.2.1 κ.2.2.2 lyX) κ.2.2.2 5) pc (fm_get 0 11 (pc + 3)) := fun Q pc hd => fs_get hC (cN := 0) (j := 11) (ci := 0) (C := R_Fc) (T := T_Fc) (N := 17) rfl rfl rfl (by decide) (fun w h => List.mem_cons_of_mem _ (in_Fc w h)) (hm wd_229) hd
  have g147 : ∀ (Q : State → Prop) (pc : Nat), decode c_Fc_scan pc = .ok (.getfield 147, 3) → fx_Snd (fx_W p κ.1 e rm_Fc_scan s m args below meth c Q (fx_A κ.2.2.2 lyX.length) 0 0 (fx_P κ.2.1 vwCl κ.2.2.1 κ.2.2.2 lyX) κ.2.2.2 5) pc (fm_get 6 9 (pc + 3)) := fun Q pc hd => fs_getN hC (cN := 6) (j := 9) (ci := 6) (C := R_Ti) (T := T_Ti) (N := 11) rfl rfl rfl (by decide) (fun w h => List.mem_cons_of_mem _ (in_Ti w h)) (hnw _ (List.mem_of_getElem? (i := 22) rfl)) hd
  have g151 : ∀ (Q : State → Prop) (pc : Nat), decode c_Fc_scan pc = .ok (.getfield 151, 3) → fx_Snd (fx_W p κ.1 e rm_Fc_scan s m args below meth c Q (fx_A κ.2.2.2 lyX.length) 0 0 (fx_P κ.2.1 vwCl κ.2.2.1 κ.2.2.2 lyX) κ.2.2.2 5) pc (fm_get 6 10 (pc + 3)) := fun Q pc hd => fs_getN hC (cN := 6) (j := 10) (ci := 6) (C := R_Ti) (T := T_Ti) (N := 11) rfl rfl rfl (by decide) (fun w h => List.mem_cons_of_mem _ (in_Ti w h)) (hnw _ (List.mem_of_getElem? (i := 23) rfl)) hd
  have g159 : ∀ (Q : State → Prop) (pc : Nat), decode c_Fc_scan pc = .ok (.getfield 159, 3) → fx_Snd (fx_W p κ.1 e rm_Fc_scan s m args below meth c Q (fx_A κ.2.2.2 lyX.length) 0 0 (fx_P κ.2.1 vwCl κ.2.2.1 κ.2.2.2 lyX) κ.2.2.2 5) pc (fm_get 0 13 (pc + 3)) := fun Q pc hd => fs_get hC (cN := 0) (j := 13) (ci := 0) (C := R_Fc) (T := T_Fc) (N := 17) rfl rfl rfl (by decide) (fun w h => List.mem_cons_of_mem _ (in_Fc w h)) (hm wd_231) hd
  refine List.forall_mem_cons.mpr ⟨fs_loada_n hF d_Fc_scan_0 rfl, ?_⟩
  refine List.forall_mem_cons.mpr ⟨g55 _ 1 d_Fc_scan_1, ?_⟩
  refine List.forall_mem_cons.mpr ⟨fs_ifeq hF d_Fc_scan_4 (by decide), ?_⟩
  refine List.forall_mem_cons.mpr ⟨fs_load_n hF d_Fc_scan_7 rfl, ?_⟩
  refine List.forall_mem_cons.mpr ⟨fs_callS hC nwl_ok hnw ⟨callB_of 1 hts (tb_good wd_295) rfl rfl rfl (hm wd_32) (hm wd_346) pd_Fc_isSpan ⟨Nat.le_of_ble_eq_true rfl, Nat.le_of_ble_eq_true rfl⟩, hm wd_294⟩ d_Fc_scan_8, ?_⟩
  refine List.forall_mem_cons.mpr ⟨fs_ifne hF d_Fc_scan_11 (by decide), ?_⟩
  refine List.forall_mem_cons.mpr ⟨fs_bipush hF d_Fc_scan_14 (by decide), ?_⟩
  refine List.forall_mem_cons.mpr ⟨fs_ret hC hr d_Fc_scan_16, ?_⟩
  refine List.forall_mem_cons.mpr ⟨fs_load_n hF d_Fc_scan_17 rfl, ?_⟩
  refine List.forall_mem_cons.mpr ⟨fs_sipush hF d_Fc_scan_18 (by decide), ?_⟩
  refine List.forall_mem_cons.mpr ⟨fs_iand hF d_Fc_scan_21, ?_⟩
  refine List.forall_mem_cons.mpr ⟨fs_store_n hF d_Fc_scan_22 rfl (by decide), ?_⟩
  refine List.forall_mem_cons.mpr ⟨fs_loada_n hF d_Fc_scan_23 rfl, ?_⟩
  refine List.forall_mem_cons.mpr ⟨g47 _ 24 d_Fc_scan_24, ?_⟩
  refine List.forall_mem_cons.mpr ⟨fs_loada_n hF d_Fc_scan_27 rfl, ?_⟩
  refine List.forall_mem_cons.mpr ⟨g129 _ 28 d_Fc_scan_28, ?_⟩
  refine List.forall_mem_cons.mpr ⟨fs_loada_n hF d_Fc_scan_31 rfl, ?_⟩
  refine List.forall_mem_cons.mpr ⟨g51 _ 32 d_Fc_scan_32, ?_⟩
  refine List.forall_mem_cons.mpr ⟨fs_load_n hF d_Fc_scan_35 rfl, ?_⟩
  refine List.forall_mem_cons.mpr ⟨fs_callV hC nwl_ok hnw (cN := 6) (ci := 6) (C := R_Ti) rfl rfl ⟨callB_of 3 hts (tb_good wd_406) rfl rfl rfl (hm wd_38) (hm wd_403) pd_Ti_begin ⟨Nat.le_of_ble_eq_true rfl, Nat.le_of_ble_eq_true rfl⟩, hm wd_404, hm wd_405⟩ d_Fc_scan_36, ?_⟩
  refine List.forall_mem_cons.mpr ⟨fs_loada_n hF d_Fc_scan_39 rfl, ?_⟩
  refine List.forall_mem_cons.mpr ⟨g47 _ 40 d_Fc_scan_40, ?_⟩
  refine List.forall_mem_cons.mpr ⟨fs_loada_n hF d_Fc_scan_43 rfl, ?_⟩
  refine List.forall_mem_cons.mpr ⟨g136 _ 44 d_Fc_scan_44, ?_⟩
  refine List.forall_mem_cons.mpr ⟨fs_load_n hF d_Fc_scan_47 rfl, ?_⟩
  refine List.forall_mem_cons.mpr ⟨fs_callV hC nwl_ok hnw (cN := 6) (ci := 6) (C := R_Ti) rfl rfl ⟨callB_of 2 hts (tb_good wd_411) rfl rfl rfl (hm wd_38) (hm wd_408) pd_Ti_sense ⟨Nat.le_of_ble_eq_true rfl, Nat.le_of_ble_eq_true rfl⟩, hm wd_409, hm wd_410⟩ d_Fc_scan_48, ?_⟩
  refine List.forall_mem_cons.mpr ⟨fs_loada_n hF d_Fc_scan_51 rfl, ?_⟩
  refine List.forall_mem_cons.mpr ⟨fs_callV hC nwl_ok hnw (cN := 0) (ci := 0) (C := R_Fc) rfl rfl ⟨callB_of 0 hts (tb_good wd_415) rfl rfl rfl (hm wd_32) (hm wd_412) pd_Fc_comesToAnEnd ⟨Nat.le_of_ble_eq_true rfl, Nat.le_of_ble_eq_true rfl⟩, hm wd_414, hm wd_4⟩ d_Fc_scan_52, ?_⟩
  refine List.forall_mem_cons.mpr ⟨fs_store hF d_Fc_scan_55 (by decide), ?_⟩
  refine List.forall_mem_cons.mpr ⟨fs_loada_n hF d_Fc_scan_57 rfl, ?_⟩
  refine List.forall_mem_cons.mpr ⟨fs_loada_n hF d_Fc_scan_58 rfl, ?_⟩
  refine List.forall_mem_cons.mpr ⟨g47 _ 59 d_Fc_scan_59, ?_⟩
  refine List.forall_mem_cons.mpr ⟨g147 _ 62 d_Fc_scan_62, ?_⟩
  refine List.forall_mem_cons.mpr ⟨fs_put hC (cN := 0) (j := 15) (ci := 0) (C := R_Fc) (T := T_Fc) (N := 17) rfl rfl rfl (by decide) ty_Fc tk_Fc nm_Fc rfl (by decide +kernel) (fun w h => List.mem_cons_of_mem _ (in_Fc w h)) (hm wd_233) d_Fc_scan_65, ?_⟩
  refine List.forall_mem_cons.mpr ⟨fs_loada_n hF d_Fc_scan_68 rfl, ?_⟩
  refine List.forall_mem_cons.mpr ⟨fs_loada_n hF d_Fc_scan_69 rfl, ?_⟩
  refine List.forall_mem_cons.mpr ⟨g47 _ 70 d_Fc_scan_70, ?_⟩
  refine List.forall_mem_cons.mpr ⟨g151 _ 73 d_Fc_scan_73, ?_⟩
  refine List.forall_mem_cons.mpr ⟨fs_put hC (cN := 0) (j := 16) (ci := 0) (C := R_Fc) (T := T_Fc) (N := 17) rfl rfl rfl (by decide) ty_Fc tk_Fc nm_Fc rfl (by decide +kernel) (fun w h => List.mem_cons_of_mem _ (in_Fc w h)) (hm wd_234) d_Fc_scan_76, ?_⟩
  refine List.forall_mem_cons.mpr ⟨fs_load hF d_Fc_scan_79, ?_⟩
  refine List.forall_mem_cons.mpr ⟨fs_ifne hF d_Fc_scan_81 (by decide), ?_⟩
  refine List.forall_mem_cons.mpr ⟨fs_const hF d_Fc_scan_84 (by decide), ?_⟩
  refine List.forall_mem_cons.mpr ⟨fs_ret hC hr d_Fc_scan_85, ?_⟩
  refine List.forall_mem_cons.mpr ⟨fs_loada_n hF d_Fc_scan_86 rfl, ?_⟩
  refine List.forall_mem_cons.mpr ⟨fs_load_n hF d_Fc_scan_87 rfl, ?_⟩
  refine List.forall_mem_cons.mpr ⟨fs_put hC (cN := 0) (j := 11) (ci := 0) (C := R_Fc) (T := T_Fc) (N := 17) rfl rfl rfl (by decide) ty_Fc tk_Fc nm_Fc rfl (by decide +kernel) (fun w h => List.mem_cons_of_mem _ (in_Fc w h)) (hm wd_229) d_Fc_scan_88, ?_⟩
  refine List.forall_mem_cons.mpr ⟨fs_loada_n hF d_Fc_scan_91 rfl, ?_⟩
  refine List.forall_mem_cons.mpr ⟨fs_load_n hF d_Fc_scan_92 rfl, ?_⟩
  refine List.forall_mem_cons.mpr ⟨fs_callV hC nwl_ok hnw (cN := 0) (ci := 0) (C := R_Fc) rfl rfl ⟨callB_of 1 hts (tb_good wd_466) rfl rfl rfl (hm wd_32) (hm wd_463) pd_Fc_keepTrial ⟨Nat.le_of_ble_eq_true rfl, Nat.le_of_ble_eq_true rfl⟩, hm wd_465, hm wd_7⟩ d_Fc_scan_93, ?_⟩
  refine List.forall_mem_cons.mpr ⟨fs_loada_n hF d_Fc_scan_96 rfl, ?_⟩
  refine List.forall_mem_cons.mpr ⟨g159 _ 97 d_Fc_scan_97, ?_⟩
  refine List.forall_mem_cons.mpr ⟨fs_ret hC hr d_Fc_scan_100, ?_⟩
  exact fun _ h => absurd h List.not_mem_nil
abbrev rm_Fc_active : Room := { frames := 0, cells := 0, slots := 0, locals := 0 }
def ws_Fc_active : List Cond := .code y_Fc_active c_Fc_active 1 (some .int) :: TB
abbrev MC_Fc_active (κ : fx_K) : List fx_V → fx_S → (Int32 → fx_S → Prop) → Prop := fx_Met κ.1 κ.2.1 vwCl κ.2.2.1 κ.2.2.2 lyX nwl y_Fc_active ws_Fc_active rm_Fc_active true
def tt_Fc_active (κ : fx_K) (post : Int32 → fx_S → Prop) : List (Nat × fx_M fx_S) := [(0, fm_loada 0 1),
  (1, fm_get 0 9 4),
  (4, fm_ret post)]
set_option maxHeartbeats 4000000 in
set_option maxRecDepth 100000 in
theorem mo_Fc_active {κ : fx_K} (hq : fx_I κ lyX.length) {av : List fx_V} {S : fx_S} {post : Int32 → fx_S → Prop} (hlen : av.length ≤ 1) (body : ∀ J : fx_J fx_S, (∀ r ∈ tt_Fc_active κ post, fx_Snd J r.1 r.2) → (∀ pc k ls st S, J pc (ls.take k) st S → J pc ls st S) → J 0 av [] S) : MC_Fc_active κ av S post := by
  refine fx_Met_of (cc := c_Fc_active) (nL := 1) (ret := (some .int)) (by decide) rfl hq hlen ?_
  intro p e s m args below meth c hC hr hnw
  refine body _ ?_ fx_W_take
  have hF := hC.1
  have hts := hC.1.2.2.2.2
  have hm : ∀ {w : Cond}, w ∈ TB → w.before args s = true := fun h => hts _ (List.mem_cons_of_mem _ h)
  have g129 : ∀ (Q : State → Prop) (pc : Nat), decode c_Fc_active pc = .ok (.getfield 129, 3) → fx_Snd (fx_W p κ.1 e rm_Fc_active s m args below meth c Q (fx_A κ.2.2.2 lyX.length) 0 0 (fx_P κ.2.1 vwCl κ.2.2.1 κ.2.2.2 lyX) κ.2.2.2 1) pc (fm_get 0 9 (pc + 3)) := fun Q pc hd => fs_get hC (cN := 0) (j := 9) (ci := 0) (C := R_Fc) (T := T_Fc) (N := 17) rfl rfl rfl (by decide) (fun w h => List.mem_cons_of_mem _ (in_Fc w h)) (hm wd_227) hd
  refine List.forall_mem_cons.mpr ⟨fs_loada_n hF d_Fc_active_0 rfl, ?_⟩
  refine List.forall_mem_cons.mpr ⟨g129 _ 1 d_Fc_active_1, ?_⟩
  refine List.forall_mem_cons.mpr ⟨fs_ret hC hr d_Fc_active_4, ?_⟩
  exact fun _ h => absurd h List.not_mem_nil
abbrev rm_Fc_time : Room := { frames := 1, cells := 0, slots := 0, locals := 21 }
def ws_Fc_time : List Cond := .code y_Fc_time c_Fc_time 2 (some .int) :: TB
abbrev MC_Fc_time (κ : fx_K) : List fx_V → fx_S → (Int32 → fx_S → Prop) → Prop := fx_Met κ.1 κ.2.1 vwCl κ.2.2.1 κ.2.2.2 lyX nwl y_Fc_time ws_Fc_time rm_Fc_time true
def tt_Fc_time (κ : fx_K) (post : Int32 → fx_S → Prop) : List (Nat × fx_M fx_S) := [(0, fm_loada 0 1),
  (1, fm_getr 0 1 4),
  (4, fm_load 1 5),
  (5, fm_call true 1 1 (MC_St_has κ) 8),
  (8, fm_ifeq 20 11),
  (11, fm_loada 0 12),
  (12, fm_getr 0 7 15),
  (15, fm_load 1 16),
  (16, fm_ald lnXI 17),
  (17, fm_goto 21),
  (20, fm_const 0 21),
  (21, fm_ret post)]
set_option maxHeartbeats 4000000 in
set_option maxRecDepth 100000 in
theorem mo_Fc_time {κ : fx_K} (hq : fx_I κ lyX.length) {av : List fx_V} {S : fx_S} {post : Int32 → fx_S → Prop} (hlen : av.length ≤ 2) (body : ∀ J : fx_J fx_S, (∀ r ∈ tt_Fc_time κ post, fx_Snd J r.1 r.2) → (∀ pc k ls st S, J pc (ls.take k) st S → J pc ls st S) → J 0 av [] S) : MC_Fc_time κ av S post := by
  refine fx_Met_of (cc := c_Fc_time) (nL := 2) (ret := (some .int)) (by decide) rfl hq hlen ?_
  intro p e s m args below meth c hC hr hnw
  refine body _ ?_ fx_W_take
  have hF := hC.1
  have hts := hC.1.2.2.2.2
  have hm : ∀ {w : Cond}, w ∈ TB → w.before args s = true := fun h => hts _ (List.mem_cons_of_mem _ h)
  have g10 : ∀ (Q : State → Prop) (pc : Nat), decode c_Fc_time pc = .ok (.getfield 10, 3) → fx_Snd (fx_W p κ.1 e rm_Fc_time s m args below meth c Q (fx_A κ.2.2.2 lyX.length) 0 0 (fx_P κ.2.1 vwCl κ.2.2.1 κ.2.2.2 lyX) κ.2.2.2 2) pc (fm_getr 0 1 (pc + 3)) := fun Q pc hd => fs_getr hC (cN := 0) (j := 0) (ci := 0) (C := R_Fc) (T := T_Fc) (N := 17) rfl rfl rfl (by decide) (fun w h => List.mem_cons_of_mem _ (in_Fc w h)) (hm wd_218) hd
  have g51 : ∀ (Q : State → Prop) (pc : Nat), decode c_Fc_time pc = .ok (.getfield 51, 3) → fx_Snd (fx_W p κ.1 e rm_Fc_time s m args below meth c Q (fx_A κ.2.2.2 lyX.length) 0 0 (fx_P κ.2.1 vwCl κ.2.2.1 κ.2.2.2 lyX) κ.2.2.2 2) pc (fm_getr 0 7 (pc + 3)) := fun Q pc hd => fs_getr hC (cN := 0) (j := 6) (ci := 0) (C := R_Fc) (T := T_Fc) (N := 17) rfl rfl rfl (by decide) (fun w h => List.mem_cons_of_mem _ (in_Fc w h)) (hm wd_224) hd
  refine List.forall_mem_cons.mpr ⟨fs_loada_n hF d_Fc_time_0 rfl, ?_⟩
  refine List.forall_mem_cons.mpr ⟨g10 _ 1 d_Fc_time_1, ?_⟩
  refine List.forall_mem_cons.mpr ⟨fs_load_n hF d_Fc_time_4 rfl, ?_⟩
  refine List.forall_mem_cons.mpr ⟨fs_callV hC nwl_ok hnw (cN := 1) (ci := 1) (C := R_St) rfl rfl ⟨callB_of 1 hts (tb_good wd_292) rfl rfl rfl (hm wd_33) (hm wd_333) pd_St_has ⟨Nat.le_of_ble_eq_true rfl, Nat.le_of_ble_eq_true rfl⟩, hm wd_290, hm wd_291⟩ d_Fc_time_5, ?_⟩
  refine List.forall_mem_cons.mpr ⟨fs_ifeq hF d_Fc_time_8 (by decide), ?_⟩
  refine List.forall_mem_cons.mpr ⟨fs_loada_n hF d_Fc_time_11 rfl, ?_⟩
  refine List.forall_mem_cons.mpr ⟨g51 _ 12 d_Fc_time_12, ?_⟩
  refine List.forall_mem_cons.mpr ⟨fs_load_n hF d_Fc_time_15 rfl, ?_⟩
  refine List.forall_mem_cons.mpr ⟨fs_ald hC lkXI d_Fc_time_16, ?_⟩
  refine List.forall_mem_cons.mpr ⟨fs_goto hF d_Fc_time_17 (by decide), ?_⟩
  refine List.forall_mem_cons.mpr ⟨fs_const hF d_Fc_time_20 (by decide), ?_⟩
  refine List.forall_mem_cons.mpr ⟨fs_ret hC hr d_Fc_time_21, ?_⟩
  exact fun _ h => absurd h List.not_mem_nil
abbrev rm_Fc_enabled : Room := { frames := 1, cells := 0, slots := 0, locals := 23 }
def ws_Fc_enabled : List Cond := .code y_Fc_enabled c_Fc_enabled 1 (some .int) :: TB
abbrev MC_Fc_enabled (κ : fx_K) : List fx_V → fx_S → (Int32 → fx_S → Prop) → Prop := fx_Met κ.1 κ.2.1 vwCl κ.2.2.1 κ.2.2.2 lyX nwl y_Fc_enabled ws_Fc_enabled rm_Fc_enabled true
def tt_Fc_enabled (κ : fx_K) (post : Int32 → fx_S → Prop) : List (Nat × fx_M fx_S) := [(0, fm_loada 0 1),
  (1, fm_getr 0 3 4),
  (4, fm_loada 0 5),
  (5, fm_get 0 9 8),
  (8, fm_call true 3 1 (MC_Tr_enabledIn κ) 11),
  (11, fm_ret post)]
set_option maxHeartbeats 4000000 in
set_option maxRecDepth 100000 in
theorem mo_Fc_enabled {κ : fx_K} (hq : fx_I κ lyX.length) {av : List fx_V} {S : fx_S} {post : Int32 → fx_S → Prop} (hlen : av.length ≤ 1) (body : ∀ J : fx_J fx_S, (∀ r ∈ tt_Fc_enabled κ post, fx_Snd J r.1 r.2) → (∀ pc k ls st S, J pc (ls.take k) st S → J pc ls st S) → J 0 av [] S) : MC_Fc_enabled κ av S post := by
  refine fx_Met_of (cc := c_Fc_enabled) (nL := 1) (ret := (some .int)) (by decide) rfl hq hlen ?_
  intro p e s m args below meth c hC hr hnw
  refine body _ ?_ fx_W_take
  have hF := hC.1
  have hts := hC.1.2.2.2.2
  have hm : ∀ {w : Cond}, w ∈ TB → w.before args s = true := fun h => hts _ (List.mem_cons_of_mem _ h)
  have g26 : ∀ (Q : State → Prop) (pc : Nat), decode c_Fc_enabled pc = .ok (.getfield 26, 3) → fx_Snd (fx_W p κ.1 e rm_Fc_enabled s m args below meth c Q (fx_A κ.2.2.2 lyX.length) 0 0 (fx_P κ.2.1 vwCl κ.2.2.1 κ.2.2.2 lyX) κ.2.2.2 1) pc (fm_getr 0 3 (pc + 3)) := fun Q pc hd => fs_getr hC (cN := 0) (j := 2) (ci := 0) (C := R_Fc) (T := T_Fc) (N := 17) rfl rfl rfl (by decide) (fun w h => List.mem_cons_of_mem _ (in_Fc w h)) (hm wd_220) hd
  have g129 : ∀ (Q : State → Prop) (pc : Nat), decode c_Fc_enabled pc = .ok (.getfield 129, 3) → fx_Snd (fx_W p κ.1 e rm_Fc_enabled s m args below meth c Q (fx_A κ.2.2.2 lyX.length) 0 0 (fx_P κ.2.1 vwCl κ.2.2.1 κ.2.2.2 lyX) κ.2.2.2 1) pc (fm_get 0 9 (pc + 3)) := fun Q pc hd => fs_get hC (cN := 0) (j := 9) (ci := 0) (C := R_Fc) (T := T_Fc) (N := 17) rfl rfl rfl (by decide) (fun w h => List.mem_cons_of_mem _ (in_Fc w h)) (hm wd_227) hd
  refine List.forall_mem_cons.mpr ⟨fs_loada_n hF d_Fc_enabled_0 rfl, ?_⟩
  refine List.forall_mem_cons.mpr ⟨g26 _ 1 d_Fc_enabled_1, ?_⟩
  refine List.forall_mem_cons.mpr ⟨fs_loada_n hF d_Fc_enabled_4 rfl, ?_⟩
  refine List.forall_mem_cons.mpr ⟨g129 _ 5 d_Fc_enabled_5, ?_⟩
  refine List.forall_mem_cons.mpr ⟨fs_callV hC nwl_ok hnw (cN := 3) (ci := 3) (C := R_Tr) rfl rfl ⟨callB_of 1 hts (tb_good wd_358) rfl rfl rfl (hm wd_35) (hm wd_355) pd_Tr_enabledIn ⟨Nat.le_of_ble_eq_true rfl, Nat.le_of_ble_eq_true rfl⟩, hm wd_356, hm wd_357⟩ d_Fc_enabled_8, ?_⟩
  refine List.forall_mem_cons.mpr ⟨fs_ret hC hr d_Fc_enabled_11, ?_⟩
  exact fun _ h => absurd h List.not_mem_nil
abbrev rm_Fc_outputs : Room := { frames := 0, cells := 0, slots := 0, locals := 0 }
def ws_Fc_outputs : List Cond := .code y_Fc_outputs c_Fc_outputs 1 (some .int) :: TB
abbrev MC_Fc_outputs (κ : fx_K) : List fx_V → fx_S → (Int32 → fx_S → Prop) → Prop := fx_Met κ.1 κ.2.1 vwCl κ.2.2.1 κ.2.2.2 lyX nwl y_Fc_outputs ws_Fc_outputs rm_Fc_outputs true
def tt_Fc_outputs (κ : fx_K) (post : Int32 → fx_S → Prop) : List (Nat × fx_M fx_S) := [(0, fm_loada 0 1),
  (1, fm_get 0 12 4),
  (4, fm_ret post)]
set_option maxHeartbeats 4000000 in
set_option maxRecDepth 100000 in
theorem mo_Fc_outputs {κ : fx_K} (hq : fx_I κ lyX.length) {av : List fx_V} {S : fx_S} {post : Int32 → fx_S → Prop} (hlen : av.length ≤ 1) (body : ∀ J : fx_J fx_S, (∀ r ∈ tt_Fc_outputs κ post, fx_Snd J r.1 r.2) → (∀ pc k ls st S, J pc (ls.take k) st S → J pc ls st S) → J 0 av [] S) : MC_Fc_outputs κ av S post := by
  refine fx_Met_of (cc := c_Fc_outputs) (nL := 1) (ret := (some .int)) (by decide) rfl hq hlen ?_
  intro p e s m args below meth c hC hr hnw
  refine body _ ?_ fx_W_take
  have hF := hC.1
  have hts := hC.1.2.2.2.2
  have hm : ∀ {w : Cond}, w ∈ TB → w.before args s = true := fun h => hts _ (List.mem_cons_of_mem _ h)
  have g162 : ∀ (Q : State → Prop) (pc : Nat), decode c_Fc_outputs pc = .ok (.getfield 162, 3) → fx_Snd (fx_W p κ.1 e rm_Fc_outputs s m args below meth c Q (fx_A κ.2.2.2 lyX.length) 0 0 (fx_P κ.2.1 vwCl κ.2.2.1 κ.2.2.2 lyX) κ.2.2.2 1) pc (fm_get 0 12 (pc + 3)) := fun Q pc hd => fs_get hC (cN := 0) (j := 12) (ci := 0) (C := R_Fc) (T := T_Fc) (N := 17) rfl rfl rfl (by decide) (fun w h => List.mem_cons_of_mem _ (in_Fc w h)) (hm wd_230) hd
  refine List.forall_mem_cons.mpr ⟨fs_loada_n hF d_Fc_outputs_0 rfl, ?_⟩
  refine List.forall_mem_cons.mpr ⟨g162 _ 1 d_Fc_outputs_1, ?_⟩
  refine List.forall_mem_cons.mpr ⟨fs_ret hC hr d_Fc_outputs_4, ?_⟩
  exact fun _ h => absurd h List.not_mem_nil
abbrev rm_Fc_stored : Room := { frames := 2, cells := 0, slots := 0, locals := 42 }
def ws_Fc_stored : List Cond := .code y_Fc_stored c_Fc_stored 2 (some .boolean) :: TB
abbrev MC_Fc_stored (κ : fx_K) : List fx_V → fx_S → (Int32 → fx_S → Prop) → Prop := fx_Met κ.1 κ.2.1 vwCl κ.2.2.1 κ.2.2.2 lyX nwl y_Fc_stored ws_Fc_stored rm_Fc_stored true
def tt_Fc_stored (κ : fx_K) (post : Int32 → fx_S → Prop) : List (Nat × fx_M fx_S) := [(0, fm_loada 0 1),
  (1, fm_getr 0 5 4),
  (4, fm_load 1 5),
  (5, fm_call true 5 1 (MC_Ac_isStored κ) 8),
  (8, fm_zret post)]
set_option maxHeartbeats 4000000 in
set_option maxRecDepth 100000 in
theorem mo_Fc_stored {κ : fx_K} (hq : fx_I κ lyX.length) {av : List fx_V} {S : fx_S} {post : Int32 → fx_S → Prop} (hlen : av.length ≤ 2) (body : ∀ J : fx_J fx_S, (∀ r ∈ tt_Fc_stored κ post, fx_Snd J r.1 r.2) → (∀ pc k ls st S, J pc (ls.take k) st S → J pc ls st S) → J 0 av [] S) : MC_Fc_stored κ av S post := by
  refine fx_Met_of (cc := c_Fc_stored) (nL := 2) (ret := (some .boolean)) (by decide) rfl hq hlen ?_
  intro p e s m args below meth c hC hr hnw
  refine body _ ?_ fx_W_take
  have hF := hC.1
  have hts := hC.1.2.2.2.2
  have hm : ∀ {w : Cond}, w ∈ TB → w.before args s = true := fun h => hts _ (List.mem_cons_of_mem _ h)
  have g40 : ∀ (Q : State → Prop) (pc : Nat), decode c_Fc_stored pc = .ok (.getfield 40, 3) → fx_Snd (fx_W p κ.1 e rm_Fc_stored s m args below meth c Q (fx_A κ.2.2.2 lyX.length) 0 0 (fx_P κ.2.1 vwCl κ.2.2.1 κ.2.2.2 lyX) κ.2.2.2 2) pc (fm_getr 0 5 (pc + 3)) := fun Q pc hd => fs_getr hC (cN := 0) (j := 4) (ci := 0) (C := R_Fc) (T := T_Fc) (N := 17) rfl rfl rfl (by decide) (fun w h => List.mem_cons_of_mem _ (in_Fc w h)) (hm wd_222) hd
  refine List.forall_mem_cons.mpr ⟨fs_loada_n hF d_Fc_stored_0 rfl, ?_⟩
  refine List.forall_mem_cons.mpr ⟨g40 _ 1 d_Fc_stored_1, ?_⟩
  refine List.forall_mem_cons.mpr ⟨fs_load_n hF d_Fc_stored_4 rfl, ?_⟩
  refine List.forall_mem_cons.mpr ⟨fs_callV hC nwl_ok hnw (cN := 5) (ci := 5) (C := R_Ac) rfl rfl ⟨callB_of 1 hts (tb_good wd_516) rfl rfl rfl (hm wd_37) (hm wd_513) pd_Ac_isStored ⟨Nat.le_of_ble_eq_true rfl, Nat.le_of_ble_eq_true rfl⟩, hm wd_514, hm wd_515⟩ d_Fc_stored_5, ?_⟩
  refine List.forall_mem_cons.mpr ⟨fs_zret hC hr d_Fc_stored_8, ?_⟩
  exact fun _ h => absurd h List.not_mem_nil
abbrev rm_Fc_evolutions : Room := { frames := 0, cells := 0, slots := 0, locals := 0 }
def ws_Fc_evolutions : List Cond := .code y_Fc_evolutions c_Fc_evolutions 1 (some .int) :: TB
abbrev MC_Fc_evolutions (κ : fx_K) : List fx_V → fx_S → (Int32 → fx_S → Prop) → Prop := fx_Met κ.1 κ.2.1 vwCl κ.2.2.1 κ.2.2.2 lyX nwl y_Fc_evolutions ws_Fc_evolutions rm_Fc_evolutions true
def tt_Fc_evolutions (κ : fx_K) (post : Int32 → fx_S → Prop) : List (Nat × fx_M fx_S) := [(0, fm_loada 0 1),
  (1, fm_get 0 13 4),
  (4, fm_ret post)]
set_option maxHeartbeats 4000000 in
set_option maxRecDepth 100000 in
theorem mo_Fc_evolutions {κ : fx_K} (hq : fx_I κ lyX.length) {av : List fx_V} {S : fx_S} {post : Int32 → fx_S → Prop} (hlen : av.length ≤ 1) (body : ∀ J : fx_J fx_S, (∀ r ∈ tt_Fc_evolutions κ post, fx_Snd J r.1 r.2) → (∀ pc k ls st S, J pc (ls.take k) st S → J pc ls st S) → J 0 av [] S) : MC_Fc_evolutions κ av S post := by
  refine fx_Met_of (cc := c_Fc_evolutions) (nL := 1) (ret := (some .int)) (by decide) rfl hq hlen ?_
  intro p e s m args below meth c hC hr hnw
  refine body _ ?_ fx_W_take
  have hF := hC.1
  have hts := hC.1.2.2.2.2
  have hm : ∀ {w : Cond}, w ∈ TB → w.before args s = true := fun h => hts _ (List.mem_cons_of_mem _ h)
  have g159 : ∀ (Q : State → Prop) (pc : Nat), decode c_Fc_evolutions pc = .ok (.getfield 159, 3) → fx_Snd (fx_W p κ.1 e rm_Fc_evolutions s m args below meth c Q (fx_A κ.2.2.2 lyX.length) 0 0 (fx_P κ.2.1 vwCl κ.2.2.1 κ.2.2.2 lyX) κ.2.2.2 1) pc (fm_get 0 13 (pc + 3)) := fun Q pc hd => fs_get hC (cN := 0) (j := 13) (ci := 0) (C := R_Fc) (T := T_Fc) (N := 17) rfl rfl rfl (by decide) (fun w h => List.mem_cons_of_mem _ (in_Fc w h)) (hm wd_231) hd
  refine List.forall_mem_cons.mpr ⟨fs_loada_n hF d_Fc_evolutions_0 rfl, ?_⟩
  refine List.forall_mem_cons.mpr ⟨g159 _ 1 d_Fc_evolutions_1, ?_⟩
  refine List.forall_mem_cons.mpr ⟨fs_ret hC hr d_Fc_evolutions_4, ?_⟩
  exact fun _ h => absurd h List.not_mem_nil
abbrev rm_Fc_cleared : Room := { frames := 0, cells := 0, slots := 0, locals := 0 }
def ws_Fc_cleared : List Cond := .code y_Fc_cleared c_Fc_cleared 1 (some .int) :: TB
abbrev MC_Fc_cleared (κ : fx_K) : List fx_V → fx_S → (Int32 → fx_S → Prop) → Prop := fx_Met κ.1 κ.2.1 vwCl κ.2.2.1 κ.2.2.2 lyX nwl y_Fc_cleared ws_Fc_cleared rm_Fc_cleared true
def tt_Fc_cleared (κ : fx_K) (post : Int32 → fx_S → Prop) : List (Nat × fx_M fx_S) := [(0, fm_loada 0 1),
  (1, fm_get 0 14 4),
  (4, fm_ret post)]
set_option maxHeartbeats 4000000 in
set_option maxRecDepth 100000 in
theorem mo_Fc_cleared {κ : fx_K} (hq : fx_I κ lyX.length) {av : List fx_V} {S : fx_S} {post : Int32 → fx_S → Prop} (hlen : av.length ≤ 1) (body : ∀ J : fx_J fx_S, (∀ r ∈ tt_Fc_cleared κ post, fx_Snd J r.1 r.2) → (∀ pc k ls st S, J pc (ls.take k) st S → J pc ls st S) → J 0 av [] S) : MC_Fc_cleared κ av S post := by
  refine fx_Met_of (cc := c_Fc_cleared) (nL := 1) (ret := (some .int)) (by decide) rfl hq hlen ?_
  intro p e s m args below meth c hC hr hnw
  refine body _ ?_ fx_W_take
  have hF := hC.1
  have hts := hC.1.2.2.2.2
  have hm : ∀ {w : Cond}, w ∈ TB → w.before args s = true := fun h => hts _ (List.mem_cons_of_mem _ h)
  have g168 : ∀ (Q : State → Prop) (pc : Nat), decode c_Fc_cleared pc = .ok (.getfield 168, 3) → fx_Snd (fx_W p κ.1 e rm_Fc_cleared s m args below meth c Q (fx_A κ.2.2.2 lyX.length) 0 0 (fx_P κ.2.1 vwCl κ.2.2.1 κ.2.2.2 lyX) κ.2.2.2 1) pc (fm_get 0 14 (pc + 3)) := fun Q pc hd => fs_get hC (cN := 0) (j := 14) (ci := 0) (C := R_Fc) (T := T_Fc) (N := 17) rfl rfl rfl (by decide) (fun w h => List.mem_cons_of_mem _ (in_Fc w h)) (hm wd_232) hd
  refine List.forall_mem_cons.mpr ⟨fs_loada_n hF d_Fc_cleared_0 rfl, ?_⟩
  refine List.forall_mem_cons.mpr ⟨g168 _ 1 d_Fc_cleared_1, ?_⟩
  refine List.forall_mem_cons.mpr ⟨fs_ret hC hr d_Fc_cleared_4, ?_⟩
  exact fun _ h => absurd h List.not_mem_nil
abbrev rm_Fc_lead : Room := { frames := 0, cells := 0, slots := 0, locals := 0 }
def ws_Fc_lead : List Cond := .code y_Fc_lead c_Fc_lead 1 (some .int) :: TB
abbrev MC_Fc_lead (κ : fx_K) : List fx_V → fx_S → (Int32 → fx_S → Prop) → Prop := fx_Met κ.1 κ.2.1 vwCl κ.2.2.1 κ.2.2.2 lyX nwl y_Fc_lead ws_Fc_lead rm_Fc_lead true
def tt_Fc_lead (κ : fx_K) (post : Int32 → fx_S → Prop) : List (Nat × fx_M fx_S) := [(0, fm_loada 0 1),
  (1, fm_get 0 15 4),
  (4, fm_ret post)]
set_option maxHeartbeats 4000000 in
set_option maxRecDepth 100000 in
theorem mo_Fc_lead {κ : fx_K} (hq : fx_I κ lyX.length) {av : List fx_V} {S : fx_S} {post : Int32 → fx_S → Prop} (hlen : av.length ≤ 1) (body : ∀ J : fx_J fx_S, (∀ r ∈ tt_Fc_lead κ post, fx_Snd J r.1 r.2) → (∀ pc k ls st S, J pc (ls.take k) st S → J pc ls st S) → J 0 av [] S) : MC_Fc_lead κ av S post := by
  refine fx_Met_of (cc := c_Fc_lead) (nL := 1) (ret := (some .int)) (by decide) rfl hq hlen ?_
  intro p e s m args below meth c hC hr hnw
  refine body _ ?_ fx_W_take
  have hF := hC.1
  have hts := hC.1.2.2.2.2
  have hm : ∀ {w : Cond}, w ∈ TB → w.before args s = true := fun h => hts _ (List.mem_cons_of_mem _ h)
  have g150 : ∀ (Q : State → Prop) (pc : Nat), decode c_Fc_lead pc = .ok (.getfield 150, 3) → fx_Snd (fx_W p κ.1 e rm_Fc_lead s m args below meth c Q (fx_A κ.2.2.2 lyX.length) 0 0 (fx_P κ.2.1 vwCl κ.2.2.1 κ.2.2.2 lyX) κ.2.2.2 1) pc (fm_get 0 15 (pc + 3)) := fun Q pc hd => fs_get hC (cN := 0) (j := 15) (ci := 0) (C := R_Fc) (T := T_Fc) (N := 17) rfl rfl rfl (by decide) (fun w h => List.mem_cons_of_mem _ (in_Fc w h)) (hm wd_233) hd
  refine List.forall_mem_cons.mpr ⟨fs_loada_n hF d_Fc_lead_0 rfl, ?_⟩
  refine List.forall_mem_cons.mpr ⟨g150 _ 1 d_Fc_lead_1, ?_⟩
  refine List.forall_mem_cons.mpr ⟨fs_ret hC hr d_Fc_lead_4, ?_⟩
  exact fun _ h => absurd h List.not_mem_nil
abbrev rm_Fc_period : Room := { frames := 0, cells := 0, slots := 0, locals := 0 }
def ws_Fc_period : List Cond := .code y_Fc_period c_Fc_period 1 (some .int) :: TB
abbrev MC_Fc_period (κ : fx_K) : List fx_V → fx_S → (Int32 → fx_S → Prop) → Prop := fx_Met κ.1 κ.2.1 vwCl κ.2.2.1 κ.2.2.2 lyX nwl y_Fc_period ws_Fc_period rm_Fc_period true
def tt_Fc_period (κ : fx_K) (post : Int32 → fx_S → Prop) : List (Nat × fx_M fx_S) := [(0, fm_loada 0 1),
  (1, fm_get 0 16 4),
  (4, fm_ret post)]
set_option maxHeartbeats 4000000 in
set_option maxRecDepth 100000 in
theorem mo_Fc_period {κ : fx_K} (hq : fx_I κ lyX.length) {av : List fx_V} {S : fx_S} {post : Int32 → fx_S → Prop} (hlen : av.length ≤ 1) (body : ∀ J : fx_J fx_S, (∀ r ∈ tt_Fc_period κ post, fx_Snd J r.1 r.2) → (∀ pc k ls st S, J pc (ls.take k) st S → J pc ls st S) → J 0 av [] S) : MC_Fc_period κ av S post := by
  refine fx_Met_of (cc := c_Fc_period) (nL := 1) (ret := (some .int)) (by decide) rfl hq hlen ?_
  intro p e s m args below meth c hC hr hnw
  refine body _ ?_ fx_W_take
  have hF := hC.1
  have hts := hC.1.2.2.2.2
  have hm : ∀ {w : Cond}, w ∈ TB → w.before args s = true := fun h => hts _ (List.mem_cons_of_mem _ h)
  have g154 : ∀ (Q : State → Prop) (pc : Nat), decode c_Fc_period pc = .ok (.getfield 154, 3) → fx_Snd (fx_W p κ.1 e rm_Fc_period s m args below meth c Q (fx_A κ.2.2.2 lyX.length) 0 0 (fx_P κ.2.1 vwCl κ.2.2.1 κ.2.2.2 lyX) κ.2.2.2 1) pc (fm_get 0 16 (pc + 3)) := fun Q pc hd => fs_get hC (cN := 0) (j := 16) (ci := 0) (C := R_Fc) (T := T_Fc) (N := 17) rfl rfl rfl (by decide) (fun w h => List.mem_cons_of_mem _ (in_Fc w h)) (hm wd_234) hd
  refine List.forall_mem_cons.mpr ⟨fs_loada_n hF d_Fc_period_0 rfl, ?_⟩
  refine List.forall_mem_cons.mpr ⟨g154 _ 1 d_Fc_period_1, ?_⟩
  refine List.forall_mem_cons.mpr ⟨fs_ret hC hr d_Fc_period_4, ?_⟩
  exact fun _ h => absurd h List.not_mem_nil
end
