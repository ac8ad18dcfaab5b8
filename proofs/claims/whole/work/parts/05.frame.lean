/-! A small abstract machine over the kit's rows. A world is a layout (which cells there are, how they point at each other) and a
state S : Nat → Nat → Int32 (cell, place ↦ int). A value is an int or the number of a cell. The judgement fx_W says of an abstract
frame what W says of every frame that it pictures. A row of a table gives an instruction's meaning as a transformer of judgements
(fm_..), and its soundness (fs_..) is proved once; a method's walk is then an evaluation (fx_go). -/
abbrev fx_V : Type := Int32 ⊕ Nat
abbrev fx_S : Type := Nat → Nat → Int32
abbrev fx_L : Type := List ((Nat × Nat) ⊕ (Nat × List (Option Nat)))
def fx_v (q : Nat → Nat) : fx_V → Value
  | .inl x => .int x
  | .inr k => .ref (q k)
def fx_f (q : Nat → Nat) (r : Nat → Int32) (j : Nat) : Option Nat → Value
  | none => .int (r j)
  | some d => .ref (q d)
def fx_e (cA : Nat → ClassId) (q : Nat → Nat) (r : Nat → Int32) : (Nat × Nat) ⊕ (Nat × List (Option Nat)) → va_E
  | .inl (t, n) => .inl (cA t, n, .inl r)
  | .inr (ci, fs) => .inr (ci, fs.mapIdx (fx_f q r))
def fx_w (cA : Nat → ClassId) (q : Nat → Nat) (ly : fx_L) (S : fx_S) : va_W := ly.mapIdx (fun k c => (q k, fx_e cA q (S k) c))
def fx_A (q : Nat → Nat) (n : Nat) : Nat → Prop := fun a => ∃ k, k < n ∧ a = q k
def fx_ty (cA : Nat → ClassId) : List (ClassId × FieldType) := [(cA 0, .int), (cA 1, .boolean)]
/-- one place of the state -/
def fx_up (S : fx_S) (k i : Nat) (x : Int32) : fx_S := fun a j => if a = k then (if j = i then x else S a j) else S a j
theorem fx_up_row (S : fx_S) (k i : Nat) (x : Int32) : fx_up S k i x k = upd (S k) i x := by
  funext j; simp [fx_up, upd]
theorem fx_up_ne (S : fx_S) {k a : Nat} (i : Nat) (x : Int32) (h : a ≠ k) : fx_up S k i x a = S a := by
  funext j; simp [fx_up, h]
theorem fx_cat (q : Nat → Nat) (v : fx_V) : (fx_v q v).category = 1 := by cases v <;> rfl
section FXW
variable {cA : Nat → ClassId} {q : Nat → Nat} {ly : fx_L} {S S' : fx_S}
theorem fx_w_at {k : Nat} {c : (Nat × Nat) ⊕ (Nat × List (Option Nat))} (h : ly[k]? = some c) : (fx_w cA q ly S)[k]? = some (q k, fx_e cA q (S k) c) := by
  simp [fx_w, List.getElem?_mapIdx, h]
theorem fx_w_of {k : Nat} {x : Nat × va_E} (h : (fx_w cA q ly S)[k]? = some x) : k < ly.length ∧ x.1 = q k := by
  rw [fx_w, List.getElem?_mapIdx] at h
  cases hc : ly[k]? with
  | none => rw [hc] at h; cases h
  | some c =>
    rw [hc] at h
    cases h
    exact ⟨(List.getElem?_eq_some_iff.mp hc).1, rfl⟩
theorem fx_w_set {k : Nat} {c : (Nat × Nat) ⊕ (Nat × List (Option Nat))} (h : ly[k]? = some c) (ho : ∀ j, j ≠ k → S' j = S j) : (fx_w cA q ly S).set k (q k, fx_e cA q (S' k) c) = fx_w cA q ly S' := by
  have hl : k < (fx_w cA q ly S).length := (List.getElem?_eq_some_iff.mp (fx_w_at (cA := cA) (q := q) (S := S) h)).1
  apply List.ext_getElem?
  intro j
  by_cases hj : j = k
  · subst hj
    rw [List.getElem?_set_self hl, fx_w_at h]
  · rw [List.getElem?_set_ne (Ne.symm hj)]
    simp [fx_w, List.getElem?_mapIdx, ho j hj]
theorem fx_D {A : Nat → Prop} (hq : ∀ i j, i < ly.length → j < ly.length → q i = q j → i = j) (hA : ∀ k, k < ly.length → A (q k)) : va_D A (fx_w cA q ly S) := by
  refine ⟨fun i j x y hi hj hxy => ?_, fun k x hk => ?_⟩
  · obtain ⟨l1, e1⟩ := fx_w_of hi
    obtain ⟨l2, e2⟩ := fx_w_of hj
    exact hq i j l1 l2 (by rw [← e1, ← e2]; exact hxy)
  · obtain ⟨l1, e1⟩ := fx_w_of hk
    rw [e1]; exact hA k l1
end FXW
/-! locals -/
def fx_ls (q : Nat → Nat) (ls : List fx_V) : List (Nat × Value) := ls.mapIdx (fun i v => (i, fx_v q v))
def fx_nth : List fx_V → Nat → Option fx_V
  | [], _ => none
  | a :: _, 0 => some a
  | _ :: l, n + 1 => fx_nth l n
def fx_set : List fx_V → Nat → fx_V → List fx_V
  | [], 0, v => [v]
  | [], _ + 1, _ => []
  | _ :: l, 0, v => v :: l
  | a :: l, n + 1, v => a :: fx_set l n v
theorem fx_nth_eq : ∀ (l : List fx_V) (i : Nat), fx_nth l i = l[i]?
  | [], i => by simp [fx_nth]
  | a :: l, 0 => by simp [fx_nth]
  | a :: l, n + 1 => by simp [fx_nth, fx_nth_eq l n]
theorem fx_set_at : ∀ (l : List fx_V) (i : Nat) (v : fx_V) (j : Nat) (w : fx_V), (fx_set l i v)[j]? = some w → (j = i ∧ w = v) ∨ (j ≠ i ∧ l[j]? = some w)
  | [], 0, v, 0, w, h => by simp [fx_set] at h; exact Or.inl ⟨rfl, h.symm⟩
  | [], 0, v, j + 1, w, h => by simp [fx_set] at h
  | [], i + 1, v, j, w, h => by simp [fx_set] at h
  | a :: l, 0, v, 0, w, h => by simp [fx_set] at h; exact Or.inl ⟨rfl, h.symm⟩
  | a :: l, 0, v, j + 1, w, h => by simp [fx_set] at h; exact Or.inr ⟨by omega, by simpa using h⟩
  | a :: l, i + 1, v, 0, w, h => by simp [fx_set] at h; exact Or.inr ⟨by omega, by simpa using h⟩
  | a :: l, i + 1, v, j + 1, w, h => by
    simp only [fx_set, List.getElem?_cons_succ] at h
    rcases fx_set_at l i v j w h with ⟨h1, h2⟩ | ⟨h1, h2⟩
    · exact Or.inl ⟨by omega, h2⟩
    · exact Or.inr ⟨by omega, by simpa using h2⟩
theorem fx_ls_mem {q : Nat → Nat} {ls : List fx_V} {x : Nat × Value} : x ∈ fx_ls q ls ↔ ∃ (i : Nat) (v : fx_V), ls[i]? = some v ∧ x = (i, fx_v q v) := by
  constructor
  · intro h
    obtain ⟨i, hi⟩ := List.getElem?_of_mem h
    rw [fx_ls, List.getElem?_mapIdx] at hi
    cases hc : ls[i]? with
    | none => rw [hc] at hi; cases hi
    | some v => rw [hc] at hi; cases hi; exact ⟨i, v, hc, rfl⟩
  · rintro ⟨i, v, h, rfl⟩
    refine List.mem_of_getElem? (i := i) ?_
    rw [fx_ls, List.getElem?_mapIdx, h]; rfl
theorem fx_has_mono {LS : Array Slot} {n : Nat} {l l' : List (Nat × Value)} (h : lv_has LS n l) (hs : ∀ x ∈ l', x ∈ l) : lv_has LS n l' := ⟨h.1, h.2.1, fun x hx => h.2.2 x (hs x hx)⟩
theorem fx_has_set {q : Nat → Nat} {LS : Array Slot} {n i : Nat} {ls : List fx_V} {v : fx_V} (h : lv_has LS n ((i, fx_v q v) :: (fx_ls q ls).filter (fun x => !(x.1 == i) && !(x.1 + 1 == i && x.2.category == 2)))) : lv_has LS n (fx_ls q (fx_set ls i v)) := by
  refine fx_has_mono h (fun x hx => ?_)
  obtain ⟨j, w, hj, rfl⟩ := fx_ls_mem.mp hx
  rcases fx_set_at ls i v j w hj with ⟨rfl, rfl⟩ | ⟨h1, h2⟩
  · exact List.mem_cons_self
  · refine List.mem_cons_of_mem _ (List.mem_filter.mpr ⟨fx_ls_mem.mpr ⟨j, w, h2, rfl⟩, ?_⟩)
    simp [h1, fx_cat]
theorem fx_has_take {q : Nat → Nat} {LS : Array Slot} {n k : Nat} {ls : List fx_V} (h : lv_has LS n (fx_ls q ls)) : lv_has LS n (fx_ls q (ls.take k)) := by
  refine fx_has_mono h (fun x hx => ?_)
  obtain ⟨j, w, hj, rfl⟩ := fx_ls_mem.mp hx
  rw [List.getElem?_take] at hj
  by_cases hk : j < k
  · rw [if_pos hk] at hj; exact fx_ls_mem.mpr ⟨j, w, hj, rfl⟩
  · rw [if_neg hk] at hj; cases hj
theorem fx_has_at {q : Nat → Nat} {LS : Array Slot} {n i : Nat} {ls : List fx_V} {v : fx_V} (h : lv_has LS n (fx_ls q ls)) (hi : fx_nth ls i = some v) : LS[i]? = some (.val (fx_v q v)) :=
  h.2.2 (i, fx_v q v) (fx_ls_mem.mpr ⟨i, v, by rw [← fx_nth_eq]; exact hi, rfl⟩)
theorem fx_args_mem {q : Nat → Nat} : ∀ (av : List fx_V) (o i : Nat) (v : fx_V), av[i]? = some v → (o + i, fx_v q v) ∈ lv_args o (av.map (fx_v q))
  | [], o, i, v, h => by simp at h
  | a :: av, o, 0, v, h => by
    simp at h; subst h
    simp [lv_args]
  | a :: av, o, i + 1, v, h => by
    simp only [List.getElem?_cons_succ] at h
    simp only [List.map_cons, lv_args, fx_cat]
    refine List.mem_cons_of_mem _ ?_
    have := fx_args_mem (q := q) av (o + 1) i v h
    rw [show o + (i + 1) = o + 1 + i by omega]
    simpa using this
theorem fx_sl_len {q : Nat → Nat} : ∀ av : List fx_V, (lg_sl (av.map (fx_v q))).length = av.length
  | [] => rfl
  | a :: av => by
    have := fx_sl_len (q := q) av
    simp only [lg_sl, List.map_cons, List.flatMap_cons, fx_cat] at this ⊢
    simp [this]
theorem fx_cats {q : Nat → Nat} : ∀ st : List fx_V, ((st.map (fx_v q)).map fun v => v.category).sum = st.length
  | [] => rfl
  | a :: st => by
    have := fx_cats (q := q) st
    simp only [List.map_cons, List.sum_cons, fx_cat, List.length_cons] at this ⊢
    omega
/-! the judgement, meanings, evaluation -/
def fx_W (p : Program) (l : Launch) (e : Env) (R : Room) (s : State) (m : MethodId) (args : Array Value) (below : List Frame) (meth : Method) (c : Code) (Q : State → Prop) (A : Nat → Prop) (cs sl : Nat) {σ : Type} (WP : σ → Heap → Prop) (q : Nat → Nat) (nL : Nat) (pc : Nat) (ls st : List fx_V) (S : σ) : Prop :=
  ∀ (LS : Array Slot) (H : Heap) (locs : List Loc), lv_has LS nL (fx_ls q ls) → WP S H → va_S A s.heap H locs → W p l e R s m args below meth c H locs cs sl Q (F0 m pc LS (st.map (fx_v q)))
abbrev fx_J (σ : Type) : Type := Nat → List fx_V → List fx_V → σ → Prop
abbrev fx_M (σ : Type) : Type := fx_J σ → List fx_V → List fx_V → σ → Prop
def fx_Snd {σ : Type} (J : fx_J σ) (pc : Nat) (f : fx_M σ) : Prop := ∀ (k : fx_J σ) (ls st : List fx_V) (S : σ), (∀ pc' ls' st' S', k pc' ls' st' S' → J pc' ls' st' S') → f k ls st S → J pc ls st S
def fx_lk {α : Type} : List (Nat × α) → Nat → Option α
  | [], _ => none
  | (a, x) :: l, k => bif Nat.beq a k then some x else fx_lk l k
theorem fx_lk_mem {α : Type} : ∀ (l : List (Nat × α)) (k : Nat) (x : α), fx_lk l k = some x → (k, x) ∈ l
  | [], k, x, h => by simp [fx_lk] at h
  | (a, y) :: l, k, x, h => by
    simp only [fx_lk] at h
    cases hb : Nat.beq a k with
    | true =>
      rw [hb] at h
      simp only [cond_true] at h
      cases h
      rw [Nat.eq_of_beq_eq_true hb]
      exact List.mem_cons_self
    | false =>
      rw [hb] at h
      exact List.mem_cons_of_mem _ (fx_lk_mem l k x h)
def fx_run {σ : Type} (J : fx_J σ) (T : List (Nat × fx_M σ)) (stop : List (Nat × Nat)) : Nat → Nat → List fx_V → List fx_V → σ → Prop
  | 0, pc, ls, st, S => J pc ls st S
  | n + 1, pc, ls, st, S => match fx_lk stop pc with
    | some k => J pc (ls.take k) st S
    | none => match fx_lk T pc with
      | none => J pc ls st S
      | some f => f (fx_run J T stop n) ls st S
def fx_go {σ : Type} (J : fx_J σ) (T : List (Nat × fx_M σ)) (stop : List (Nat × Nat)) (n pc : Nat) (ls st : List fx_V) (S : σ) : Prop := match fx_lk T pc with
  | none => J pc ls st S
  | some f => f (fx_run J T stop n) ls st S
theorem fx_run_ok {σ : Type} {J : fx_J σ} {T : List (Nat × fx_M σ)} {stop : List (Nat × Nat)} (hT : ∀ r ∈ T, fx_Snd J r.1 r.2) (ht : ∀ pc k ls st S, J pc (ls.take k) st S → J pc ls st S) : ∀ (n pc : Nat) (ls st : List fx_V) (S : σ), fx_run J T stop n pc ls st S → J pc ls st S
  | 0, pc, ls, st, S, h => h
  | n + 1, pc, ls, st, S, h => by
    unfold fx_run at h
    cases hs : fx_lk stop pc with
    | some k => rw [hs] at h; exact ht _ _ _ _ _ h
    | none =>
      rw [hs] at h
      cases hf : fx_lk T pc with
      | none => rw [hf] at h; exact h
      | some f =>
        rw [hf] at h
        exact hT _ (fx_lk_mem T pc f hf) _ ls st S (fx_run_ok hT ht n) h
theorem fx_go_ok {σ : Type} {J : fx_J σ} {T : List (Nat × fx_M σ)} (stop : List (Nat × Nat)) (n : Nat) {pc : Nat} {ls st : List fx_V} {S : σ} (hT : ∀ r ∈ T, fx_Snd J r.1 r.2) (ht : ∀ pc k ls st S, J pc (ls.take k) st S → J pc ls st S) (h : fx_go J T stop n pc ls st S) : J pc ls st S := by
  unfold fx_go at h
  cases hf : fx_lk T pc with
  | none => rw [hf] at h; exact h
  | some f =>
    rw [hf] at h
    exact hT _ (fx_lk_mem T pc f hf) _ ls st S (fx_run_ok hT ht n) h
theorem fx_W_take {p : Program} {l : Launch} {e : Env} {R : Room} {s : State} {m : MethodId} {args : Array Value} {below : List Frame} {meth : Method} {c : Code} {Q : State → Prop} {A : Nat → Prop} {cs sl : Nat} {σ : Type} {WP : σ → Heap → Prop} {q : Nat → Nat} {nL : Nat} : ∀ (pc k : Nat) (ls st : List fx_V) (S : σ), fx_W p l e R s m args below meth c Q A cs sl WP q nL pc (ls.take k) st S → fx_W p l e R s m args below meth c Q A cs sl WP q nL pc ls st S :=
  fun _ _ _ _ _ h LS H locs hl hP hS => h LS H locs (fx_has_take hl) hP hS
/-! popping -/
def fx_pi (st : List fx_V) (k : Int32 → List fx_V → Prop) : Prop := match st with
  | .inl x :: r => k x r
  | _ => False
def fx_pr (st : List fx_V) (k : Nat → List fx_V → Prop) : Prop := match st with
  | .inr a :: r => k a r
  | _ => False
def fx_pv (st : List fx_V) (k : fx_V → List fx_V → Prop) : Prop := match st with
  | a :: r => k a r
  | [] => False
def fx_pn : Nat → List fx_V → List fx_V → (List fx_V → List fx_V → Prop) → Prop
  | 0, acc, st, k => k acc st
  | _ + 1, _, [], _ => False
  | n + 1, acc, a :: st, k => fx_pn n (a :: acc) st k
theorem fx_pi_e {st : List fx_V} {k : Int32 → List fx_V → Prop} (h : fx_pi st k) : ∃ x r, st = .inl x :: r ∧ k x r := by
  match st, h with
  | .inl x :: r, h => exact ⟨x, r, rfl, h⟩
theorem fx_pr_e {st : List fx_V} {k : Nat → List fx_V → Prop} (h : fx_pr st k) : ∃ x r, st = .inr x :: r ∧ k x r := by
  match st, h with
  | .inr x :: r, h => exact ⟨x, r, rfl, h⟩
theorem fx_pv_e {st : List fx_V} {k : fx_V → List fx_V → Prop} (h : fx_pv st k) : ∃ x r, st = x :: r ∧ k x r := by
  match st, h with
  | x :: r, h => exact ⟨x, r, rfl, h⟩
theorem fx_pn_e : ∀ (n : Nat) (acc st : List fx_V) (k : List fx_V → List fx_V → Prop), fx_pn n acc st k → ∃ as r, as.length = n ∧ st = as.reverse ++ r ∧ k (as ++ acc) r
  | 0, acc, st, k, h => ⟨[], st, rfl, rfl, h⟩
  | n + 1, acc, [], k, h => h.elim
  | n + 1, acc, a :: st, k, h => by
    obtain ⟨as, r, h1, h2, h3⟩ := fx_pn_e n (a :: acc) st k h
    refine ⟨as ++ [a], r, by simp [h1], by simp [h2], by simpa using h3⟩
/-! meanings of the instructions -/
def fm_const {σ : Type} (v : Int32) (nx : Nat) : fx_M σ := fun k ls st S => k nx ls (.inl v :: st) S
def fm_load {σ : Type} (i nx : Nat) : fx_M σ := fun k ls st S => match fx_nth ls i with
  | some (.inl x) => k nx ls (.inl x :: st) S
  | _ => False
def fm_loada {σ : Type} (i nx : Nat) : fx_M σ := fun k ls st S => match fx_nth ls i with
  | some (.inr x) => k nx ls (.inr x :: st) S
  | _ => False
def fm_store {σ : Type} (i nx : Nat) : fx_M σ := fun k ls st S => fx_pi st fun x st => k nx (fx_set ls i (.inl x)) st S
def fm_storea {σ : Type} (i nx : Nat) : fx_M σ := fun k ls st S => fx_pr st fun x st => k nx (fx_set ls i (.inr x)) st S
def fm_inc {σ : Type} (i : Nat) (d : Int32) (nx : Nat) : fx_M σ := fun k ls st S => match fx_nth ls i with
  | some (.inl x) => k nx (fx_set ls i (.inl (x + d))) st S
  | _ => False
def fm_dup {σ : Type} (nx : Nat) : fx_M σ := fun k ls st S => fx_pv st fun a st => k nx ls (a :: a :: st) S
def fm_pop {σ : Type} (nx : Nat) : fx_M σ := fun k ls st S => fx_pv st fun _ st => k nx ls st S
def fm_dupx1 {σ : Type} (nx : Nat) : fx_M σ := fun k ls st S => fx_pv st fun a st => fx_pv st fun b st => k nx ls (a :: b :: a :: st) S
def fm_dupx2 {σ : Type} (nx : Nat) : fx_M σ := fun k ls st S => fx_pv st fun a st => fx_pv st fun b st => fx_pv st fun d st => k nx ls (a :: b :: d :: a :: st) S
def fm_dup2 {σ : Type} (nx : Nat) : fx_M σ := fun k ls st S => fx_pv st fun a st => fx_pv st fun b st => k nx ls (a :: b :: a :: b :: st) S
def fm_goto {σ : Type} (tg : Nat) : fx_M σ := fun k ls st S => k tg ls st S
def fm_get (c j nx : Nat) : fx_M fx_S := fun k ls st S => fx_pr st fun a st => bif Nat.beq a c then k nx ls (.inl (S c j) :: st) S else False
def fm_getr (c d nx : Nat) : fx_M fx_S := fun k ls st S => fx_pr st fun a st => bif Nat.beq a c then k nx ls (.inr d :: st) S else False
def fm_put (c j nx : Nat) : fx_M fx_S := fun k ls st S => fx_pi st fun x st => fx_pr st fun a st => bif Nat.beq a c then k nx ls st (fx_up S c j x) else False
def fm_putz (c j nx : Nat) : fx_M fx_S := fun k ls st S => fx_pi st fun x st => fx_pr st fun a st => bif Nat.beq a c then (x = 0 ∨ x = 1) ∧ k nx ls st (fx_up S c j x) else False
/-- a load: t the kind of the array, ln its length by the layout -/
def fm_ald (ln : List (Nat × Nat)) (nx : Nat) : fx_M fx_S := fun k ls st S => fx_pi st fun i st => fx_pr st fun a st => match fx_lk ln a with
  | some n => vp_in i n ∧ k nx ls (.inl (S a i.toNatClampNeg) :: st) S
  | none => False
def fm_ast (ln : List (Nat × Nat)) (nx : Nat) : fx_M fx_S := fun k ls st S => fx_pi st fun x st => fx_pi st fun i st => fx_pr st fun a st => match fx_lk ln a with
  | some n => vp_in i n ∧ k nx ls st (fx_up S a i.toNatClampNeg x)
  | none => False
def fm_zast (ln : List (Nat × Nat)) (nx : Nat) : fx_M fx_S := fun k ls st S => fx_pi st fun x st => fx_pi st fun i st => fx_pr st fun a st => match fx_lk ln a with
  | some n => (x = 0 ∨ x = 1) ∧ vp_in i n ∧ k nx ls st (fx_up S a i.toNatClampNeg x)
  | none => False
def fm_call (z : Bool) (c n : Nat) (CM : List fx_V → fx_S → (Int32 → fx_S → Prop) → Prop) (nx : Nat) : fx_M fx_S := fun k ls st S => fx_pn n [] st fun as st => fx_pr st fun a st => bif Nat.beq a c && Nat.ble st.length 8 then ∃ post, CM (.inr c :: as) S post ∧ ∀ r S', post r S' → k nx ls (bif z then .inl r :: st else st) S' else False
def fm_calls (z : Bool) (n : Nat) (CM : List fx_V → fx_S → (Int32 → fx_S → Prop) → Prop) (nx : Nat) : fx_M fx_S := fun k ls st S => fx_pn n [] st fun as st => bif Nat.ble st.length 8 then ∃ post, CM as S post ∧ ∀ r S', post r S' → k nx ls (bif z then .inl r :: st else st) S' else False
def fm_ret (post : Int32 → fx_S → Prop) : fx_M fx_S := fun _ _ st S => fx_pi st fun x st => match st with
  | [] => post x S
  | _ :: _ => False
def fm_zret (post : Int32 → fx_S → Prop) : fx_M fx_S := fun _ _ st S => fx_pi st fun x st => match st with
  | [] => (x = 0 ∨ x = 1) ∧ post x S
  | _ :: _ => False
def fm_vret (post : Int32 → fx_S → Prop) : fx_M fx_S := fun _ _ st S => match st with
  | [] => post 0 S
  | _ :: _ => False
def fx_sw (x : Int32) : List (Int32 × Nat) → Nat → (Nat → Prop) → Prop
  | [], d, k => k d
  | (a, t) :: cs, d, k => (x = a → k t) ∧ (¬ x = a → fx_sw x cs d k)
def fx_tg (x : Int32) : List (Int32 × Nat) → Nat → Nat
  | [], d => d
  | (a, t) :: cs, d => if x = a then t else fx_tg x cs d
def fm_sw {σ : Type} (cs : List (Int32 × Nat)) (d : Nat) : fx_M σ := fun k ls st S => fx_pi st fun x st => fx_sw x cs d (fun pc => k pc ls st S)
theorem fx_sw_tg {x : Int32} : ∀ (cs : List (Int32 × Nat)) (d : Nat) (k : Nat → Prop), fx_sw x cs d k → k (fx_tg x cs d)
  | [], d, k, h => h
  | (a, t) :: cs, d, k, h => by
    unfold fx_tg
    by_cases hx : x = a
    · rw [if_pos hx]; exact h.1 hx
    · rw [if_neg hx]; exact fx_sw_tg cs d k (h.2 hx)
theorem fx_tg_out {x : Int32} : ∀ (cs : List (Int32 × Nat)) (d : Nat), (∀ c ∈ cs, ¬ x = c.1) → fx_tg x cs d = d
  | [], d, h => rfl
  | (a, t) :: cs, d, h => by
    unfold fx_tg
    rw [if_neg (h _ List.mem_cons_self)]
    exact fx_tg_out cs d (fun c hc => h c (List.mem_cons_of_mem _ hc))
def fx_max (x y : Int32) : Int32 := if x < y then y else x
