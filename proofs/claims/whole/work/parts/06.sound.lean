def fm_iadd {σ : Type} (nx : Nat) : fx_M σ := fun k ls st S => fx_pi st fun y st => fx_pi st fun x st => k nx ls (.inl (x + y) :: st) S
def fm_isub {σ : Type} (nx : Nat) : fx_M σ := fun k ls st S => fx_pi st fun y st => fx_pi st fun x st => k nx ls (.inl (x - y) :: st) S
def fm_imul {σ : Type} (nx : Nat) : fx_M σ := fun k ls st S => fx_pi st fun y st => fx_pi st fun x st => k nx ls (.inl (x * y) :: st) S
def fm_iand {σ : Type} (nx : Nat) : fx_M σ := fun k ls st S => fx_pi st fun y st => fx_pi st fun x st => k nx ls (.inl (x &&& y) :: st) S
def fm_ior {σ : Type} (nx : Nat) : fx_M σ := fun k ls st S => fx_pi st fun y st => fx_pi st fun x st => k nx ls (.inl (x ||| y) :: st) S
def fm_ixor {σ : Type} (nx : Nat) : fx_M σ := fun k ls st S => fx_pi st fun y st => fx_pi st fun x st => k nx ls (.inl (x ^^^ y) :: st) S
def fm_ishl {σ : Type} (nx : Nat) : fx_M σ := fun k ls st S => fx_pi st fun y st => fx_pi st fun x st => k nx ls (.inl (x <<< (y &&& 31)) :: st) S
def fm_ishr {σ : Type} (nx : Nat) : fx_M σ := fun k ls st S => fx_pi st fun y st => fx_pi st fun x st => k nx ls (.inl (x >>> (y &&& 31)) :: st) S
def fm_ifeq {σ : Type} (tg nx : Nat) : fx_M σ := fun k ls st S => fx_pi st fun x st => (x = 0 → k tg ls st S) ∧ (¬ x = 0 → k nx ls st S)
def fm_ifne {σ : Type} (tg nx : Nat) : fx_M σ := fun k ls st S => fx_pi st fun x st => (¬ x = 0 → k tg ls st S) ∧ (x = 0 → k nx ls st S)
def fm_iflt {σ : Type} (tg nx : Nat) : fx_M σ := fun k ls st S => fx_pi st fun x st => (x < 0 → k tg ls st S) ∧ (¬ x < 0 → k nx ls st S)
def fm_ifge {σ : Type} (tg nx : Nat) : fx_M σ := fun k ls st S => fx_pi st fun x st => (0 ≤ x → k tg ls st S) ∧ (¬ 0 ≤ x → k nx ls st S)
def fm_ifgt {σ : Type} (tg nx : Nat) : fx_M σ := fun k ls st S => fx_pi st fun x st => (0 < x → k tg ls st S) ∧ (¬ 0 < x → k nx ls st S)
def fm_ifle {σ : Type} (tg nx : Nat) : fx_M σ := fun k ls st S => fx_pi st fun x st => (x ≤ 0 → k tg ls st S) ∧ (¬ x ≤ 0 → k nx ls st S)
def fm_cmpeq {σ : Type} (tg nx : Nat) : fx_M σ := fun k ls st S => fx_pi st fun y st => fx_pi st fun x st => (x = y → k tg ls st S) ∧ (¬ x = y → k nx ls st S)
def fm_cmpne {σ : Type} (tg nx : Nat) : fx_M σ := fun k ls st S => fx_pi st fun y st => fx_pi st fun x st => (¬ x = y → k tg ls st S) ∧ (x = y → k nx ls st S)
def fm_cmplt {σ : Type} (tg nx : Nat) : fx_M σ := fun k ls st S => fx_pi st fun y st => fx_pi st fun x st => (x < y → k tg ls st S) ∧ (¬ x < y → k nx ls st S)
def fm_cmpge {σ : Type} (tg nx : Nat) : fx_M σ := fun k ls st S => fx_pi st fun y st => fx_pi st fun x st => (y ≤ x → k tg ls st S) ∧ (¬ y ≤ x → k nx ls st S)
def fm_cmpgt {σ : Type} (tg nx : Nat) : fx_M σ := fun k ls st S => fx_pi st fun y st => fx_pi st fun x st => (y < x → k tg ls st S) ∧ (¬ y < x → k nx ls st S)
def fm_cmple {σ : Type} (tg nx : Nat) : fx_M σ := fun k ls st S => fx_pi st fun y st => fx_pi st fun x st => (x ≤ y → k tg ls st S) ∧ (¬ x ≤ y → k nx ls st S)
section FXS
variable {p : Program} {l : Launch} {e : Env} {R : Room} {s : State} {m : MethodId} {args : Array Value} {below : List Frame} {meth : Method} {c : Code} {Q : State → Prop} {A : Nat → Prop} {cs sl : Nat} {σ : Type} {WP : σ → Heap → Prop} {q : Nat → Nat} {nL : Nat} {cc : ByteArray} {Ts : List Cond} {own : String} {pc : Nat}
theorem fs_const (h : CallFix p m c cc nL s args Ts own) {n : Int} {v : Int32} (hd : decode cc pc = .ok (.iconst n, 1)) (hv : Int32.ofInt n = v) : fx_Snd (fx_W p l e R s m args below meth c Q A cs sl WP q nL) pc (fm_const v (pc + 1)) :=
  fun _ _ _ _ hk hf LS H locs hl hP hS => lv_iconst h.1 h.2.1 hd hv (hk _ _ _ _ hf LS H locs hl hP hS)
theorem fs_bipush (h : CallFix p m c cc nL s args Ts own) {n : Int} {v : Int32} (hd : decode cc pc = .ok (.bipush n, 2)) (hv : (Int8.ofInt n).toInt32 = v) : fx_Snd (fx_W p l e R s m args below meth c Q A cs sl WP q nL) pc (fm_const v (pc + 2)) :=
  fun _ _ _ _ hk hf LS H locs hl hP hS => lv_bipush h.1 h.2.1 hd hv (hk _ _ _ _ hf LS H locs hl hP hS)
theorem fs_sipush (h : CallFix p m c cc nL s args Ts own) {n : Int} {v : Int32} (hd : decode cc pc = .ok (.sipush n, 3)) (hv : (Int16.ofInt n).toInt32 = v) : fx_Snd (fx_W p l e R s m args below meth c Q A cs sl WP q nL) pc (fm_const v (pc + 3)) :=
  fun _ _ _ _ hk hf LS H locs hl hP hS => lv_sipush h.1 h.2.1 hd hv (hk _ _ _ _ hf LS H locs hl hP hS)
theorem fs_ldc (h : CallFix p m c cc nL s args Ts own) {index : Nat} {v : Int32} (hw : (Jvm.Cond.constant own index v).before args s = true) (hd : decode cc pc = .ok (.ldc index, 2)) : fx_Snd (fx_W p l e R s m args below meth c Q A cs sl WP q nL) pc (fm_const v (pc + 2)) :=
  fun _ _ _ _ hk hf LS H locs hl hP hS => lv_ldc h.1 h.2.1 h.2.2.2.1 hw hd (hk _ _ _ _ hf LS H locs hl hP hS)
theorem fs_load_n (h : CallFix p m c cc nL s args Ts own) {kk : Fin 4} {i : Nat} (hd : decode cc pc = .ok (.iload_n kk, 1)) (hi : (kk : Nat) = i) : fx_Snd (fx_W p l e R s m args below meth c Q A cs sl WP q nL) pc (fm_load i (pc + 1)) := by
  intro k ls st S hk hf LS H locs hl hP hS
  unfold fm_load at hf
  cases hn : fx_nth ls i with
  | none => rw [hn] at hf; exact hf.elim
  | some v =>
    cases v with
    | inr a => rw [hn] at hf; exact hf.elim
    | inl x =>
      rw [hn] at hf
      exact lv_iload_n h.1 h.2.1 hd hi (fx_has_at hl hn) (hk _ _ _ _ hf LS H locs hl hP hS)
theorem fs_load (h : CallFix p m c cc nL s args Ts own) {i : Nat} (hd : decode cc pc = .ok (.iload i, 2)) : fx_Snd (fx_W p l e R s m args below meth c Q A cs sl WP q nL) pc (fm_load i (pc + 2)) := by
  intro k ls st S hk hf LS H locs hl hP hS
  unfold fm_load at hf
  cases hn : fx_nth ls i with
  | none => rw [hn] at hf; exact hf.elim
  | some v =>
    cases v with
    | inr a => rw [hn] at hf; exact hf.elim
    | inl x =>
      rw [hn] at hf
      exact lv_iload h.1 h.2.1 hd (fx_has_at hl hn) (hk _ _ _ _ hf LS H locs hl hP hS)
theorem fs_loada_n (h : CallFix p m c cc nL s args Ts own) {kk : Fin 4} {i : Nat} (hd : decode cc pc = .ok (.aload_n kk, 1)) (hi : (kk : Nat) = i) : fx_Snd (fx_W p l e R s m args below meth c Q A cs sl WP q nL) pc (fm_loada i (pc + 1)) := by
  intro k ls st S hk hf LS H locs hl hP hS
  unfold fm_loada at hf
  cases hn : fx_nth ls i with
  | none => rw [hn] at hf; exact hf.elim
  | some v =>
    cases v with
    | inl a => rw [hn] at hf; exact hf.elim
    | inr x =>
      rw [hn] at hf
      exact lv_aload_n h.1 h.2.1 hd hi (fx_has_at hl hn) (hk _ _ _ _ hf LS H locs hl hP hS)
theorem fs_loada (h : CallFix p m c cc nL s args Ts own) {i : Nat} (hd : decode cc pc = .ok (.aload i, 2)) : fx_Snd (fx_W p l e R s m args below meth c Q A cs sl WP q nL) pc (fm_loada i (pc + 2)) := by
  intro k ls st S hk hf LS H locs hl hP hS
  unfold fm_loada at hf
  cases hn : fx_nth ls i with
  | none => rw [hn] at hf; exact hf.elim
  | some v =>
    cases v with
    | inl a => rw [hn] at hf; exact hf.elim
    | inr x =>
      rw [hn] at hf
      exact lv_aload h.1 h.2.1 hd (fx_has_at hl hn) (hk _ _ _ _ hf LS H locs hl hP hS)
theorem fs_store_n (h : CallFix p m c cc nL s args Ts own) {kk : Fin 4} {i : Nat} (hd : decode cc pc = .ok (.istore_n kk, 1)) (hi : (kk : Nat) = i) (hn : i < nL) : fx_Snd (fx_W p l e R s m args below meth c Q A cs sl WP q nL) pc (fm_store i (pc + 1)) := by
  intro k ls st S hk hf LS H locs hl hP hS
  obtain ⟨x, r, rfl, hf1⟩ := fx_pi_e hf
  exact lv_istore_n h.1 h.2.1 hd hi hl hn rfl (fun LS' hl' => hk _ _ _ _ hf1 LS' H locs (fx_has_set hl') hP hS)
theorem fs_store (h : CallFix p m c cc nL s args Ts own) {i : Nat} (hd : decode cc pc = .ok (.istore i, 2)) (hn : i < nL) : fx_Snd (fx_W p l e R s m args below meth c Q A cs sl WP q nL) pc (fm_store i (pc + 2)) := by
  intro k ls st S hk hf LS H locs hl hP hS
  obtain ⟨x, r, rfl, hf1⟩ := fx_pi_e hf
  exact lv_istore h.1 h.2.1 hd hl hn rfl (fun LS' hl' => hk _ _ _ _ hf1 LS' H locs (fx_has_set hl') hP hS)
theorem fs_storea_n (h : CallFix p m c cc nL s args Ts own) {kk : Fin 4} {i : Nat} (hd : decode cc pc = .ok (.astore_n kk, 1)) (hi : (kk : Nat) = i) (hn : i < nL) : fx_Snd (fx_W p l e R s m args below meth c Q A cs sl WP q nL) pc (fm_storea i (pc + 1)) := by
  intro k ls st S hk hf LS H locs hl hP hS
  obtain ⟨x, r, rfl, hf1⟩ := fx_pr_e hf
  exact lv_astore_n h.1 h.2.1 hd hi hl hn rfl (fun LS' hl' => hk _ _ _ _ hf1 LS' H locs (fx_has_set hl') hP hS)
theorem fs_storea (h : CallFix p m c cc nL s args Ts own) {i : Nat} (hd : decode cc pc = .ok (.astore i, 2)) (hn : i < nL) : fx_Snd (fx_W p l e R s m args below meth c Q A cs sl WP q nL) pc (fm_storea i (pc + 2)) := by
  intro k ls st S hk hf LS H locs hl hP hS
  obtain ⟨x, r, rfl, hf1⟩ := fx_pr_e hf
  exact lv_astore h.1 h.2.1 hd hl hn rfl (fun LS' hl' => hk _ _ _ _ hf1 LS' H locs (fx_has_set hl') hP hS)
theorem fs_inc (h : CallFix p m c cc nL s args Ts own) {i : Nat} {n : Int} {d : Int32} (hd : decode cc pc = .ok (.iinc i n, 3)) (hv : Int32.ofInt n = d) (hn : i < nL) : fx_Snd (fx_W p l e R s m args below meth c Q A cs sl WP q nL) pc (fm_inc i d (pc + 3)) := by
  intro k ls st S hk hf LS H locs hl hP hS
  unfold fm_inc at hf
  cases hx : fx_nth ls i with
  | none => rw [hx] at hf; exact hf.elim
  | some v =>
    cases v with
    | inr a => rw [hx] at hf; exact hf.elim
    | inl x =>
      rw [hx] at hf
      have hk0 : (fx_ls q ls)[i]? = some (i, .int x) := by
        rw [fx_ls, List.getElem?_mapIdx, ← fx_nth_eq, hx]; rfl
      exact lv_iinc h.1 h.2.1 hd hl hk0 (by rw [hv]) hn rfl (fun LS' hl' => hk _ _ _ _ hf LS' H locs (fx_has_set (v := .inl (x + d)) hl') hP hS)
theorem fs_goto (h : CallFix p m c cc nL s args Ts own) {off : Int} {tg : Nat} (hd : decode cc pc = .ok (.goto off, 3)) (ht : (pc : Int) + off = (tg : Int)) : fx_Snd (fx_W p l e R s m args below meth c Q A cs sl WP q nL) pc (fm_goto tg) :=
  fun _ _ _ _ hk hf LS H locs hl hP hS => lv_goto h.1 h.2.1 hd ht (hk _ _ _ _ hf LS H locs hl hP hS)
theorem fs_dup (h : CallFix p m c cc nL s args Ts own) (hd : decode cc pc = .ok (.dup, 1)) : fx_Snd (fx_W p l e R s m args below meth c Q A cs sl WP q nL) pc (fm_dup (pc + 1)) := by
  intro k ls st S hk hf LS H locs hl hP hS
  obtain ⟨x, r, rfl, hf1⟩ := fx_pv_e hf
  exact lv_dup h.1 h.2.1 hd (fx_cat q x) (hk _ _ _ _ hf1 LS H locs hl hP hS)
theorem fs_pop (h : CallFix p m c cc nL s args Ts own) (hd : decode cc pc = .ok (.pop, 1)) : fx_Snd (fx_W p l e R s m args below meth c Q A cs sl WP q nL) pc (fm_pop (pc + 1)) := by
  intro k ls st S hk hf LS H locs hl hP hS
  obtain ⟨x, r, rfl, hf1⟩ := fx_pv_e hf
  exact lv_pop h.1 h.2.1 hd (fx_cat q x) (hk _ _ _ _ hf1 LS H locs hl hP hS)
theorem fs_dupx1 (h : CallFix p m c cc nL s args Ts own) (hd : decode cc pc = .ok (.dup_x1, 1)) : fx_Snd (fx_W p l e R s m args below meth c Q A cs sl WP q nL) pc (fm_dupx1 (pc + 1)) := by
  intro k ls st S hk hf LS H locs hl hP hS
  obtain ⟨x, r, rfl, hf1⟩ := fx_pv_e hf
  obtain ⟨y, r, rfl, hf2⟩ := fx_pv_e hf1
  exact lv_dup_x1 h.1 h.2.1 hd (fx_cat q x) (fx_cat q y) (hk _ _ _ _ hf2 LS H locs hl hP hS)
theorem fs_dupx2 (h : CallFix p m c cc nL s args Ts own) (hd : decode cc pc = .ok (.dup_x2, 1)) : fx_Snd (fx_W p l e R s m args below meth c Q A cs sl WP q nL) pc (fm_dupx2 (pc + 1)) := by
  intro k ls st S hk hf LS H locs hl hP hS
  obtain ⟨x, r, rfl, hf1⟩ := fx_pv_e hf
  obtain ⟨y, r, rfl, hf2⟩ := fx_pv_e hf1
  obtain ⟨w, r, rfl, hf3⟩ := fx_pv_e hf2
  exact lv_dup_x2 h.1 h.2.1 hd (fx_cat q x) (fx_cat q y) (fx_cat q w) (hk _ _ _ _ hf3 LS H locs hl hP hS)
theorem fs_dup2 (h : CallFix p m c cc nL s args Ts own) (hd : decode cc pc = .ok (.dup2, 1)) : fx_Snd (fx_W p l e R s m args below meth c Q A cs sl WP q nL) pc (fm_dup2 (pc + 1)) := by
  intro k ls st S hk hf LS H locs hl hP hS
  obtain ⟨x, r, rfl, hf1⟩ := fx_pv_e hf
  obtain ⟨y, r, rfl, hf2⟩ := fx_pv_e hf1
  exact lv_dup2_11 h.1 h.2.1 hd (fx_cat q x) (fx_cat q y) (hk _ _ _ _ hf2 LS H locs hl hP hS)
theorem fs_iadd (h : CallFix p m c cc nL s args Ts own) (hd : decode cc pc = .ok (.iadd, 1)) : fx_Snd (fx_W p l e R s m args below meth c Q A cs sl WP q nL) pc (fm_iadd (pc + 1)) := by
  intro k ls st S hk hf LS H locs hl hP hS
  obtain ⟨y, r, rfl, hf1⟩ := fx_pi_e hf
  obtain ⟨x, r, rfl, hf2⟩ := fx_pi_e hf1
  exact lv_iadd h.1 h.2.1 hd (hk _ _ _ _ hf2 LS H locs hl hP hS)
theorem fs_isub (h : CallFix p m c cc nL s args Ts own) (hd : decode cc pc = .ok (.isub, 1)) : fx_Snd (fx_W p l e R s m args below meth c Q A cs sl WP q nL) pc (fm_isub (pc + 1)) := by
  intro k ls st S hk hf LS H locs hl hP hS
  obtain ⟨y, r, rfl, hf1⟩ := fx_pi_e hf
  obtain ⟨x, r, rfl, hf2⟩ := fx_pi_e hf1
  exact lv_isub h.1 h.2.1 hd (hk _ _ _ _ hf2 LS H locs hl hP hS)
theorem fs_imul (h : CallFix p m c cc nL s args Ts own) (hd : decode cc pc = .ok (.imul, 1)) : fx_Snd (fx_W p l e R s m args below meth c Q A cs sl WP q nL) pc (fm_imul (pc + 1)) := by
  intro k ls st S hk hf LS H locs hl hP hS
  obtain ⟨y, r, rfl, hf1⟩ := fx_pi_e hf
  obtain ⟨x, r, rfl, hf2⟩ := fx_pi_e hf1
  exact lv_imul h.1 h.2.1 hd (hk _ _ _ _ hf2 LS H locs hl hP hS)
theorem fs_iand (h : CallFix p m c cc nL s args Ts own) (hd : decode cc pc = .ok (.iand, 1)) : fx_Snd (fx_W p l e R s m args below meth c Q A cs sl WP q nL) pc (fm_iand (pc + 1)) := by
  intro k ls st S hk hf LS H locs hl hP hS
  obtain ⟨y, r, rfl, hf1⟩ := fx_pi_e hf
  obtain ⟨x, r, rfl, hf2⟩ := fx_pi_e hf1
  exact lv_iand h.1 h.2.1 hd (hk _ _ _ _ hf2 LS H locs hl hP hS)
theorem fs_ior (h : CallFix p m c cc nL s args Ts own) (hd : decode cc pc = .ok (.ior, 1)) : fx_Snd (fx_W p l e R s m args below meth c Q A cs sl WP q nL) pc (fm_ior (pc + 1)) := by
  intro k ls st S hk hf LS H locs hl hP hS
  obtain ⟨y, r, rfl, hf1⟩ := fx_pi_e hf
  obtain ⟨x, r, rfl, hf2⟩ := fx_pi_e hf1
  exact lv_ior h.1 h.2.1 hd (hk _ _ _ _ hf2 LS H locs hl hP hS)
theorem fs_ixor (h : CallFix p m c cc nL s args Ts own) (hd : decode cc pc = .ok (.ixor, 1)) : fx_Snd (fx_W p l e R s m args below meth c Q A cs sl WP q nL) pc (fm_ixor (pc + 1)) := by
  intro k ls st S hk hf LS H locs hl hP hS
  obtain ⟨y, r, rfl, hf1⟩ := fx_pi_e hf
  obtain ⟨x, r, rfl, hf2⟩ := fx_pi_e hf1
  exact lv_ixor h.1 h.2.1 hd (hk _ _ _ _ hf2 LS H locs hl hP hS)
theorem fs_ishl (h : CallFix p m c cc nL s args Ts own) (hd : decode cc pc = .ok (.ishl, 1)) : fx_Snd (fx_W p l e R s m args below meth c Q A cs sl WP q nL) pc (fm_ishl (pc + 1)) := by
  intro k ls st S hk hf LS H locs hl hP hS
  obtain ⟨y, r, rfl, hf1⟩ := fx_pi_e hf
  obtain ⟨x, r, rfl, hf2⟩ := fx_pi_e hf1
  exact lv_ishl h.1 h.2.1 hd (hk _ _ _ _ hf2 LS H locs hl hP hS)
theorem fs_ishr (h : CallFix p m c cc nL s args Ts own) (hd : decode cc pc = .ok (.ishr, 1)) : fx_Snd (fx_W p l e R s m args below meth c Q A cs sl WP q nL) pc (fm_ishr (pc + 1)) := by
  intro k ls st S hk hf LS H locs hl hP hS
  obtain ⟨y, r, rfl, hf1⟩ := fx_pi_e hf
  obtain ⟨x, r, rfl, hf2⟩ := fx_pi_e hf1
  exact lv_ishr h.1 h.2.1 hd (hk _ _ _ _ hf2 LS H locs hl hP hS)
theorem fs_ifeq (h : CallFix p m c cc nL s args Ts own) {off : Int} {tg : Nat} (hd : decode cc pc = .ok (.ifCond .eq off, 3)) (ht : (pc : Int) + off = (tg : Int)) : fx_Snd (fx_W p l e R s m args below meth c Q A cs sl WP q nL) pc (fm_ifeq tg (pc + 3)) := by
  intro k ls st S hk hf LS H locs hl hP hS
  obtain ⟨x, r, rfl, hf1⟩ := fx_pi_e hf
  exact lv_if_eq h.1 h.2.1 hd ht (fun hc => hk _ _ _ _ (hf1.1 hc) LS H locs hl hP hS) (fun hc => hk _ _ _ _ (hf1.2 hc) LS H locs hl hP hS)
theorem fs_ifne (h : CallFix p m c cc nL s args Ts own) {off : Int} {tg : Nat} (hd : decode cc pc = .ok (.ifCond .ne off, 3)) (ht : (pc : Int) + off = (tg : Int)) : fx_Snd (fx_W p l e R s m args below meth c Q A cs sl WP q nL) pc (fm_ifne tg (pc + 3)) := by
  intro k ls st S hk hf LS H locs hl hP hS
  obtain ⟨x, r, rfl, hf1⟩ := fx_pi_e hf
  exact lv_if_ne h.1 h.2.1 hd ht (fun hc => hk _ _ _ _ (hf1.1 hc) LS H locs hl hP hS) (fun hc => hk _ _ _ _ (hf1.2 hc) LS H locs hl hP hS)
theorem fs_iflt (h : CallFix p m c cc nL s args Ts own) {off : Int} {tg : Nat} (hd : decode cc pc = .ok (.ifCond .lt off, 3)) (ht : (pc : Int) + off = (tg : Int)) : fx_Snd (fx_W p l e R s m args below meth c Q A cs sl WP q nL) pc (fm_iflt tg (pc + 3)) := by
  intro k ls st S hk hf LS H locs hl hP hS
  obtain ⟨x, r, rfl, hf1⟩ := fx_pi_e hf
  exact lv_if_lt h.1 h.2.1 hd ht (fun hc => hk _ _ _ _ (hf1.1 hc) LS H locs hl hP hS) (fun hc => hk _ _ _ _ (hf1.2 hc) LS H locs hl hP hS)
theorem fs_ifge (h : CallFix p m c cc nL s args Ts own) {off : Int} {tg : Nat} (hd : decode cc pc = .ok (.ifCond .ge off, 3)) (ht : (pc : Int) + off = (tg : Int)) : fx_Snd (fx_W p l e R s m args below meth c Q A cs sl WP q nL) pc (fm_ifge tg (pc + 3)) := by
  intro k ls st S hk hf LS H locs hl hP hS
  obtain ⟨x, r, rfl, hf1⟩ := fx_pi_e hf
  exact lv_if_ge h.1 h.2.1 hd ht (fun hc => hk _ _ _ _ (hf1.1 hc) LS H locs hl hP hS) (fun hc => hk _ _ _ _ (hf1.2 hc) LS H locs hl hP hS)
theorem fs_ifgt (h : CallFix p m c cc nL s args Ts own) {off : Int} {tg : Nat} (hd : decode cc pc = .ok (.ifCond .gt off, 3)) (ht : (pc : Int) + off = (tg : Int)) : fx_Snd (fx_W p l e R s m args below meth c Q A cs sl WP q nL) pc (fm_ifgt tg (pc + 3)) := by
  intro k ls st S hk hf LS H locs hl hP hS
  obtain ⟨x, r, rfl, hf1⟩ := fx_pi_e hf
  exact lv_if_gt h.1 h.2.1 hd ht (fun hc => hk _ _ _ _ (hf1.1 hc) LS H locs hl hP hS) (fun hc => hk _ _ _ _ (hf1.2 hc) LS H locs hl hP hS)
theorem fs_ifle (h : CallFix p m c cc nL s args Ts own) {off : Int} {tg : Nat} (hd : decode cc pc = .ok (.ifCond .le off, 3)) (ht : (pc : Int) + off = (tg : Int)) : fx_Snd (fx_W p l e R s m args below meth c Q A cs sl WP q nL) pc (fm_ifle tg (pc + 3)) := by
  intro k ls st S hk hf LS H locs hl hP hS
  obtain ⟨x, r, rfl, hf1⟩ := fx_pi_e hf
  exact lv_if_le h.1 h.2.1 hd ht (fun hc => hk _ _ _ _ (hf1.1 hc) LS H locs hl hP hS) (fun hc => hk _ _ _ _ (hf1.2 hc) LS H locs hl hP hS)
theorem fs_cmpeq (h : CallFix p m c cc nL s args Ts own) {off : Int} {tg : Nat} (hd : decode cc pc = .ok (.if_icmp .eq off, 3)) (ht : (pc : Int) + off = (tg : Int)) : fx_Snd (fx_W p l e R s m args below meth c Q A cs sl WP q nL) pc (fm_cmpeq tg (pc + 3)) := by
  intro k ls st S hk hf LS H locs hl hP hS
  obtain ⟨y, r, rfl, hf1⟩ := fx_pi_e hf
  obtain ⟨x, r, rfl, hf2⟩ := fx_pi_e hf1
  exact lv_icmp_eq h.1 h.2.1 hd ht (fun hc => hk _ _ _ _ (hf2.1 hc) LS H locs hl hP hS) (fun hc => hk _ _ _ _ (hf2.2 hc) LS H locs hl hP hS)
theorem fs_cmpne (h : CallFix p m c cc nL s args Ts own) {off : Int} {tg : Nat} (hd : decode cc pc = .ok (.if_icmp .ne off, 3)) (ht : (pc : Int) + off = (tg : Int)) : fx_Snd (fx_W p l e R s m args below meth c Q A cs sl WP q nL) pc (fm_cmpne tg (pc + 3)) := by
  intro k ls st S hk hf LS H locs hl hP hS
  obtain ⟨y, r, rfl, hf1⟩ := fx_pi_e hf
  obtain ⟨x, r, rfl, hf2⟩ := fx_pi_e hf1
  exact lv_icmp_ne h.1 h.2.1 hd ht (fun hc => hk _ _ _ _ (hf2.1 hc) LS H locs hl hP hS) (fun hc => hk _ _ _ _ (hf2.2 hc) LS H locs hl hP hS)
theorem fs_cmplt (h : CallFix p m c cc nL s args Ts own) {off : Int} {tg : Nat} (hd : decode cc pc = .ok (.if_icmp .lt off, 3)) (ht : (pc : Int) + off = (tg : Int)) : fx_Snd (fx_W p l e R s m args below meth c Q A cs sl WP q nL) pc (fm_cmplt tg (pc + 3)) := by
  intro k ls st S hk hf LS H locs hl hP hS
  obtain ⟨y, r, rfl, hf1⟩ := fx_pi_e hf
  obtain ⟨x, r, rfl, hf2⟩ := fx_pi_e hf1
  exact lv_icmp_lt h.1 h.2.1 hd ht (fun hc => hk _ _ _ _ (hf2.1 hc) LS H locs hl hP hS) (fun hc => hk _ _ _ _ (hf2.2 hc) LS H locs hl hP hS)
theorem fs_cmpge (h : CallFix p m c cc nL s args Ts own) {off : Int} {tg : Nat} (hd : decode cc pc = .ok (.if_icmp .ge off, 3)) (ht : (pc : Int) + off = (tg : Int)) : fx_Snd (fx_W p l e R s m args below meth c Q A cs sl WP q nL) pc (fm_cmpge tg (pc + 3)) := by
  intro k ls st S hk hf LS H locs hl hP hS
  obtain ⟨y, r, rfl, hf1⟩ := fx_pi_e hf
  obtain ⟨x, r, rfl, hf2⟩ := fx_pi_e hf1
  exact lv_icmp_ge h.1 h.2.1 hd ht (fun hc => hk _ _ _ _ (hf2.1 hc) LS H locs hl hP hS) (fun hc => hk _ _ _ _ (hf2.2 hc) LS H locs hl hP hS)
theorem fs_cmpgt (h : CallFix p m c cc nL s args Ts own) {off : Int} {tg : Nat} (hd : decode cc pc = .ok (.if_icmp .gt off, 3)) (ht : (pc : Int) + off = (tg : Int)) : fx_Snd (fx_W p l e R s m args below meth c Q A cs sl WP q nL) pc (fm_cmpgt tg (pc + 3)) := by
  intro k ls st S hk hf LS H locs hl hP hS
  obtain ⟨y, r, rfl, hf1⟩ := fx_pi_e hf
  obtain ⟨x, r, rfl, hf2⟩ := fx_pi_e hf1
  exact lv_icmp_gt h.1 h.2.1 hd ht (fun hc => hk _ _ _ _ (hf2.1 hc) LS H locs hl hP hS) (fun hc => hk _ _ _ _ (hf2.2 hc) LS H locs hl hP hS)
theorem fs_cmple (h : CallFix p m c cc nL s args Ts own) {off : Int} {tg : Nat} (hd : decode cc pc = .ok (.if_icmp .le off, 3)) (ht : (pc : Int) + off = (tg : Int)) : fx_Snd (fx_W p l e R s m args below meth c Q A cs sl WP q nL) pc (fm_cmple tg (pc + 3)) := by
  intro k ls st S hk hf LS H locs hl hP hS
  obtain ⟨y, r, rfl, hf1⟩ := fx_pi_e hf
  obtain ⟨x, r, rfl, hf2⟩ := fx_pi_e hf1
  exact lv_icmp_le h.1 h.2.1 hd ht (fun hc => hk _ _ _ _ (hf2.1 hc) LS H locs hl hP hS) (fun hc => hk _ _ _ _ (hf2.2 hc) LS H locs hl hP hS)
end FXS
