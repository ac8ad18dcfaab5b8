/-! constructors (by program: wip/gen/mkinit.py) -/
abbrev in_ar (cA : Nat → ClassId) (t n : Nat) : va_E := .inl (cA t, n, .inl (fun _ => (0 : Int32)))
section INI
variable {p : Program} {l : Launch} {e : Env} {R : Room} {s : State} {m : MethodId} {args : Array Value} {below : List Frame} {meth : Method} {c : Code} {H H0 : Heap} {locs : List Loc} {cells slots : Nat} {Q : State → Prop} {D : va_G} {cl : List vw_C} {tys : List (ClassId × FieldType)} {A : Nat → Prop} {ws : va_W} {cc : ByteArray} {pc : Nat} {ls : Array Slot} {rest : List Value}
/-- a new array, of the class that is known already -/
theorem in_newa (hexec : p.tables.exec = Jvm.exec) (hb : c.code = cc) {atype : ArrayType} (harr : (Cond.arrayClass (newarray.typeOf atype)).before args s = true) {ty : FieldType} (hty : newarray.typeOf atype = ty) (hK : va_K D cl tys s) {t : Nat} {k0 : ClassId} (ht : tys[t]? = some (k0, ty)) (hp : va_RA s k0 ty → s.vm.findClass ("[" ++ ty.toString) = some k0) (hP : va_P D cl ws H) (hD : va_D A ws) (hS : va_S A H0 H locs) (hA : ∀ q, H0.size ≤ q → A q)
    {n : Int32} {N' : Nat} {a0 : vp_A} (ha : ∀ cA : ClassId, vp_cell cA a0 = arrV cA N' (fun _ => defaultValue ty)) (hn : ¬ n < 0) (hN : n.toNatClampNeg = N') (hbytes : N' * componentBytes ty ≤ 536870912) (hcells : cells + 1 ≤ R.cells) (hslots : slots + N' ≤ R.slots) (hdg : decode cc pc = .ok (.newarray atype, 2))
    (kk : ∀ (q : Nat) (H1 : Heap), va_P D cl (ws ++ [(q, .inl (k0, a0))]) H1 → va_D A (ws ++ [(q, .inl (k0, a0))]) → va_S A H0 H1 locs →
      W p l e R s m args below meth c H1 locs (cells + 1) (slots + N') Q (F0 m (pc + 2) ls (.ref q :: rest))) : W p l e R s m args below meth c H locs cells slots Q (F0 m pc ls (.int n :: rest)) := by
  subst hty
  refine va_newaK hexec hb harr rfl hdg rfl hn hN hbytes hcells hslots rfl fun H1 cA e1 z1 o1 hAr hNm => ?_
  have hc0 : cA = k0 := Option.some.inj (hNm.symm.trans (hp (hK.2 t _ ht).2))
  subst hc0
  have hk : ∀ (k : Nat) (x : Nat × va_E), ws[k]? = some x → H1[x.1]? = H[x.1]? := fun k x hx => o1 x.1 ((hP k x hx).lt)
  refine kk H.size H1 ((hP.kept hk).app (fun k x hx => ?_)) (hD.push hP rfl (hA _ hS.1)) ⟨Nat.le_trans hS.1 (by omega), fun x h1 h2 => (o1 x (Nat.lt_of_lt_of_le h1 hS.1)).trans (hS.2.1 x h1 h2), hS.2.2⟩
  have hz : k < 1 := (List.getElem?_eq_some_iff.mp hx).1
  rw [show k = 0 by omega] at hx
  cases hx
  show H1[H.size]? = some (vp_cell _ _)
  rw [ha]
  exact e1
end INI
theorem wi_33 : (Jvm.Cond.initialized "ForcedChart$Steps") ∈ TB := tb_1 33 (by decide +kernel) (by decide +kernel)
theorem wi_34 : (Jvm.Cond.initialized "ForcedChart$Expressions") ∈ TB := tb_1 34 (by decide +kernel) (by decide +kernel)
theorem wi_35 : (Jvm.Cond.initialized "ForcedChart$Transitions") ∈ TB := tb_1 35 (by decide +kernel) (by decide +kernel)
theorem wi_36 : (Jvm.Cond.initialized "ForcedChart$Orders") ∈ TB := tb_1 36 (by decide +kernel) (by decide +kernel)
theorem wi_37 : (Jvm.Cond.initialized "ForcedChart$Actions") ∈ TB := tb_1 37 (by decide +kernel) (by decide +kernel)
theorem wi_38 : (Jvm.Cond.initialized "ForcedChart$Trial") ∈ TB := tb_1 38 (by decide +kernel) (by decide +kernel)
theorem wi_46 : (Jvm.Cond.methodLink "ForcedChart" (1 : Nat) ({ cls := "java/lang/Object", name := "<init>", desc := "()V" } : Jvm.MethodName)) ∈ TB := tb_1 46 (by decide +kernel) (by decide +kernel)
theorem wi_47 : (Jvm.Cond.instanceMethod ({ cls := "java/lang/Object", name := "<init>", desc := "()V" } : Jvm.MethodName)) ∈ TB := tb_1 47 (by decide +kernel) (by decide +kernel)
theorem wi_48 : (Jvm.Cond.code ({ cls := "java/lang/Object", name := "<init>", desc := "()V" } : Jvm.MethodName) object_method_1_code (1 : Nat) (Option.none : Option Jvm.ClassFile.FieldType)) ∈ TB := tb_1 48 (by decide +kernel) (by decide +kernel)
theorem wi_49 : (Jvm.Cond.classLink "ForcedChart" (7 : Nat) "ForcedChart$Steps") ∈ TB := tb_1 49 (by decide +kernel) (by decide +kernel)
theorem wi_50 : (Jvm.Cond.instantiable "ForcedChart$Steps" (4 : Nat)) ∈ TB := tb_1 50 (by decide +kernel) (by decide +kernel)
theorem wi_52 : (Jvm.Cond.instanceMethod ({ cls := "ForcedChart$Steps", name := "<init>", desc := "()V" } : Jvm.MethodName)) ∈ TB := tb_1 52 (by decide +kernel) (by decide +kernel)
theorem wi_54 : (Jvm.Cond.methodLink "ForcedChart$Steps" (3 : Nat) ({ cls := "java/lang/Object", name := "<init>", desc := "()V" } : Jvm.MethodName)) ∈ TB := tb_1 54 (by decide +kernel) (by decide +kernel)
theorem wi_55 : (Jvm.Cond.fieldLink "ForcedChart$Steps" (9 : Nat) "ForcedChart$Steps" "partOf" "[I") ∈ TB := tb_1 55 (by decide +kernel) (by decide +kernel)
theorem wi_57 : (Jvm.Cond.fieldLink "ForcedChart$Steps" (15 : Nat) "ForcedChart$Steps" "inPart" "[I") ∈ TB := tb_1 57 (by decide +kernel) (by decide +kernel)
theorem wi_72 : (Jvm.Cond.arrayClass Jvm.ClassFile.FieldType.int) ∈ TB := tb_1 72 (by decide +kernel) (by decide +kernel)
theorem wi_73 : (Jvm.Cond.classLink "ForcedChart" (16 : Nat) "ForcedChart$Expressions") ∈ TB := tb_1 73 (by decide +kernel) (by decide +kernel)
theorem wi_74 : (Jvm.Cond.instantiable "ForcedChart$Expressions" (5 : Nat)) ∈ TB := tb_1 74 (by decide +kernel) (by decide +kernel)
theorem wi_76 : (Jvm.Cond.instanceMethod ({ cls := "ForcedChart$Expressions", name := "<init>", desc := "()V" } : Jvm.MethodName)) ∈ TB := tb_1 76 (by decide +kernel) (by decide +kernel)
theorem wi_78 : (Jvm.Cond.methodLink "ForcedChart$Expressions" (3 : Nat) ({ cls := "java/lang/Object", name := "<init>", desc := "()V" } : Jvm.MethodName)) ∈ TB := tb_1 78 (by decide +kernel) (by decide +kernel)
theorem wi_79 : (Jvm.Cond.fieldLink "ForcedChart$Expressions" (9 : Nat) "ForcedChart$Expressions" "kinds" "[I") ∈ TB := tb_1 79 (by decide +kernel) (by decide +kernel)
theorem wi_80 : (Jvm.Cond.fieldLink "ForcedChart$Expressions" (15 : Nat) "ForcedChart$Expressions" "firsts" "[I") ∈ TB := tb_1 80 (by decide +kernel) (by decide +kernel)
theorem wi_81 : (Jvm.Cond.fieldLink "ForcedChart$Expressions" (18 : Nat) "ForcedChart$Expressions" "seconds" "[I") ∈ TB := tb_1 81 (by decide +kernel) (by decide +kernel)
theorem wi_82 : (Jvm.Cond.fieldLink "ForcedChart$Expressions" (21 : Nat) "ForcedChart$Expressions" "depths" "[I") ∈ TB := tb_1 82 (by decide +kernel) (by decide +kernel)
theorem wi_96 : (Jvm.Cond.classLink "ForcedChart" (23 : Nat) "ForcedChart$Transitions") ∈ TB := tb_1 96 (by decide +kernel) (by decide +kernel)
theorem wi_97 : (Jvm.Cond.instantiable "ForcedChart$Transitions" (5 : Nat)) ∈ TB := tb_1 97 (by decide +kernel) (by decide +kernel)
theorem wi_99 : (Jvm.Cond.instanceMethod ({ cls := "ForcedChart$Transitions", name := "<init>", desc := "()V" } : Jvm.MethodName)) ∈ TB := tb_1 99 (by decide +kernel) (by decide +kernel)
theorem wi_101 : (Jvm.Cond.methodLink "ForcedChart$Transitions" (3 : Nat) ({ cls := "java/lang/Object", name := "<init>", desc := "()V" } : Jvm.MethodName)) ∈ TB := tb_1 101 (by decide +kernel) (by decide +kernel)
theorem wi_102 : (Jvm.Cond.fieldLink "ForcedChart$Transitions" (9 : Nat) "ForcedChart$Transitions" "befores" "[I") ∈ TB := tb_1 102 (by decide +kernel) (by decide +kernel)
theorem wi_103 : (Jvm.Cond.fieldLink "ForcedChart$Transitions" (15 : Nat) "ForcedChart$Transitions" "afters" "[I") ∈ TB := tb_1 103 (by decide +kernel) (by decide +kernel)
theorem wi_104 : (Jvm.Cond.fieldLink "ForcedChart$Transitions" (18 : Nat) "ForcedChart$Transitions" "conditions" "[I") ∈ TB := tb_1 104 (by decide +kernel) (by decide +kernel)
theorem wi_105 : (Jvm.Cond.fieldLink "ForcedChart$Transitions" (21 : Nat) "ForcedChart$Transitions" "inPart" "[I") ∈ TB := tb_1 105 (by decide +kernel) (by decide +kernel)
theorem wi_120 : (Jvm.Cond.classLink "ForcedChart" (30 : Nat) "ForcedChart$Orders") ∈ TB := tb_1 120 (by decide +kernel) (by decide +kernel)
theorem wi_121 : (Jvm.Cond.instantiable "ForcedChart$Orders" (4 : Nat)) ∈ TB := tb_1 121 (by decide +kernel) (by decide +kernel)
theorem wi_123 : (Jvm.Cond.instanceMethod ({ cls := "ForcedChart$Orders", name := "<init>", desc := "()V" } : Jvm.MethodName)) ∈ TB := tb_1 123 (by decide +kernel) (by decide +kernel)
theorem wi_125 : (Jvm.Cond.methodLink "ForcedChart$Orders" (3 : Nat) ({ cls := "java/lang/Object", name := "<init>", desc := "()V" } : Jvm.MethodName)) ∈ TB := tb_1 125 (by decide +kernel) (by decide +kernel)
theorem wi_126 : (Jvm.Cond.fieldLink "ForcedChart$Orders" (9 : Nat) "ForcedChart$Orders" "givers" "[I") ∈ TB := tb_1 126 (by decide +kernel) (by decide +kernel)
theorem wi_127 : (Jvm.Cond.fieldLink "ForcedChart$Orders" (15 : Nat) "ForcedChart$Orders" "parts" "[I") ∈ TB := tb_1 127 (by decide +kernel) (by decide +kernel)
theorem wi_128 : (Jvm.Cond.fieldLink "ForcedChart$Orders" (18 : Nat) "ForcedChart$Orders" "fixedSets" "[I") ∈ TB := tb_1 128 (by decide +kernel) (by decide +kernel)
theorem wi_140 : (Jvm.Cond.classLink "ForcedChart" (37 : Nat) "ForcedChart$Actions") ∈ TB := tb_1 140 (by decide +kernel) (by decide +kernel)
theorem wi_141 : (Jvm.Cond.instantiable "ForcedChart$Actions" (7 : Nat)) ∈ TB := tb_1 141 (by decide +kernel) (by decide +kernel)
theorem wi_143 : (Jvm.Cond.instanceMethod ({ cls := "ForcedChart$Actions", name := "<init>", desc := "()V" } : Jvm.MethodName)) ∈ TB := tb_1 143 (by decide +kernel) (by decide +kernel)
theorem wi_145 : (Jvm.Cond.methodLink "ForcedChart$Actions" (3 : Nat) ({ cls := "java/lang/Object", name := "<init>", desc := "()V" } : Jvm.MethodName)) ∈ TB := tb_1 145 (by decide +kernel) (by decide +kernel)
theorem wi_146 : (Jvm.Cond.fieldLink "ForcedChart$Actions" (9 : Nat) "ForcedChart$Actions" "owners" "[I") ∈ TB := tb_1 146 (by decide +kernel) (by decide +kernel)
theorem wi_147 : (Jvm.Cond.fieldLink "ForcedChart$Actions" (15 : Nat) "ForcedChart$Actions" "qualifiers" "[I") ∈ TB := tb_1 147 (by decide +kernel) (by decide +kernel)
theorem wi_148 : (Jvm.Cond.fieldLink "ForcedChart$Actions" (18 : Nat) "ForcedChart$Actions" "variables" "[I") ∈ TB := tb_1 148 (by decide +kernel) (by decide +kernel)
theorem wi_149 : (Jvm.Cond.fieldLink "ForcedChart$Actions" (21 : Nat) "ForcedChart$Actions" "durations" "[I") ∈ TB := tb_1 149 (by decide +kernel) (by decide +kernel)
theorem wi_150 : (Jvm.Cond.fieldLink "ForcedChart$Actions" (24 : Nat) "ForcedChart$Actions" "ages" "[I") ∈ TB := tb_1 150 (by decide +kernel) (by decide +kernel)
theorem wi_169 : (Jvm.Cond.classLink "ForcedChart" (44 : Nat) "ForcedChart$Trial") ∈ TB := tb_1 169 (by decide +kernel) (by decide +kernel)
theorem wi_170 : (Jvm.Cond.instantiable "ForcedChart$Trial" (11 : Nat)) ∈ TB := tb_1 170 (by decide +kernel) (by decide +kernel)
theorem wi_172 : (Jvm.Cond.instanceMethod ({ cls := "ForcedChart$Trial", name := "<init>", desc := "()V" } : Jvm.MethodName)) ∈ TB := tb_1 172 (by decide +kernel) (by decide +kernel)
theorem wi_174 : (Jvm.Cond.methodLink "ForcedChart$Trial" (3 : Nat) ({ cls := "java/lang/Object", name := "<init>", desc := "()V" } : Jvm.MethodName)) ∈ TB := tb_1 174 (by decide +kernel) (by decide +kernel)
theorem wi_175 : (Jvm.Cond.fieldLink "ForcedChart$Trial" (9 : Nat) "ForcedChart$Trial" "timesAtBegin" "[I") ∈ TB := tb_1 175 (by decide +kernel) (by decide +kernel)
theorem wi_176 : (Jvm.Cond.fieldLink "ForcedChart$Trial" (15 : Nat) "ForcedChart$Trial" "states" "[I") ∈ TB := tb_1 176 (by decide +kernel) (by decide +kernel)
theorem wi_218 : (Jvm.Cond.fieldLink "ForcedChart" (10 : Nat) "ForcedChart" "steps" "LForcedChart$Steps;") ∈ TB := tb_1 218 (by decide +kernel) (by decide +kernel)
theorem wi_219 : (Jvm.Cond.fieldLink "ForcedChart" (19 : Nat) "ForcedChart" "expressions" "LForcedChart$Expressions;") ∈ TB := tb_1 219 (by decide +kernel) (by decide +kernel)
theorem wi_220 : (Jvm.Cond.fieldLink "ForcedChart" (26 : Nat) "ForcedChart" "transitions" "LForcedChart$Transitions;") ∈ TB := tb_1 220 (by decide +kernel) (by decide +kernel)
theorem wi_221 : (Jvm.Cond.fieldLink "ForcedChart" (33 : Nat) "ForcedChart" "orders" "LForcedChart$Orders;") ∈ TB := tb_1 221 (by decide +kernel) (by decide +kernel)
theorem wi_222 : (Jvm.Cond.fieldLink "ForcedChart" (40 : Nat) "ForcedChart" "actions" "LForcedChart$Actions;") ∈ TB := tb_1 222 (by decide +kernel) (by decide +kernel)
theorem wi_223 : (Jvm.Cond.fieldLink "ForcedChart" (47 : Nat) "ForcedChart" "trial" "LForcedChart$Trial;") ∈ TB := tb_1 223 (by decide +kernel) (by decide +kernel)
theorem wi_224 : (Jvm.Cond.fieldLink "ForcedChart" (51 : Nat) "ForcedChart" "times" "[I") ∈ TB := tb_1 224 (by decide +kernel) (by decide +kernel)
theorem wi_538 : (Jvm.Cond.methodLink "ForcedChartModel" (1 : Nat) ({ cls := "java/lang/Object", name := "<init>", desc := "()V" } : Jvm.MethodName)) ∈ TB := tb_1 538 (by decide +kernel) (by decide +kernel)
theorem wi_540 : (Jvm.Cond.fieldLink "ForcedChartModel" (7 : Nat) "ForcedChartModel" "partOf" "[I") ∈ TB := tb_1 540 (by decide +kernel) (by decide +kernel)
theorem wi_541 : (Jvm.Cond.fieldLink "ForcedChartModel" (13 : Nat) "ForcedChartModel" "initial" "[Z") ∈ TB := tb_1 541 (by decide +kernel) (by decide +kernel)
theorem wi_543 : (Jvm.Cond.fieldLink "ForcedChartModel" (17 : Nat) "ForcedChartModel" "kind" "[I") ∈ TB := tb_1 543 (by decide +kernel) (by decide +kernel)
theorem wi_544 : (Jvm.Cond.fieldLink "ForcedChartModel" (20 : Nat) "ForcedChartModel" "first" "[I") ∈ TB := tb_1 544 (by decide +kernel) (by decide +kernel)
theorem wi_545 : (Jvm.Cond.fieldLink "ForcedChartModel" (23 : Nat) "ForcedChartModel" "second" "[I") ∈ TB := tb_1 545 (by decide +kernel) (by decide +kernel)
theorem wi_546 : (Jvm.Cond.fieldLink "ForcedChartModel" (26 : Nat) "ForcedChartModel" "deep" "[I") ∈ TB := tb_1 546 (by decide +kernel) (by decide +kernel)
theorem wi_547 : (Jvm.Cond.fieldLink "ForcedChartModel" (29 : Nat) "ForcedChartModel" "holds" "[Z") ∈ TB := tb_1 547 (by decide +kernel) (by decide +kernel)
theorem wi_549 : (Jvm.Cond.fieldLink "ForcedChartModel" (32 : Nat) "ForcedChartModel" "from" "[I") ∈ TB := tb_1 549 (by decide +kernel) (by decide +kernel)
theorem wi_550 : (Jvm.Cond.fieldLink "ForcedChartModel" (35 : Nat) "ForcedChartModel" "to" "[I") ∈ TB := tb_1 550 (by decide +kernel) (by decide +kernel)
theorem wi_551 : (Jvm.Cond.fieldLink "ForcedChartModel" (38 : Nat) "ForcedChartModel" "condition" "[I") ∈ TB := tb_1 551 (by decide +kernel) (by decide +kernel)
theorem wi_553 : (Jvm.Cond.fieldLink "ForcedChartModel" (41 : Nat) "ForcedChartModel" "orderStep" "[I") ∈ TB := tb_1 553 (by decide +kernel) (by decide +kernel)
theorem wi_554 : (Jvm.Cond.fieldLink "ForcedChartModel" (44 : Nat) "ForcedChartModel" "orderPart" "[I") ∈ TB := tb_1 554 (by decide +kernel) (by decide +kernel)
theorem wi_555 : (Jvm.Cond.fieldLink "ForcedChartModel" (47 : Nat) "ForcedChartModel" "orderFixed" "[I") ∈ TB := tb_1 555 (by decide +kernel) (by decide +kernel)
theorem wi_557 : (Jvm.Cond.fieldLink "ForcedChartModel" (50 : Nat) "ForcedChartModel" "actionStep" "[I") ∈ TB := tb_1 557 (by decide +kernel) (by decide +kernel)
theorem wi_558 : (Jvm.Cond.fieldLink "ForcedChartModel" (53 : Nat) "ForcedChartModel" "qualifier" "[I") ∈ TB := tb_1 558 (by decide +kernel) (by decide +kernel)
theorem wi_559 : (Jvm.Cond.fieldLink "ForcedChartModel" (56 : Nat) "ForcedChartModel" "variable" "[I") ∈ TB := tb_1 559 (by decide +kernel) (by decide +kernel)
theorem wi_560 : (Jvm.Cond.fieldLink "ForcedChartModel" (59 : Nat) "ForcedChartModel" "duration" "[I") ∈ TB := tb_1 560 (by decide +kernel) (by decide +kernel)
theorem wi_561 : (Jvm.Cond.fieldLink "ForcedChartModel" (62 : Nat) "ForcedChartModel" "kept" "[Z") ∈ TB := tb_1 561 (by decide +kernel) (by decide +kernel)
theorem wi_562 : (Jvm.Cond.fieldLink "ForcedChartModel" (65 : Nat) "ForcedChartModel" "age" "[I") ∈ TB := tb_1 562 (by decide +kernel) (by decide +kernel)
theorem wi_566 : (Jvm.Cond.fieldLink "ForcedChartModel" (68 : Nat) "ForcedChartModel" "passed" "[I") ∈ TB := tb_1 566 (by decide +kernel) (by decide +kernel)
theorem wi_575 : (Jvm.Cond.fieldLink "ForcedChartModel" (71 : Nat) "ForcedChartModel" "oldPassed" "[I") ∈ TB := tb_1 575 (by decide +kernel) (by decide +kernel)
theorem wi_581 : (Jvm.Cond.fieldLink "ForcedChartModel" (74 : Nat) "ForcedChartModel" "seen" "[I") ∈ TB := tb_1 581 (by decide +kernel) (by decide +kernel)
theorem wi_669 : (Jvm.Cond.arrayClass Jvm.ClassFile.FieldType.boolean) ∈ TB := tb_1 669 (by decide +kernel) (by decide +kernel)
theorem df_St : ∀ j, j < 4 → defaultValue (ty_St j) = vp_V [.null, .null, .int 0, .int 0] j := by decide +kernel
theorem pd_St_init : y_St_init.cls ≠ "java/lang/invoke/MethodHandle" ∧ y_St_init.cls ≠ "java/lang/invoke/VarHandle" ∧ (parseMethodDescriptor y_St_init.desc).map (fun d => d.parameters.length) = some 0 := by decide +kernel
theorem wc_St_init : Cond.code y_St_init c_St_init 1 none ∈ TB := tb_1 53 (by decide +kernel) (by decide +kernel)
def ws_St_init : List Cond := .code y_St_init c_St_init 1 none :: TB
abbrev rm_St_init : Room := { frames := 1, cells := 2, slots := 11, locals := 12 }
set_option maxHeartbeats 4000000 in
set_option maxRecDepth 100000 in
theorem ci_St_init (l : Launch) (D : va_G) (cA : Nat → ClassId) (h0 sz : Nat) : Met l y_St_init ws_St_init rm_St_init (va_Pc [.ref h0] (fun U => U.heap.size = sz ∧ va_P D vwCl [(h0, .inr (1, [.null, .null, .int 0, .int 0]))] U.heap ∧ va_K D vwCl (fx_ty cA) U ∧ va_D (fun _ => True) [(h0, .inr (1, [.null, .null, .int 0, .int 0]))])) (va_Qv (fun _ : Nat → Nat => True) (fun u t => va_P D vwCl [(h0, .inr (1, [.ref (u 0), .ref (u 1), .int 0, .int 0])), (u 0, in_ar cA 0 8), (u 1, in_ar cA 0 3)] t.heap ∧ va_D (va_A [(h0, .inr (1, [.null, .null, .int 0, .int 0]))] sz) [(h0, .inr (1, [.ref (u 0), .ref (u 1), .int 0, .int 0])), (u 0, in_ar cA 0 8), (u 1, in_ar cA 0 3)]) (va_A [(h0, .inr (1, [.null, .null, .int 0, .int 0]))] sz)) 2 11 (va_A [(h0, .inr (1, [.null, .null, .int 0, .int 0]))] sz) := by
  refine Met.ofW (cc := c_St_init) (maxL := 1) (ret := none) (by decide) rfl ?_
  intro p e s m args below meth c s₁ B hml hv
  obtain ⟨rfl, hsz, hP, hK, hD0⟩ := hv
  have hx := B.exec
  have hb := B.bytes
  have hr := B.returns
  have hts := atoms_spec (ws := ws_St_init) B.pre
  have hm : ∀ {w : Cond}, w ∈ TB → w.before #[Value.ref h0] s = true := fun h => hts _ (List.mem_cons_of_mem _ h)
  have hown : s.vm.findClass R_St = some m.cls := findClass_of_methodNamed B.named
  have hlocks := B.notSynchronized
  have hin : meth.name = "<init>" := (name_of_methodNamed B.named B.method).1
  subst hsz
  have hD := hD0.self (sz := s.heap.size)
  generalize hAe : va_A [(h0, .inr (1, [.null, .null, .int 0, .int 0]))] s.heap.size = A at hD ⊢
  have hA : ∀ q : Nat, s.heap.size ≤ q → A q := fun q h => by rw [← hAe]; exact Or.inr h
  have hS : va_S A s.heap s.heap [] := va_S.rf
  have hP : va_P D vwCl [(h0, .inr (1, [.null, .null, .int 0, .int 0]))] s.heap := hP
  have hl := lv_entry ([.ref h0]) (n := 1) (Nat.le_of_ble_eq_true rfl)
  rw [lg_entry_eq]
  generalize (lg_sl ([.ref h0]) ++ List.replicate (1 - (lg_sl ([.ref h0])).length) Slot.unset).toArray = ls at hl ⊢
  have hl : lv_has ls 1 [(0, .ref h0)] := hl
  refine lv_aload_n hx hb d_St_init_0 rfl (lv_at hl 0 rfl) ?_
  refine W.objInit hx hb hown (hm wi_54) (hm wi_47) (hm wi_48) rfl (by rw [hml]; exact hl.1) rfl d_St_init_1 (Nat.le_of_ble_eq_true rfl) (Nat.le_of_ble_eq_true rfl) ?_
  refine W.eq (g2 := F0 m 4 ls []) rfl ?_
  refine lv_aload_n hx hb d_St_init_4 rfl (lv_at hl 0 rfl) ?_
  refine lv_bipush (v := 8) hx hb d_St_init_5 (by decide) ?_
  refine in_newa (atype := .int) (ty := .int) (t := 0) (a0 := (8, .inl (fun _ => (0 : Int32)))) (N' := 8) hx hb (hm wi_72) rfl hK rfl id hP hD hS hA (fun _ => rfl) (by decide) rfl (by decide) (Nat.le_of_ble_eq_true rfl) (Nat.le_of_ble_eq_true rfl) d_St_init_7 (fun q7 H hP hD hS => ?_)
  refine W.widen (k := 1) (n := 8) (Nat.le_refl _) (Nat.le_refl _) ?_
  have hP : va_P D vwCl [(h0, .inr (1, [.null, .null, .int 0, .int 0])), (q7, in_ar cA 0 8)] H := hP
  have hD : va_D A [(h0, .inr (1, [.null, .null, .int 0, .int 0])), (q7, in_ar cA 0 8)] := hD
  refine va_putF (D := D) (ci := 1) (v := .ref q7) (ty := .array .int) (C := R_St) (T := T_St) (N := 4) hx hb hts (fun w h => List.mem_cons_of_mem _ (in_St w h)) ty_St tk_St nm_St hown hK hP hD hS 0 rfl rfl 0 (by decide) (hm wi_55) (fun _ h9 => h9) rfl hin rfl (by decide +kernel) rfl rfl (Nat.le_of_ble_eq_true rfl) d_St_init_9 (fun H locs hP hD hS => ?_)
  have hP : va_P D vwCl [(h0, .inr (1, [.ref q7, .null, .int 0, .int 0])), (q7, in_ar cA 0 8)] H := hP
  have hD : va_D A [(h0, .inr (1, [.ref q7, .null, .int 0, .int 0])), (q7, in_ar cA 0 8)] := hD
  refine lv_aload_n hx hb d_St_init_12 rfl (lv_at hl 0 rfl) ?_
  refine lv_iconst (v := 3) hx hb d_St_init_13 (by decide) ?_
  refine in_newa (atype := .int) (ty := .int) (t := 0) (a0 := (3, .inl (fun _ => (0 : Int32)))) (N' := 3) hx hb (hm wi_72) rfl hK rfl id hP hD hS hA (fun _ => rfl) (by decide) rfl (by decide) (Nat.le_of_ble_eq_true rfl) (Nat.le_of_ble_eq_true rfl) d_St_init_14 (fun q14 H hP hD hS => ?_)
  refine W.widen (k := 2) (n := 11) (Nat.le_refl _) (Nat.le_refl _) ?_
  have hP : va_P D vwCl [(h0, .inr (1, [.ref q7, .null, .int 0, .int 0])), (q7, in_ar cA 0 8), (q14, in_ar cA 0 3)] H := hP
  have hD : va_D A [(h0, .inr (1, [.ref q7, .null, .int 0, .int 0])), (q7, in_ar cA 0 8), (q14, in_ar cA 0 3)] := hD
  refine va_putF (D := D) (ci := 1) (v := .ref q14) (ty := .array .int) (C := R_St) (T := T_St) (N := 4) hx hb hts (fun w h => List.mem_cons_of_mem _ (in_St w h)) ty_St tk_St nm_St hown hK hP hD hS 0 rfl rfl 1 (by decide) (hm wi_57) (fun _ h9 => h9) rfl hin rfl (by decide +kernel) rfl rfl (Nat.le_of_ble_eq_true rfl) d_St_init_16 (fun H locs hP hD hS => ?_)
  have hP : va_P D vwCl [(h0, .inr (1, [.ref q7, .ref q14, .int 0, .int 0])), (q7, in_ar cA 0 8), (q14, in_ar cA 0 3)] H := hP
  have hD : va_D A [(h0, .inr (1, [.ref q7, .ref q14, .int 0, .int 0])), (q7, in_ar cA 0 8), (q14, in_ar cA 0 3)] := hD
  have hP9 := hP.sub (ws' := [(h0, .inr (1, [.ref q7, .ref q14, .int 0, .int 0])), (q7, in_ar cA 0 8), (q14, in_ar cA 0 3)]) [0, 1, 2] rfl
  have hD9 := hD.sub (ws' := [(h0, .inr (1, [.ref q7, .ref q14, .int 0, .int 0])), (q7, in_ar cA 0 8), (q14, in_ar cA 0 3)]) [0, 1, 2] (by decide) rfl
  refine W.vret hx hb hr (fun t ht hW => ⟨⟨(fun i => match i with | 0 => q7 | 1 => q14 | _ => h0), rfl, trivial, by rw [ht]; exact hP9, hD9⟩, hS.F ht⟩) hS.2.2 d_St_init_19
theorem df_Ex : ∀ j, j < 5 → defaultValue (ty_Ex j) = vp_V [.null, .null, .null, .null, .int 0] j := by decide +kernel
theorem pd_Ex_init : y_Ex_init.cls ≠ "java/lang/invoke/MethodHandle" ∧ y_Ex_init.cls ≠ "java/lang/invoke/VarHandle" ∧ (parseMethodDescriptor y_Ex_init.desc).map (fun d => d.parameters.length) = some 0 := by decide +kernel
theorem wc_Ex_init : Cond.code y_Ex_init c_Ex_init 1 none ∈ TB := tb_1 77 (by decide +kernel) (by decide +kernel)
def ws_Ex_init : List Cond := .code y_Ex_init c_Ex_init 1 none :: TB
abbrev rm_Ex_init : Room := { frames := 1, cells := 4, slots := 96, locals := 12 }
set_option maxHeartbeats 4000000 in
set_option maxRecDepth 100000 in
theorem ci_Ex_init (l : Launch) (D : va_G) (cA : Nat → ClassId) (h0 sz : Nat) : Met l y_Ex_init ws_Ex_init rm_Ex_init (va_Pc [.ref h0] (fun U => U.heap.size = sz ∧ va_P D vwCl [(h0, .inr (2, [.null, .null, .null, .null, .int 0]))] U.heap ∧ va_K D vwCl (fx_ty cA) U ∧ va_D (fun _ => True) [(h0, .inr (2, [.null, .null, .null, .null, .int 0]))])) (va_Qv (fun _ : Nat → Nat => True) (fun u t => va_P D vwCl [(h0, .inr (2, [.ref (u 0), .ref (u 1), .ref (u 2), .ref (u 3), .int 0])), (u 0, in_ar cA 0 24), (u 1, in_ar cA 0 24), (u 2, in_ar cA 0 24), (u 3, in_ar cA 0 24)] t.heap ∧ va_D (va_A [(h0, .inr (2, [.null, .null, .null, .null, .int 0]))] sz) [(h0, .inr (2, [.ref (u 0), .ref (u 1), .ref (u 2), .ref (u 3), .int 0])), (u 0, in_ar cA 0 24), (u 1, in_ar cA 0 24), (u 2, in_ar cA 0 24), (u 3, in_ar cA 0 24)]) (va_A [(h0, .inr (2, [.null, .null, .null, .null, .int 0]))] sz)) 4 96 (va_A [(h0, .inr (2, [.null, .null, .null, .null, .int 0]))] sz) := by
  refine Met.ofW (cc := c_Ex_init) (maxL := 1) (ret := none) (by decide) rfl ?_
  intro p e s m args below meth c s₁ B hml hv
  obtain ⟨rfl, hsz, hP, hK, hD0⟩ := hv
  have hx := B.exec
  have hb := B.bytes
  have hr := B.returns
  have hts := atoms_spec (ws := ws_Ex_init) B.pre
  have hm : ∀ {w : Cond}, w ∈ TB → w.before #[Value.ref h0] s = true := fun h => hts _ (List.mem_cons_of_mem _ h)
  have hown : s.vm.findClass R_Ex = some m.cls := findClass_of_methodNamed B.named
  have hlocks := B.notSynchronized
  have hin : meth.name = "<init>" := (name_of_methodNamed B.named B.method).1
  subst hsz
  have hD := hD0.self (sz := s.heap.size)
  generalize hAe : va_A [(h0, .inr (2, [.null, .null, .null, .null, .int 0]))] s.heap.size = A at hD ⊢
  have hA : ∀ q : Nat, s.heap.size ≤ q → A q := fun q h => by rw [← hAe]; exact Or.inr h
  have hS : va_S A s.heap s.heap [] := va_S.rf
  have hP : va_P D vwCl [(h0, .inr (2, [.null, .null, .null, .null, .int 0]))] s.heap := hP
  have hl := lv_entry ([.ref h0]) (n := 1) (Nat.le_of_ble_eq_true rfl)
  rw [lg_entry_eq]
  generalize (lg_sl ([.ref h0]) ++ List.replicate (1 - (lg_sl ([.ref h0])).length) Slot.unset).toArray = ls at hl ⊢
  have hl : lv_has ls 1 [(0, .ref h0)] := hl
  refine lv_aload_n hx hb d_Ex_init_0 rfl (lv_at hl 0 rfl) ?_
  refine W.objInit hx hb hown (hm wi_78) (hm wi_47) (hm wi_48) rfl (by rw [hml]; exact hl.1) rfl d_Ex_init_1 (Nat.le_of_ble_eq_true rfl) (Nat.le_of_ble_eq_true rfl) ?_
  refine W.eq (g2 := F0 m 4 ls []) rfl ?_
  refine lv_aload_n hx hb d_Ex_init_4 rfl (lv_at hl 0 rfl) ?_
  refine lv_bipush (v := 24) hx hb d_Ex_init_5 (by decide) ?_
  refine in_newa (atype := .int) (ty := .int) (t := 0) (a0 := (24, .inl (fun _ => (0 : Int32)))) (N' := 24) hx hb (hm wi_72) rfl hK rfl id hP hD hS hA (fun _ => rfl) (by decide) rfl (by decide) (Nat.le_of_ble_eq_true rfl) (Nat.le_of_ble_eq_true rfl) d_Ex_init_7 (fun q7 H hP hD hS => ?_)
  refine W.widen (k := 1) (n := 24) (Nat.le_refl _) (Nat.le_refl _) ?_
  have hP : va_P D vwCl [(h0, .inr (2, [.null, .null, .null, .null, .int 0])), (q7, in_ar cA 0 24)] H := hP
  have hD : va_D A [(h0, .inr (2, [.null, .null, .null, .null, .int 0])), (q7, in_ar cA 0 24)] := hD
  refine va_putF (D := D) (ci := 2) (v := .ref q7) (ty := .array .int) (C := R_Ex) (T := T_Ex) (N := 5) hx hb hts (fun w h => List.mem_cons_of_mem _ (in_Ex w h)) ty_Ex tk_Ex nm_Ex hown hK hP hD hS 0 rfl rfl 0 (by decide) (hm wi_79) (fun _ h9 => h9) rfl hin rfl (by decide +kernel) rfl rfl (Nat.le_of_ble_eq_true rfl) d_Ex_init_9 (fun H locs hP hD hS => ?_)
  have hP : va_P D vwCl [(h0, .inr (2, [.ref q7, .null, .null, .null, .int 0])), (q7, in_ar cA 0 24)] H := hP
  have hD : va_D A [(h0, .inr (2, [.ref q7, .null, .null, .null, .int 0])), (q7, in_ar cA 0 24)] := hD
  refine lv_aload_n hx hb d_Ex_init_12 rfl (lv_at hl 0 rfl) ?_
  refine lv_bipush (v := 24) hx hb d_Ex_init_13 (by decide) ?_
  refine in_newa (atype := .int) (ty := .int) (t := 0) (a0 := (24, .inl (fun _ => (0 : Int32)))) (N' := 24) hx hb (hm wi_72) rfl hK rfl id hP hD hS hA (fun _ => rfl) (by decide) rfl (by decide) (Nat.le_of_ble_eq_true rfl) (Nat.le_of_ble_eq_true rfl) d_Ex_init_15 (fun q15 H hP hD hS => ?_)
  refine W.widen (k := 2) (n := 48) (Nat.le_refl _) (Nat.le_refl _) ?_
  have hP : va_P D vwCl [(h0, .inr (2, [.ref q7, .null, .null, .null, .int 0])), (q7, in_ar cA 0 24), (q15, in_ar cA 0 24)] H := hP
  have hD : va_D A [(h0, .inr (2, [.ref q7, .null, .null, .null, .int 0])), (q7, in_ar cA 0 24), (q15, in_ar cA 0 24)] := hD
  refine va_putF (D := D) (ci := 2) (v := .ref q15) (ty := .array .int) (C := R_Ex) (T := T_Ex) (N := 5) hx hb hts (fun w h => List.mem_cons_of_mem _ (in_Ex w h)) ty_Ex tk_Ex nm_Ex hown hK hP hD hS 0 rfl rfl 1 (by decide) (hm wi_80) (fun _ h9 => h9) rfl hin rfl (by decide +kernel) rfl rfl (Nat.le_of_ble_eq_true rfl) d_Ex_init_17 (fun H locs hP hD hS => ?_)
  have hP : va_P D vwCl [(h0, .inr (2, [.ref q7, .ref q15, .null, .null, .int 0])), (q7, in_ar cA 0 24), (q15, in_ar cA 0 24)] H := hP
  have hD : va_D A [(h0, .inr (2, [.ref q7, .ref q15, .null, .null, .int 0])), (q7, in_ar cA 0 24), (q15, in_ar cA 0 24)] := hD
  refine lv_aload_n hx hb d_Ex_init_20 rfl (lv_at hl 0 rfl) ?_
  refine lv_bipush (v := 24) hx hb d_Ex_init_21 (by decide) ?_
  refine in_newa (atype := .int) (ty := .int) (t := 0) (a0 := (24, .inl (fun _ => (0 : Int32)))) (N' := 24) hx hb (hm wi_72) rfl hK rfl id hP hD hS hA (fun _ => rfl) (by decide) rfl (by decide) (Nat.le_of_ble_eq_true rfl) (Nat.le_of_ble_eq_true rfl) d_Ex_init_23 (fun q23 H hP hD hS => ?_)
  refine W.widen (k := 3) (n := 72) (Nat.le_refl _) (Nat.le_refl _) ?_
  have hP : va_P D vwCl [(h0, .inr (2, [.ref q7, .ref q15, .null, .null, .int 0])), (q7, in_ar cA 0 24), (q15, in_ar cA 0 24), (q23, in_ar cA 0 24)] H := hP
  have hD : va_D A [(h0, .inr (2, [.ref q7, .ref q15, .null, .null, .int 0])), (q7, in_ar cA 0 24), (q15, in_ar cA 0 24), (q23, in_ar cA 0 24)] := hD
  refine va_putF (D := D) (ci := 2) (v := .ref q23) (ty := .array .int) (C := R_Ex) (T := T_Ex) (N := 5) hx hb hts (fun w h => List.mem_cons_of_mem _ (in_Ex w h)) ty_Ex tk_Ex nm_Ex hown hK hP hD hS 0 rfl rfl 2 (by decide) (hm wi_81) (fun _ h9 => h9) rfl hin rfl (by decide +kernel) rfl rfl (Nat.le_of_ble_eq_true rfl) d_Ex_init_25 (fun H locs hP hD hS => ?_)
  have hP : va_P D vwCl [(h0, .inr (2, [.ref q7, .ref q15, .ref q23, .null, .int 0])), (q7, in_ar cA 0 24), (q15, in_ar cA 0 24), (q23, in_ar cA 0 24)] H := hP
  have hD : va_D A [(h0, .inr (2, [.ref q7, .ref q15, .ref q23, .null, .int 0])), (q7, in_ar cA 0 24), (q15, in_ar cA 0 24), (q23, in_ar cA 0 24)] := hD
  refine lv_aload_n hx hb d_Ex_init_28 rfl (lv_at hl 0 rfl) ?_
  refine lv_bipush (v := 24) hx hb d_Ex_init_29 (by decide) ?_
  refine in_newa (atype := .int) (ty := .int) (t := 0) (a0 := (24, .inl (fun _ => (0 : Int32)))) (N' := 24) hx hb (hm wi_72) rfl hK rfl id hP hD hS hA (fun _ => rfl) (by decide) rfl (by decide) (Nat.le_of_ble_eq_true rfl) (Nat.le_of_ble_eq_true rfl) d_Ex_init_31 (fun q31 H hP hD hS => ?_)
  refine W.widen (k := 4) (n := 96) (Nat.le_refl _) (Nat.le_refl _) ?_
  have hP : va_P D vwCl [(h0, .inr (2, [.ref q7, .ref q15, .ref q23, .null, .int 0])), (q7, in_ar cA 0 24), (q15, in_ar cA 0 24), (q23, in_ar cA 0 24), (q31, in_ar cA 0 24)] H := hP
  have hD : va_D A [(h0, .inr (2, [.ref q7, .ref q15, .ref q23, .null, .int 0])), (q7, in_ar cA 0 24), (q15, in_ar cA 0 24), (q23, in_ar cA 0 24), (q31, in_ar cA 0 24)] := hD
  refine va_putF (D := D) (ci := 2) (v := .ref q31) (ty := .array .int) (C := R_Ex) (T := T_Ex) (N := 5) hx hb hts (fun w h => List.mem_cons_of_mem _ (in_Ex w h)) ty_Ex tk_Ex nm_Ex hown hK hP hD hS 0 rfl rfl 3 (by decide) (hm wi_82) (fun _ h9 => h9) rfl hin rfl (by decide +kernel) rfl rfl (Nat.le_of_ble_eq_true rfl) d_Ex_init_33 (fun H locs hP hD hS => ?_)
  have hP : va_P D vwCl [(h0, .inr (2, [.ref q7, .ref q15, .ref q23, .ref q31, .int 0])), (q7, in_ar cA 0 24), (q15, in_ar cA 0 24), (q23, in_ar cA 0 24), (q31, in_ar cA 0 24)] H := hP
  have hD : va_D A [(h0, .inr (2, [.ref q7, .ref q15, .ref q23, .ref q31, .int 0])), (q7, in_ar cA 0 24), (q15, in_ar cA 0 24), (q23, in_ar cA 0 24), (q31, in_ar cA 0 24)] := hD
  have hP9 := hP.sub (ws' := [(h0, .inr (2, [.ref q7, .ref q15, .ref q23, .ref q31, .int 0])), (q7, in_ar cA 0 24), (q15, in_ar cA 0 24), (q23, in_ar cA 0 24), (q31, in_ar cA 0 24)]) [0, 1, 2, 3, 4] rfl
  have hD9 := hD.sub (ws' := [(h0, .inr (2, [.ref q7, .ref q15, .ref q23, .ref q31, .int 0])), (q7, in_ar cA 0 24), (q15, in_ar cA 0 24), (q23, in_ar cA 0 24), (q31, in_ar cA 0 24)]) [0, 1, 2, 3, 4] (by decide) rfl
  refine W.vret hx hb hr (fun t ht hW => ⟨⟨(fun i => match i with | 0 => q7 | 1 => q15 | 2 => q23 | 3 => q31 | _ => h0), rfl, trivial, by rw [ht]; exact hP9, hD9⟩, hS.F ht⟩) hS.2.2 d_Ex_init_36
theorem df_Tr : ∀ j, j < 5 → defaultValue (ty_Tr j) = vp_V [.null, .null, .null, .null, .int 0] j := by decide +kernel
theorem pd_Tr_init : y_Tr_init.cls ≠ "java/lang/invoke/MethodHandle" ∧ y_Tr_init.cls ≠ "java/lang/invoke/VarHandle" ∧ (parseMethodDescriptor y_Tr_init.desc).map (fun d => d.parameters.length) = some 0 := by decide +kernel
theorem wc_Tr_init : Cond.code y_Tr_init c_Tr_init 1 none ∈ TB := tb_1 100 (by decide +kernel) (by decide +kernel)
def ws_Tr_init : List Cond := .code y_Tr_init c_Tr_init 1 none :: TB
abbrev rm_Tr_init : Room := { frames := 1, cells := 4, slots := 39, locals := 12 }
set_option maxHeartbeats 4000000 in
set_option maxRecDepth 100000 in
theorem ci_Tr_init (l : Launch) (D : va_G) (cA : Nat → ClassId) (h0 sz : Nat) : Met l y_Tr_init ws_Tr_init rm_Tr_init (va_Pc [.ref h0] (fun U => U.heap.size = sz ∧ va_P D vwCl [(h0, .inr (3, [.null, .null, .null, .null, .int 0]))] U.heap ∧ va_K D vwCl (fx_ty cA) U ∧ va_D (fun _ => True) [(h0, .inr (3, [.null, .null, .null, .null, .int 0]))])) (va_Qv (fun _ : Nat → Nat => True) (fun u t => va_P D vwCl [(h0, .inr (3, [.ref (u 0), .ref (u 1), .ref (u 2), .ref (u 3), .int 0])), (u 0, in_ar cA 0 12), (u 1, in_ar cA 0 12), (u 2, in_ar cA 0 12), (u 3, in_ar cA 0 3)] t.heap ∧ va_D (va_A [(h0, .inr (3, [.null, .null, .null, .null, .int 0]))] sz) [(h0, .inr (3, [.ref (u 0), .ref (u 1), .ref (u 2), .ref (u 3), .int 0])), (u 0, in_ar cA 0 12), (u 1, in_ar cA 0 12), (u 2, in_ar cA 0 12), (u 3, in_ar cA 0 3)]) (va_A [(h0, .inr (3, [.null, .null, .null, .null, .int 0]))] sz)) 4 39 (va_A [(h0, .inr (3, [.null, .null, .null, .null, .int 0]))] sz) := by
  refine Met.ofW (cc := c_Tr_init) (maxL := 1) (ret := none) (by decide) rfl ?_
  intro p e s m args below meth c s₁ B hml hv
  obtain ⟨rfl, hsz, hP, hK, hD0⟩ := hv
  have hx := B.exec
  have hb := B.bytes
  have hr := B.returns
  have hts := atoms_spec (ws := ws_Tr_init) B.pre
  have hm : ∀ {w : Cond}, w ∈ TB → w.before #[Value.ref h0] s = true := fun h => hts _ (List.mem_cons_of_mem _ h)
  have hown : s.vm.findClass R_Tr = some m.cls := findClass_of_methodNamed B.named
  have hlocks := B.notSynchronized
  have hin : meth.name = "<init>" := (name_of_methodNamed B.named B.method).1
  subst hsz
  have hD := hD0.self (sz := s.heap.size)
  generalize hAe : va_A [(h0, .inr (3, [.null, .null, .null, .null, .int 0]))] s.heap.size = A at hD ⊢
  have hA : ∀ q : Nat, s.heap.size ≤ q → A q := fun q h => by rw [← hAe]; exact Or.inr h
  have hS : va_S A s.heap s.heap [] := va_S.rf
  have hP : va_P D vwCl [(h0, .inr (3, [.null, .null, .null, .null, .int 0]))] s.heap := hP
  have hl := lv_entry ([.ref h0]) (n := 1) (Nat.le_of_ble_eq_true rfl)
  rw [lg_entry_eq]
  generalize (lg_sl ([.ref h0]) ++ List.replicate (1 - (lg_sl ([.ref h0])).length) Slot.unset).toArray = ls at hl ⊢
  have hl : lv_has ls 1 [(0, .ref h0)] := hl
  refine lv_aload_n hx hb d_Tr_init_0 rfl (lv_at hl 0 rfl) ?_
  refine W.objInit hx hb hown (hm wi_101) (hm wi_47) (hm wi_48) rfl (by rw [hml]; exact hl.1) rfl d_Tr_init_1 (Nat.le_of_ble_eq_true rfl) (Nat.le_of_ble_eq_true rfl) ?_
  refine W.eq (g2 := F0 m 4 ls []) rfl ?_
  refine lv_aload_n hx hb d_Tr_init_4 rfl (lv_at hl 0 rfl) ?_
  refine lv_bipush (v := 12) hx hb d_Tr_init_5 (by decide) ?_
  refine in_newa (atype := .int) (ty := .int) (t := 0) (a0 := (12, .inl (fun _ => (0 : Int32)))) (N' := 12) hx hb (hm wi_72) rfl hK rfl id hP hD hS hA (fun _ => rfl) (by decide) rfl (by decide) (Nat.le_of_ble_eq_true rfl) (Nat.le_of_ble_eq_true rfl) d_Tr_init_7 (fun q7 H hP hD hS => ?_)
  refine W.widen (k := 1) (n := 12) (Nat.le_refl _) (Nat.le_refl _) ?_
  have hP : va_P D vwCl [(h0, .inr (3, [.null, .null, .null, .null, .int 0])), (q7, in_ar cA 0 12)] H := hP
  have hD : va_D A [(h0, .inr (3, [.null, .null, .null, .null, .int 0])), (q7, in_ar cA 0 12)] := hD
  refine va_putF (D := D) (ci := 3) (v := .ref q7) (ty := .array .int) (C := R_Tr) (T := T_Tr) (N := 5) hx hb hts (fun w h => List.mem_cons_of_mem _ (in_Tr w h)) ty_Tr tk_Tr nm_Tr hown hK hP hD hS 0 rfl rfl 0 (by decide) (hm wi_102) (fun _ h9 => h9) rfl hin rfl (by decide +kernel) rfl rfl (Nat.le_of_ble_eq_true rfl) d_Tr_init_9 (fun H locs hP hD hS => ?_)
  have hP : va_P D vwCl [(h0, .inr (3, [.ref q7, .null, .null, .null, .int 0])), (q7, in_ar cA 0 12)] H := hP
  have hD : va_D A [(h0, .inr (3, [.ref q7, .null, .null, .null, .int 0])), (q7, in_ar cA 0 12)] := hD
  refine lv_aload_n hx hb d_Tr_init_12 rfl (lv_at hl 0 rfl) ?_
  refine lv_bipush (v := 12) hx hb d_Tr_init_13 (by decide) ?_
  refine in_newa (atype := .int) (ty := .int) (t := 0) (a0 := (12, .inl (fun _ => (0 : Int32)))) (N' := 12) hx hb (hm wi_72) rfl hK rfl id hP hD hS hA (fun _ => rfl) (by decide) rfl (by decide) (Nat.le_of_ble_eq_true rfl) (Nat.le_of_ble_eq_true rfl) d_Tr_init_15 (fun q15 H hP hD hS => ?_)
  refine W.widen (k := 2) (n := 24) (Nat.le_refl _) (Nat.le_refl _) ?_
  have hP : va_P D vwCl [(h0, .inr (3, [.ref q7, .null, .null, .null, .int 0])), (q7, in_ar cA 0 12), (q15, in_ar cA 0 12)] H := hP
  have hD : va_D A [(h0, .inr (3, [.ref q7, .null, .null, .null, .int 0])), (q7, in_ar cA 0 12), (q15, in_ar cA 0 12)] := hD
  refine va_putF (D := D) (ci := 3) (v := .ref q15) (ty := .array .int) (C := R_Tr) (T := T_Tr) (N := 5) hx hb hts (fun w h => List.mem_cons_of_mem _ (in_Tr w h)) ty_Tr tk_Tr nm_Tr hown hK hP hD hS 0 rfl rfl 1 (by decide) (hm wi_103) (fun _ h9 => h9) rfl hin rfl (by decide +kernel) rfl rfl (Nat.le_of_ble_eq_true rfl) d_Tr_init_17 (fun H locs hP hD hS => ?_)
  have hP : va_P D vwCl [(h0, .inr (3, [.ref q7, .ref q15, .null, .null, .int 0])), (q7, in_ar cA 0 12), (q15, in_ar cA 0 12)] H := hP
  have hD : va_D A [(h0, .inr (3, [.ref q7, .ref q15, .null, .null, .int 0])), (q7, in_ar cA 0 12), (q15, in_ar cA 0 12)] := hD
  refine lv_aload_n hx hb d_Tr_init_20 rfl (lv_at hl 0 rfl) ?_
  refine lv_bipush (v := 12) hx hb d_Tr_init_21 (by decide) ?_
  refine in_newa (atype := .int) (ty := .int) (t := 0) (a0 := (12, .inl (fun _ => (0 : Int32)))) (N' := 12) hx hb (hm wi_72) rfl hK rfl id hP hD hS hA (fun _ => rfl) (by decide) rfl (by decide) (Nat.le_of_ble_eq_true rfl) (Nat.le_of_ble_eq_true rfl) d_Tr_init_23 (fun q23 H hP hD hS => ?_)
  refine W.widen (k := 3) (n := 36) (Nat.le_refl _) (Nat.le_refl _) ?_
  have hP : va_P D vwCl [(h0, .inr (3, [.ref q7, .ref q15, .null, .null, .int 0])), (q7, in_ar cA 0 12), (q15, in_ar cA 0 12), (q23, in_ar cA 0 12)] H := hP
  have hD : va_D A [(h0, .inr (3, [.ref q7, .ref q15, .null, .null, .int 0])), (q7, in_ar cA 0 12), (q15, in_ar cA 0 12), (q23, in_ar cA 0 12)] := hD
  refine va_putF (D := D) (ci := 3) (v := .ref q23) (ty := .array .int) (C := R_Tr) (T := T_Tr) (N := 5) hx hb hts (fun w h => List.mem_cons_of_mem _ (in_Tr w h)) ty_Tr tk_Tr nm_Tr hown hK hP hD hS 0 rfl rfl 2 (by decide) (hm wi_104) (fun _ h9 => h9) rfl hin rfl (by decide +kernel) rfl rfl (Nat.le_of_ble_eq_true rfl) d_Tr_init_25 (fun H locs hP hD hS => ?_)
  have hP : va_P D vwCl [(h0, .inr (3, [.ref q7, .ref q15, .ref q23, .null, .int 0])), (q7, in_ar cA 0 12), (q15, in_ar cA 0 12), (q23, in_ar cA 0 12)] H := hP
  have hD : va_D A [(h0, .inr (3, [.ref q7, .ref q15, .ref q23, .null, .int 0])), (q7, in_ar cA 0 12), (q15, in_ar cA 0 12), (q23, in_ar cA 0 12)] := hD
  refine lv_aload_n hx hb d_Tr_init_28 rfl (lv_at hl 0 rfl) ?_
  refine lv_iconst (v := 3) hx hb d_Tr_init_29 (by decide) ?_
  refine in_newa (atype := .int) (ty := .int) (t := 0) (a0 := (3, .inl (fun _ => (0 : Int32)))) (N' := 3) hx hb (hm wi_72) rfl hK rfl id hP hD hS hA (fun _ => rfl) (by decide) rfl (by decide) (Nat.le_of_ble_eq_true rfl) (Nat.le_of_ble_eq_true rfl) d_Tr_init_30 (fun q30 H hP hD hS => ?_)
  refine W.widen (k := 4) (n := 39) (Nat.le_refl _) (Nat.le_refl _) ?_
  have hP : va_P D vwCl [(h0, .inr (3, [.ref q7, .ref q15, .ref q23, .null, .int 0])), (q7, in_ar cA 0 12), (q15, in_ar cA 0 12), (q23, in_ar cA 0 12), (q30, in_ar cA 0 3)] H := hP
  have hD : va_D A [(h0, .inr (3, [.ref q7, .ref q15, .ref q23, .null, .int 0])), (q7, in_ar cA 0 12), (q15, in_ar cA 0 12), (q23, in_ar cA 0 12), (q30, in_ar cA 0 3)] := hD
  refine va_putF (D := D) (ci := 3) (v := .ref q30) (ty := .array .int) (C := R_Tr) (T := T_Tr) (N := 5) hx hb hts (fun w h => List.mem_cons_of_mem _ (in_Tr w h)) ty_Tr tk_Tr nm_Tr hown hK hP hD hS 0 rfl rfl 3 (by decide) (hm wi_105) (fun _ h9 => h9) rfl hin rfl (by decide +kernel) rfl rfl (Nat.le_of_ble_eq_true rfl) d_Tr_init_32 (fun H locs hP hD hS => ?_)
  have hP : va_P D vwCl [(h0, .inr (3, [.ref q7, .ref q15, .ref q23, .ref q30, .int 0])), (q7, in_ar cA 0 12), (q15, in_ar cA 0 12), (q23, in_ar cA 0 12), (q30, in_ar cA 0 3)] H := hP
  have hD : va_D A [(h0, .inr (3, [.ref q7, .ref q15, .ref q23, .ref q30, .int 0])), (q7, in_ar cA 0 12), (q15, in_ar cA 0 12), (q23, in_ar cA 0 12), (q30, in_ar cA 0 3)] := hD
  have hP9 := hP.sub (ws' := [(h0, .inr (3, [.ref q7, .ref q15, .ref q23, .ref q30, .int 0])), (q7, in_ar cA 0 12), (q15, in_ar cA 0 12), (q23, in_ar cA 0 12), (q30, in_ar cA 0 3)]) [0, 1, 2, 3, 4] rfl
  have hD9 := hD.sub (ws' := [(h0, .inr (3, [.ref q7, .ref q15, .ref q23, .ref q30, .int 0])), (q7, in_ar cA 0 12), (q15, in_ar cA 0 12), (q23, in_ar cA 0 12), (q30, in_ar cA 0 3)]) [0, 1, 2, 3, 4] (by decide) rfl
  refine W.vret hx hb hr (fun t ht hW => ⟨⟨(fun i => match i with | 0 => q7 | 1 => q15 | 2 => q23 | 3 => q30 | _ => h0), rfl, trivial, by rw [ht]; exact hP9, hD9⟩, hS.F ht⟩) hS.2.2 d_Tr_init_35
theorem df_Or : ∀ j, j < 4 → defaultValue (ty_Or j) = vp_V [.null, .null, .null, .int 0] j := by decide +kernel
theorem pd_Or_init : y_Or_init.cls ≠ "java/lang/invoke/MethodHandle" ∧ y_Or_init.cls ≠ "java/lang/invoke/VarHandle" ∧ (parseMethodDescriptor y_Or_init.desc).map (fun d => d.parameters.length) = some 0 := by decide +kernel
theorem wc_Or_init : Cond.code y_Or_init c_Or_init 1 none ∈ TB := tb_1 124 (by decide +kernel) (by decide +kernel)
def ws_Or_init : List Cond := .code y_Or_init c_Or_init 1 none :: TB
abbrev rm_Or_init : Room := { frames := 1, cells := 3, slots := 12, locals := 12 }
set_option maxHeartbeats 4000000 in
set_option maxRecDepth 100000 in
theorem ci_Or_init (l : Launch) (D : va_G) (cA : Nat → ClassId) (h0 sz : Nat) : Met l y_Or_init ws_Or_init rm_Or_init (va_Pc [.ref h0] (fun U => U.heap.size = sz ∧ va_P D vwCl [(h0, .inr (4, [.null, .null, .null, .int 0]))] U.heap ∧ va_K D vwCl (fx_ty cA) U ∧ va_D (fun _ => True) [(h0, .inr (4, [.null, .null, .null, .int 0]))])) (va_Qv (fun _ : Nat → Nat => True) (fun u t => va_P D vwCl [(h0, .inr (4, [.ref (u 0), .ref (u 1), .ref (u 2), .int 0])), (u 0, in_ar cA 0 4), (u 1, in_ar cA 0 4), (u 2, in_ar cA 0 4)] t.heap ∧ va_D (va_A [(h0, .inr (4, [.null, .null, .null, .int 0]))] sz) [(h0, .inr (4, [.ref (u 0), .ref (u 1), .ref (u 2), .int 0])), (u 0, in_ar cA 0 4), (u 1, in_ar cA 0 4), (u 2, in_ar cA 0 4)]) (va_A [(h0, .inr (4, [.null, .null, .null, .int 0]))] sz)) 3 12 (va_A [(h0, .inr (4, [.null, .null, .null, .int 0]))] sz) := by
  refine Met.ofW (cc := c_Or_init) (maxL := 1) (ret := none) (by decide) rfl ?_
  intro p e s m args below meth c s₁ B hml hv
  obtain ⟨rfl, hsz, hP, hK, hD0⟩ := hv
  have hx := B.exec
  have hb := B.bytes
  have hr := B.returns
  have hts := atoms_spec (ws := ws_Or_init) B.pre
  have hm : ∀ {w : Cond}, w ∈ TB → w.before #[Value.ref h0] s = true := fun h => hts _ (List.mem_cons_of_mem _ h)
  have hown : s.vm.findClass R_Or = some m.cls := findClass_of_methodNamed B.named
  have hlocks := B.notSynchronized
  have hin : meth.name = "<init>" := (name_of_methodNamed B.named B.method).1
  subst hsz
  have hD := hD0.self (sz := s.heap.size)
  generalize hAe : va_A [(h0, .inr (4, [.null, .null, .null, .int 0]))] s.heap.size = A at hD ⊢
  have hA : ∀ q : Nat, s.heap.size ≤ q → A q := fun q h => by rw [← hAe]; exact Or.inr h
  have hS : va_S A s.heap s.heap [] := va_S.rf
  have hP : va_P D vwCl [(h0, .inr (4, [.null, .null, .null, .int 0]))] s.heap := hP
  have hl := lv_entry ([.ref h0]) (n := 1) (Nat.le_of_ble_eq_true rfl)
  rw [lg_entry_eq]
  generalize (lg_sl ([.ref h0]) ++ List.replicate (1 - (lg_sl ([.ref h0])).length) Slot.unset).toArray = ls at hl ⊢
  have hl : lv_has ls 1 [(0, .ref h0)] := hl
  refine lv_aload_n hx hb d_Or_init_0 rfl (lv_at hl 0 rfl) ?_
  refine W.objInit hx hb hown (hm wi_125) (hm wi_47) (hm wi_48) rfl (by rw [hml]; exact hl.1) rfl d_Or_init_1 (Nat.le_of_ble_eq_true rfl) (Nat.le_of_ble_eq_true rfl) ?_
  refine W.eq (g2 := F0 m 4 ls []) rfl ?_
  refine lv_aload_n hx hb d_Or_init_4 rfl (lv_at hl 0 rfl) ?_
  refine lv_iconst (v := 4) hx hb d_Or_init_5 (by decide) ?_
  refine in_newa (atype := .int) (ty := .int) (t := 0) (a0 := (4, .inl (fun _ => (0 : Int32)))) (N' := 4) hx hb (hm wi_72) rfl hK rfl id hP hD hS hA (fun _ => rfl) (by decide) rfl (by decide) (Nat.le_of_ble_eq_true rfl) (Nat.le_of_ble_eq_true rfl) d_Or_init_6 (fun q6 H hP hD hS => ?_)
  refine W.widen (k := 1) (n := 4) (Nat.le_refl _) (Nat.le_refl _) ?_
  have hP : va_P D vwCl [(h0, .inr (4, [.null, .null, .null, .int 0])), (q6, in_ar cA 0 4)] H := hP
  have hD : va_D A [(h0, .inr (4, [.null, .null, .null, .int 0])), (q6, in_ar cA 0 4)] := hD
  refine va_putF (D := D) (ci := 4) (v := .ref q6) (ty := .array .int) (C := R_Or) (T := T_Or) (N := 4) hx hb hts (fun w h => List.mem_cons_of_mem _ (in_Or w h)) ty_Or tk_Or nm_Or hown hK hP hD hS 0 rfl rfl 0 (by decide) (hm wi_126) (fun _ h9 => h9) rfl hin rfl (by decide +kernel) rfl rfl (Nat.le_of_ble_eq_true rfl) d_Or_init_8 (fun H locs hP hD hS => ?_)
  have hP : va_P D vwCl [(h0, .inr (4, [.ref q6, .null, .null, .int 0])), (q6, in_ar cA 0 4)] H := hP
  have hD : va_D A [(h0, .inr (4, [.ref q6, .null, .null, .int 0])), (q6, in_ar cA 0 4)] := hD
  refine lv_aload_n hx hb d_Or_init_11 rfl (lv_at hl 0 rfl) ?_
  refine lv_iconst (v := 4) hx hb d_Or_init_12 (by decide) ?_
  refine in_newa (atype := .int) (ty := .int) (t := 0) (a0 := (4, .inl (fun _ => (0 : Int32)))) (N' := 4) hx hb (hm wi_72) rfl hK rfl id hP hD hS hA (fun _ => rfl) (by decide) rfl (by decide) (Nat.le_of_ble_eq_true rfl) (Nat.le_of_ble_eq_true rfl) d_Or_init_13 (fun q13 H hP hD hS => ?_)
  refine W.widen (k := 2) (n := 8) (Nat.le_refl _) (Nat.le_refl _) ?_
  have hP : va_P D vwCl [(h0, .inr (4, [.ref q6, .null, .null, .int 0])), (q6, in_ar cA 0 4), (q13, in_ar cA 0 4)] H := hP
  have hD : va_D A [(h0, .inr (4, [.ref q6, .null, .null, .int 0])), (q6, in_ar cA 0 4), (q13, in_ar cA 0 4)] := hD
  refine va_putF (D := D) (ci := 4) (v := .ref q13) (ty := .array .int) (C := R_Or) (T := T_Or) (N := 4) hx hb hts (fun w h => List.mem_cons_of_mem _ (in_Or w h)) ty_Or tk_Or nm_Or hown hK hP hD hS 0 rfl rfl 1 (by decide) (hm wi_127) (fun _ h9 => h9) rfl hin rfl (by decide +kernel) rfl rfl (Nat.le_of_ble_eq_true rfl) d_Or_init_15 (fun H locs hP hD hS => ?_)
  have hP : va_P D vwCl [(h0, .inr (4, [.ref q6, .ref q13, .null, .int 0])), (q6, in_ar cA 0 4), (q13, in_ar cA 0 4)] H := hP
  have hD : va_D A [(h0, .inr (4, [.ref q6, .ref q13, .null, .int 0])), (q6, in_ar cA 0 4), (q13, in_ar cA 0 4)] := hD
  refine lv_aload_n hx hb d_Or_init_18 rfl (lv_at hl 0 rfl) ?_
  refine lv_iconst (v := 4) hx hb d_Or_init_19 (by decide) ?_
  refine in_newa (atype := .int) (ty := .int) (t := 0) (a0 := (4, .inl (fun _ => (0 : Int32)))) (N' := 4) hx hb (hm wi_72) rfl hK rfl id hP hD hS hA (fun _ => rfl) (by decide) rfl (by decide) (Nat.le_of_ble_eq_true rfl) (Nat.le_of_ble_eq_true rfl) d_Or_init_20 (fun q20 H hP hD hS => ?_)
  refine W.widen (k := 3) (n := 12) (Nat.le_refl _) (Nat.le_refl _) ?_
  have hP : va_P D vwCl [(h0, .inr (4, [.ref q6, .ref q13, .null, .int 0])), (q6, in_ar cA 0 4), (q13, in_ar cA 0 4), (q20, in_ar cA 0 4)] H := hP
  have hD : va_D A [(h0, .inr (4, [.ref q6, .ref q13, .null, .int 0])), (q6, in_ar cA 0 4), (q13, in_ar cA 0 4), (q20, in_ar cA 0 4)] := hD
  refine va_putF (D := D) (ci := 4) (v := .ref q20) (ty := .array .int) (C := R_Or) (T := T_Or) (N := 4) hx hb hts (fun w h => List.mem_cons_of_mem _ (in_Or w h)) ty_Or tk_Or nm_Or hown hK hP hD hS 0 rfl rfl 2 (by decide) (hm wi_128) (fun _ h9 => h9) rfl hin rfl (by decide +kernel) rfl rfl (Nat.le_of_ble_eq_true rfl) d_Or_init_22 (fun H locs hP hD hS => ?_)
  have hP : va_P D vwCl [(h0, .inr (4, [.ref q6, .ref q13, .ref q20, .int 0])), (q6, in_ar cA 0 4), (q13, in_ar cA 0 4), (q20, in_ar cA 0 4)] H := hP
  have hD : va_D A [(h0, .inr (4, [.ref q6, .ref q13, .ref q20, .int 0])), (q6, in_ar cA 0 4), (q13, in_ar cA 0 4), (q20, in_ar cA 0 4)] := hD
  have hP9 := hP.sub (ws' := [(h0, .inr (4, [.ref q6, .ref q13, .ref q20, .int 0])), (q6, in_ar cA 0 4), (q13, in_ar cA 0 4), (q20, in_ar cA 0 4)]) [0, 1, 2, 3] rfl
  have hD9 := hD.sub (ws' := [(h0, .inr (4, [.ref q6, .ref q13, .ref q20, .int 0])), (q6, in_ar cA 0 4), (q13, in_ar cA 0 4), (q20, in_ar cA 0 4)]) [0, 1, 2, 3] (by decide) rfl
  refine W.vret hx hb hr (fun t ht hW => ⟨⟨(fun i => match i with | 0 => q6 | 1 => q13 | 2 => q20 | _ => h0), rfl, trivial, by rw [ht]; exact hP9, hD9⟩, hS.F ht⟩) hS.2.2 d_Or_init_25
theorem df_Ac : ∀ j, j < 7 → defaultValue (ty_Ac j) = vp_V [.null, .null, .null, .null, .null, .int 0, .int 0] j := by decide +kernel
theorem pd_Ac_init : y_Ac_init.cls ≠ "java/lang/invoke/MethodHandle" ∧ y_Ac_init.cls ≠ "java/lang/invoke/VarHandle" ∧ (parseMethodDescriptor y_Ac_init.desc).map (fun d => d.parameters.length) = some 0 := by decide +kernel
theorem wc_Ac_init : Cond.code y_Ac_init c_Ac_init 1 none ∈ TB := tb_1 144 (by decide +kernel) (by decide +kernel)
def ws_Ac_init : List Cond := .code y_Ac_init c_Ac_init 1 none :: TB
abbrev rm_Ac_init : Room := { frames := 1, cells := 5, slots := 60, locals := 12 }
set_option maxHeartbeats 4000000 in
set_option maxRecDepth 100000 in
theorem ci_Ac_init (l : Launch) (D : va_G) (cA : Nat → ClassId) (h0 sz : Nat) : Met l y_Ac_init ws_Ac_init rm_Ac_init (va_Pc [.ref h0] (fun U => U.heap.size = sz ∧ va_P D vwCl [(h0, .inr (5, [.null, .null, .null, .null, .null, .int 0, .int 0]))] U.heap ∧ va_K D vwCl (fx_ty cA) U ∧ va_D (fun _ => True) [(h0, .inr (5, [.null, .null, .null, .null, .null, .int 0, .int 0]))])) (va_Qv (fun _ : Nat → Nat => True) (fun u t => va_P D vwCl [(h0, .inr (5, [.ref (u 0), .ref (u 1), .ref (u 2), .ref (u 3), .ref (u 4), .int 0, .int 0])), (u 0, in_ar cA 0 12), (u 1, in_ar cA 0 12), (u 2, in_ar cA 0 12), (u 3, in_ar cA 0 12), (u 4, in_ar cA 0 12)] t.heap ∧ va_D (va_A [(h0, .inr (5, [.null, .null, .null, .null, .null, .int 0, .int 0]))] sz) [(h0, .inr (5, [.ref (u 0), .ref (u 1), .ref (u 2), .ref (u 3), .ref (u 4), .int 0, .int 0])), (u 0, in_ar cA 0 12), (u 1, in_ar cA 0 12), (u 2, in_ar cA 0 12), (u 3, in_ar cA 0 12), (u 4, in_ar cA 0 12)]) (va_A [(h0, .inr (5, [.null, .null, .null, .null, .null, .int 0, .int 0]))] sz)) 5 60 (va_A [(h0, .inr (5, [.null, .null, .null, .null, .null, .int 0, .int 0]))] sz) := by
  refine Met.ofW (cc := c_Ac_init) (maxL := 1) (ret := none) (by decide) rfl ?_
  intro p e s m args below meth c s₁ B hml hv
  obtain ⟨rfl, hsz, hP, hK, hD0⟩ := hv
  have hx := B.exec
  have hb := B.bytes
  have hr := B.returns
  have hts := atoms_spec (ws := ws_Ac_init) B.pre
  have hm : ∀ {w : Cond}, w ∈ TB → w.before #[Value.ref h0] s = true := fun h => hts _ (List.mem_cons_of_mem _ h)
  have hown : s.vm.findClass R_Ac = some m.cls := findClass_of_methodNamed B.named
  have hlocks := B.notSynchronized
  have hin : meth.name = "<init>" := (name_of_methodNamed B.named B.method).1
  subst hsz
  have hD := hD0.self (sz := s.heap.size)
  generalize hAe : va_A [(h0, .inr (5, [.null, .null, .null, .null, .null, .int 0, .int 0]))] s.heap.size = A at hD ⊢
  have hA : ∀ q : Nat, s.heap.size ≤ q → A q := fun q h => by rw [← hAe]; exact Or.inr h
  have hS : va_S A s.heap s.heap [] := va_S.rf
  have hP : va_P D vwCl [(h0, .inr (5, [.null, .null, .null, .null, .null, .int 0, .int 0]))] s.heap := hP
  have hl := lv_entry ([.ref h0]) (n := 1) (Nat.le_of_ble_eq_true rfl)
  rw [lg_entry_eq]
  generalize (lg_sl ([.ref h0]) ++ List.replicate (1 - (lg_sl ([.ref h0])).length) Slot.unset).toArray = ls at hl ⊢
  have hl : lv_has ls 1 [(0, .ref h0)] := hl
  refine lv_aload_n hx hb d_Ac_init_0 rfl (lv_at hl 0 rfl) ?_
  refine W.objInit hx hb hown (hm wi_145) (hm wi_47) (hm wi_48) rfl (by rw [hml]; exact hl.1) rfl d_Ac_init_1 (Nat.le_of_ble_eq_true rfl) (Nat.le_of_ble_eq_true rfl) ?_
  refine W.eq (g2 := F0 m 4 ls []) rfl ?_
  refine lv_aload_n hx hb d_Ac_init_4 rfl (lv_at hl 0 rfl) ?_
  refine lv_bipush (v := 12) hx hb d_Ac_init_5 (by decide) ?_
  refine in_newa (atype := .int) (ty := .int) (t := 0) (a0 := (12, .inl (fun _ => (0 : Int32)))) (N' := 12) hx hb (hm wi_72) rfl hK rfl id hP hD hS hA (fun _ => rfl) (by decide) rfl (by decide) (Nat.le_of_ble_eq_true rfl) (Nat.le_of_ble_eq_true rfl) d_Ac_init_7 (fun q7 H hP hD hS => ?_)
  refine W.widen (k := 1) (n := 12) (Nat.le_refl _) (Nat.le_refl _) ?_
  have hP : va_P D vwCl [(h0, .inr (5, [.null, .null, .null, .null, .null, .int 0, .int 0])), (q7, in_ar cA 0 12)] H := hP
  have hD : va_D A [(h0, .inr (5, [.null, .null, .null, .null, .null, .int 0, .int 0])), (q7, in_ar cA 0 12)] := hD
  refine va_putF (D := D) (ci := 5) (v := .ref q7) (ty := .array .int) (C := R_Ac) (T := T_Ac) (N := 7) hx hb hts (fun w h => List.mem_cons_of_mem _ (in_Ac w h)) ty_Ac tk_Ac nm_Ac hown hK hP hD hS 0 rfl rfl 0 (by decide) (hm wi_146) (fun _ h9 => h9) rfl hin rfl (by decide +kernel) rfl rfl (Nat.le_of_ble_eq_true rfl) d_Ac_init_9 (fun H locs hP hD hS => ?_)
  have hP : va_P D vwCl [(h0, .inr (5, [.ref q7, .null, .null, .null, .null, .int 0, .int 0])), (q7, in_ar cA 0 12)] H := hP
  have hD : va_D A [(h0, .inr (5, [.ref q7, .null, .null, .null, .null, .int 0, .int 0])), (q7, in_ar cA 0 12)] := hD
  refine lv_aload_n hx hb d_Ac_init_12 rfl (lv_at hl 0 rfl) ?_
  refine lv_bipush (v := 12) hx hb d_Ac_init_13 (by decide) ?_
  refine in_newa (atype := .int) (ty := .int) (t := 0) (a0 := (12, .inl (fun _ => (0 : Int32)))) (N' := 12) hx hb (hm wi_72) rfl hK rfl id hP hD hS hA (fun _ => rfl) (by decide) rfl (by decide) (Nat.le_of_ble_eq_true rfl) (Nat.le_of_ble_eq_true rfl) d_Ac_init_15 (fun q15 H hP hD hS => ?_)
  refine W.widen (k := 2) (n := 24) (Nat.le_refl _) (Nat.le_refl _) ?_
  have hP : va_P D vwCl [(h0, .inr (5, [.ref q7, .null, .null, .null, .null, .int 0, .int 0])), (q7, in_ar cA 0 12), (q15, in_ar cA 0 12)] H := hP
  have hD : va_D A [(h0, .inr (5, [.ref q7, .null, .null, .null, .null, .int 0, .int 0])), (q7, in_ar cA 0 12), (q15, in_ar cA 0 12)] := hD
  refine va_putF (D := D) (ci := 5) (v := .ref q15) (ty := .array .int) (C := R_Ac) (T := T_Ac) (N := 7) hx hb hts (fun w h => List.mem_cons_of_mem _ (in_Ac w h)) ty_Ac tk_Ac nm_Ac hown hK hP hD hS 0 rfl rfl 1 (by decide) (hm wi_147) (fun _ h9 => h9) rfl hin rfl (by decide +kernel) rfl rfl (Nat.le_of_ble_eq_true rfl) d_Ac_init_17 (fun H locs hP hD hS => ?_)
  have hP : va_P D vwCl [(h0, .inr (5, [.ref q7, .ref q15, .null, .null, .null, .int 0, .int 0])), (q7, in_ar cA 0 12), (q15, in_ar cA 0 12)] H := hP
  have hD : va_D A [(h0, .inr (5, [.ref q7, .ref q15, .null, .null, .null, .int 0, .int 0])), (q7, in_ar cA 0 12), (q15, in_ar cA 0 12)] := hD
  refine lv_aload_n hx hb d_Ac_init_20 rfl (lv_at hl 0 rfl) ?_
  refine lv_bipush (v := 12) hx hb d_Ac_init_21 (by decide) ?_
  refine in_newa (atype := .int) (ty := .int) (t := 0) (a0 := (12, .inl (fun _ => (0 : Int32)))) (N' := 12) hx hb (hm wi_72) rfl hK rfl id hP hD hS hA (fun _ => rfl) (by decide) rfl (by decide) (Nat.le_of_ble_eq_true rfl) (Nat.le_of_ble_eq_true rfl) d_Ac_init_23 (fun q23 H hP hD hS => ?_)
  refine W.widen (k := 3) (n := 36) (Nat.le_refl _) (Nat.le_refl _) ?_
  have hP : va_P D vwCl [(h0, .inr (5, [.ref q7, .ref q15, .null, .null, .null, .int 0, .int 0])), (q7, in_ar cA 0 12), (q15, in_ar cA 0 12), (q23, in_ar cA 0 12)] H := hP
  have hD : va_D A [(h0, .inr (5, [.ref q7, .ref q15, .null, .null, .null, .int 0, .int 0])), (q7, in_ar cA 0 12), (q15, in_ar cA 0 12), (q23, in_ar cA 0 12)] := hD
  refine va_putF (D := D) (ci := 5) (v := .ref q23) (ty := .array .int) (C := R_Ac) (T := T_Ac) (N := 7) hx hb hts (fun w h => List.mem_cons_of_mem _ (in_Ac w h)) ty_Ac tk_Ac nm_Ac hown hK hP hD hS 0 rfl rfl 2 (by decide) (hm wi_148) (fun _ h9 => h9) rfl hin rfl (by decide +kernel) rfl rfl (Nat.le_of_ble_eq_true rfl) d_Ac_init_25 (fun H locs hP hD hS => ?_)
  have hP : va_P D vwCl [(h0, .inr (5, [.ref q7, .ref q15, .ref q23, .null, .null, .int 0, .int 0])), (q7, in_ar cA 0 12), (q15, in_ar cA 0 12), (q23, in_ar cA 0 12)] H := hP
  have hD : va_D A [(h0, .inr (5, [.ref q7, .ref q15, .ref q23, .null, .null, .int 0, .int 0])), (q7, in_ar cA 0 12), (q15, in_ar cA 0 12), (q23, in_ar cA 0 12)] := hD
  refine lv_aload_n hx hb d_Ac_init_28 rfl (lv_at hl 0 rfl) ?_
  refine lv_bipush (v := 12) hx hb d_Ac_init_29 (by decide) ?_
  refine in_newa (atype := .int) (ty := .int) (t := 0) (a0 := (12, .inl (fun _ => (0 : Int32)))) (N' := 12) hx hb (hm wi_72) rfl hK rfl id hP hD hS hA (fun _ => rfl) (by decide) rfl (by decide) (Nat.le_of_ble_eq_true rfl) (Nat.le_of_ble_eq_true rfl) d_Ac_init_31 (fun q31 H hP hD hS => ?_)
  refine W.widen (k := 4) (n := 48) (Nat.le_refl _) (Nat.le_refl _) ?_
  have hP : va_P D vwCl [(h0, .inr (5, [.ref q7, .ref q15, .ref q23, .null, .null, .int 0, .int 0])), (q7, in_ar cA 0 12), (q15, in_ar cA 0 12), (q23, in_ar cA 0 12), (q31, in_ar cA 0 12)] H := hP
  have hD : va_D A [(h0, .inr (5, [.ref q7, .ref q15, .ref q23, .null, .null, .int 0, .int 0])), (q7, in_ar cA 0 12), (q15, in_ar cA 0 12), (q23, in_ar cA 0 12), (q31, in_ar cA 0 12)] := hD
  refine va_putF (D := D) (ci := 5) (v := .ref q31) (ty := .array .int) (C := R_Ac) (T := T_Ac) (N := 7) hx hb hts (fun w h => List.mem_cons_of_mem _ (in_Ac w h)) ty_Ac tk_Ac nm_Ac hown hK hP hD hS 0 rfl rfl 3 (by decide) (hm wi_149) (fun _ h9 => h9) rfl hin rfl (by decide +kernel) rfl rfl (Nat.le_of_ble_eq_true rfl) d_Ac_init_33 (fun H locs hP hD hS => ?_)
  have hP : va_P D vwCl [(h0, .inr (5, [.ref q7, .ref q15, .ref q23, .ref q31, .null, .int 0, .int 0])), (q7, in_ar cA 0 12), (q15, in_ar cA 0 12), (q23, in_ar cA 0 12), (q31, in_ar cA 0 12)] H := hP
  have hD : va_D A [(h0, .inr (5, [.ref q7, .ref q15, .ref q23, .ref q31, .null, .int 0, .int 0])), (q7, in_ar cA 0 12), (q15, in_ar cA 0 12), (q23, in_ar cA 0 12), (q31, in_ar cA 0 12)] := hD
  refine lv_aload_n hx hb d_Ac_init_36 rfl (lv_at hl 0 rfl) ?_
  refine lv_bipush (v := 12) hx hb d_Ac_init_37 (by decide) ?_
  refine in_newa (atype := .int) (ty := .int) (t := 0) (a0 := (12, .inl (fun _ => (0 : Int32)))) (N' := 12) hx hb (hm wi_72) rfl hK rfl id hP hD hS hA (fun _ => rfl) (by decide) rfl (by decide) (Nat.le_of_ble_eq_true rfl) (Nat.le_of_ble_eq_true rfl) d_Ac_init_39 (fun q39 H hP hD hS => ?_)
  refine W.widen (k := 5) (n := 60) (Nat.le_refl _) (Nat.le_refl _) ?_
  have hP : va_P D vwCl [(h0, .inr (5, [.ref q7, .ref q15, .ref q23, .ref q31, .null, .int 0, .int 0])), (q7, in_ar cA 0 12), (q15, in_ar cA 0 12), (q23, in_ar cA 0 12), (q31, in_ar cA 0 12), (q39, in_ar cA 0 12)] H := hP
  have hD : va_D A [(h0, .inr (5, [.ref q7, .ref q15, .ref q23, .ref q31, .null, .int 0, .int 0])), (q7, in_ar cA 0 12), (q15, in_ar cA 0 12), (q23, in_ar cA 0 12), (q31, in_ar cA 0 12), (q39, in_ar cA 0 12)] := hD
  refine va_putF (D := D) (ci := 5) (v := .ref q39) (ty := .array .int) (C := R_Ac) (T := T_Ac) (N := 7) hx hb hts (fun w h => List.mem_cons_of_mem _ (in_Ac w h)) ty_Ac tk_Ac nm_Ac hown hK hP hD hS 0 rfl rfl 4 (by decide) (hm wi_150) (fun _ h9 => h9) rfl hin rfl (by decide +kernel) rfl rfl (Nat.le_of_ble_eq_true rfl) d_Ac_init_41 (fun H locs hP hD hS => ?_)
  have hP : va_P D vwCl [(h0, .inr (5, [.ref q7, .ref q15, .ref q23, .ref q31, .ref q39, .int 0, .int 0])), (q7, in_ar cA 0 12), (q15, in_ar cA 0 12), (q23, in_ar cA 0 12), (q31, in_ar cA 0 12), (q39, in_ar cA 0 12)] H := hP
  have hD : va_D A [(h0, .inr (5, [.ref q7, .ref q15, .ref q23, .ref q31, .ref q39, .int 0, .int 0])), (q7, in_ar cA 0 12), (q15, in_ar cA 0 12), (q23, in_ar cA 0 12), (q31, in_ar cA 0 12), (q39, in_ar cA 0 12)] := hD
  have hP9 := hP.sub (ws' := [(h0, .inr (5, [.ref q7, .ref q15, .ref q23, .ref q31, .ref q39, .int 0, .int 0])), (q7, in_ar cA 0 12), (q15, in_ar cA 0 12), (q23, in_ar cA 0 12), (q31, in_ar cA 0 12), (q39, in_ar cA 0 12)]) [0, 1, 2, 3, 4, 5] rfl
  have hD9 := hD.sub (ws' := [(h0, .inr (5, [.ref q7, .ref q15, .ref q23, .ref q31, .ref q39, .int 0, .int 0])), (q7, in_ar cA 0 12), (q15, in_ar cA 0 12), (q23, in_ar cA 0 12), (q31, in_ar cA 0 12), (q39, in_ar cA 0 12)]) [0, 1, 2, 3, 4, 5] (by decide) rfl
  refine W.vret hx hb hr (fun t ht hW => ⟨⟨(fun i => match i with | 0 => q7 | 1 => q15 | 2 => q23 | 3 => q31 | 4 => q39 | _ => h0), rfl, trivial, by rw [ht]; exact hP9, hD9⟩, hS.F ht⟩) hS.2.2 d_Ac_init_44
theorem df_Ti : ∀ j, j < 11 → defaultValue (ty_Ti j) = vp_V [.null, .null, .int 0, .int 0, .int 0, .int 0, .int 0, .int 0, .int 0, .int 0, .int 0] j := by decide +kernel
theorem pd_Ti_init : y_Ti_init.cls ≠ "java/lang/invoke/MethodHandle" ∧ y_Ti_init.cls ≠ "java/lang/invoke/VarHandle" ∧ (parseMethodDescriptor y_Ti_init.desc).map (fun d => d.parameters.length) = some 0 := by decide +kernel
theorem wc_Ti_init : Cond.code y_Ti_init c_Ti_init 1 none ∈ TB := tb_1 173 (by decide +kernel) (by decide +kernel)
def ws_Ti_init : List Cond := .code y_Ti_init c_Ti_init 1 none :: TB
abbrev rm_Ti_init : Room := { frames := 1, cells := 2, slots := 521, locals := 12 }
set_option maxHeartbeats 4000000 in
set_option maxRecDepth 100000 in
theorem ci_Ti_init (l : Launch) (D : va_G) (cA : Nat → ClassId) (h0 sz : Nat) : Met l y_Ti_init ws_Ti_init rm_Ti_init (va_Pc [.ref h0] (fun U => U.heap.size = sz ∧ va_P D vwCl [(h0, .inr (6, [.null, .null, .int 0, .int 0, .int 0, .int 0, .int 0, .int 0, .int 0, .int 0, .int 0]))] U.heap ∧ va_K D vwCl (fx_ty cA) U ∧ va_D (fun _ => True) [(h0, .inr (6, [.null, .null, .int 0, .int 0, .int 0, .int 0, .int 0, .int 0, .int 0, .int 0, .int 0]))])) (va_Qv (fun _ : Nat → Nat => True) (fun u t => va_P D vwCl [(h0, .inr (6, [.ref (u 0), .ref (u 1), .int 0, .int 0, .int 0, .int 0, .int 0, .int 0, .int 0, .int 0, .int 0])), (u 0, in_ar cA 0 8), (u 1, in_ar cA 0 513)] t.heap ∧ va_D (va_A [(h0, .inr (6, [.null, .null, .int 0, .int 0, .int 0, .int 0, .int 0, .int 0, .int 0, .int 0, .int 0]))] sz) [(h0, .inr (6, [.ref (u 0), .ref (u 1), .int 0, .int 0, .int 0, .int 0, .int 0, .int 0, .int 0, .int 0, .int 0])), (u 0, in_ar cA 0 8), (u 1, in_ar cA 0 513)]) (va_A [(h0, .inr (6, [.null, .null, .int 0, .int 0, .int 0, .int 0, .int 0, .int 0, .int 0, .int 0, .int 0]))] sz)) 2 521 (va_A [(h0, .inr (6, [.null, .null, .int 0, .int 0, .int 0, .int 0, .int 0, .int 0, .int 0, .int 0, .int 0]))] sz) := by
  refine Met.ofW (cc := c_Ti_init) (maxL := 1) (ret := none) (by decide) rfl ?_
  intro p e s m args below meth c s₁ B hml hv
  obtain ⟨rfl, hsz, hP, hK, hD0⟩ := hv
  have hx := B.exec
  have hb := B.bytes
  have hr := B.returns
  have hts := atoms_spec (ws := ws_Ti_init) B.pre
  have hm : ∀ {w : Cond}, w ∈ TB → w.before #[Value.ref h0] s = true := fun h => hts _ (List.mem_cons_of_mem _ h)
  have hown : s.vm.findClass R_Ti = some m.cls := findClass_of_methodNamed B.named
  have hlocks := B.notSynchronized
  have hin : meth.name = "<init>" := (name_of_methodNamed B.named B.method).1
  subst hsz
  have hD := hD0.self (sz := s.heap.size)
  generalize hAe : va_A [(h0, .inr (6, [.null, .null, .int 0, .int 0, .int 0, .int 0, .int 0, .int 0, .int 0, .int 0, .int 0]))] s.heap.size = A at hD ⊢
  have hA : ∀ q : Nat, s.heap.size ≤ q → A q := fun q h => by rw [← hAe]; exact Or.inr h
  have hS : va_S A s.heap s.heap [] := va_S.rf
  have hP : va_P D vwCl [(h0, .inr (6, [.null, .null, .int 0, .int 0, .int 0, .int 0, .int 0, .int 0, .int 0, .int 0, .int 0]))] s.heap := hP
  have hl := lv_entry ([.ref h0]) (n := 1) (Nat.le_of_ble_eq_true rfl)
  rw [lg_entry_eq]
  generalize (lg_sl ([.ref h0]) ++ List.replicate (1 - (lg_sl ([.ref h0])).length) Slot.unset).toArray = ls at hl ⊢
  have hl : lv_has ls 1 [(0, .ref h0)] := hl
  refine lv_aload_n hx hb d_Ti_init_0 rfl (lv_at hl 0 rfl) ?_
  refine W.objInit hx hb hown (hm wi_174) (hm wi_47) (hm wi_48) rfl (by rw [hml]; exact hl.1) rfl d_Ti_init_1 (Nat.le_of_ble_eq_true rfl) (Nat.le_of_ble_eq_true rfl) ?_
  refine W.eq (g2 := F0 m 4 ls []) rfl ?_
  refine lv_aload_n hx hb d_Ti_init_4 rfl (lv_at hl 0 rfl) ?_
  refine lv_bipush (v := 8) hx hb d_Ti_init_5 (by decide) ?_
  refine in_newa (atype := .int) (ty := .int) (t := 0) (a0 := (8, .inl (fun _ => (0 : Int32)))) (N' := 8) hx hb (hm wi_72) rfl hK rfl id hP hD hS hA (fun _ => rfl) (by decide) rfl (by decide) (Nat.le_of_ble_eq_true rfl) (Nat.le_of_ble_eq_true rfl) d_Ti_init_7 (fun q7 H hP hD hS => ?_)
  refine W.widen (k := 1) (n := 8) (Nat.le_refl _) (Nat.le_refl _) ?_
  have hP : va_P D vwCl [(h0, .inr (6, [.null, .null, .int 0, .int 0, .int 0, .int 0, .int 0, .int 0, .int 0, .int 0, .int 0])), (q7, in_ar cA 0 8)] H := hP
  have hD : va_D A [(h0, .inr (6, [.null, .null, .int 0, .int 0, .int 0, .int 0, .int 0, .int 0, .int 0, .int 0, .int 0])), (q7, in_ar cA 0 8)] := hD
  refine va_putF (D := D) (ci := 6) (v := .ref q7) (ty := .array .int) (C := R_Ti) (T := T_Ti) (N := 11) hx hb hts (fun w h => List.mem_cons_of_mem _ (in_Ti w h)) ty_Ti tk_Ti nm_Ti hown hK hP hD hS 0 rfl rfl 0 (by decide) (hm wi_175) (fun _ h9 => h9) rfl hin rfl (by decide +kernel) rfl rfl (Nat.le_of_ble_eq_true rfl) d_Ti_init_9 (fun H locs hP hD hS => ?_)
  have hP : va_P D vwCl [(h0, .inr (6, [.ref q7, .null, .int 0, .int 0, .int 0, .int 0, .int 0, .int 0, .int 0, .int 0, .int 0])), (q7, in_ar cA 0 8)] H := hP
  have hD : va_D A [(h0, .inr (6, [.ref q7, .null, .int 0, .int 0, .int 0, .int 0, .int 0, .int 0, .int 0, .int 0, .int 0])), (q7, in_ar cA 0 8)] := hD
  refine lv_aload_n hx hb d_Ti_init_12 rfl (lv_at hl 0 rfl) ?_
  refine lv_sipush (v := 513) hx hb d_Ti_init_13 (by decide) ?_
  refine in_newa (atype := .int) (ty := .int) (t := 0) (a0 := (513, .inl (fun _ => (0 : Int32)))) (N' := 513) hx hb (hm wi_72) rfl hK rfl id hP hD hS hA (fun _ => rfl) (by decide) rfl (by decide) (Nat.le_of_ble_eq_true rfl) (Nat.le_of_ble_eq_true rfl) d_Ti_init_16 (fun q16 H hP hD hS => ?_)
  refine W.widen (k := 2) (n := 521) (Nat.le_refl _) (Nat.le_refl _) ?_
  have hP : va_P D vwCl [(h0, .inr (6, [.ref q7, .null, .int 0, .int 0, .int 0, .int 0, .int 0, .int 0, .int 0, .int 0, .int 0])), (q7, in_ar cA 0 8), (q16, in_ar cA 0 513)] H := hP
  have hD : va_D A [(h0, .inr (6, [.ref q7, .null, .int 0, .int 0, .int 0, .int 0, .int 0, .int 0, .int 0, .int 0, .int 0])), (q7, in_ar cA 0 8), (q16, in_ar cA 0 513)] := hD
  refine va_putF (D := D) (ci := 6) (v := .ref q16) (ty := .array .int) (C := R_Ti) (T := T_Ti) (N := 11) hx hb hts (fun w h => List.mem_cons_of_mem _ (in_Ti w h)) ty_Ti tk_Ti nm_Ti hown hK hP hD hS 0 rfl rfl 1 (by decide) (hm wi_176) (fun _ h9 => h9) rfl hin rfl (by decide +kernel) rfl rfl (Nat.le_of_ble_eq_true rfl) d_Ti_init_18 (fun H locs hP hD hS => ?_)
  have hP : va_P D vwCl [(h0, .inr (6, [.ref q7, .ref q16, .int 0, .int 0, .int 0, .int 0, .int 0, .int 0, .int 0, .int 0, .int 0])), (q7, in_ar cA 0 8), (q16, in_ar cA 0 513)] H := hP
  have hD : va_D A [(h0, .inr (6, [.ref q7, .ref q16, .int 0, .int 0, .int 0, .int 0, .int 0, .int 0, .int 0, .int 0, .int 0])), (q7, in_ar cA 0 8), (q16, in_ar cA 0 513)] := hD
  have hP9 := hP.sub (ws' := [(h0, .inr (6, [.ref q7, .ref q16, .int 0, .int 0, .int 0, .int 0, .int 0, .int 0, .int 0, .int 0, .int 0])), (q7, in_ar cA 0 8), (q16, in_ar cA 0 513)]) [0, 1, 2] rfl
  have hD9 := hD.sub (ws' := [(h0, .inr (6, [.ref q7, .ref q16, .int 0, .int 0, .int 0, .int 0, .int 0, .int 0, .int 0, .int 0, .int 0])), (q7, in_ar cA 0 8), (q16, in_ar cA 0 513)]) [0, 1, 2] (by decide) rfl
  refine W.vret hx hb hr (fun t ht hW => ⟨⟨(fun i => match i with | 0 => q7 | 1 => q16 | _ => h0), rfl, trivial, by rw [ht]; exact hP9, hD9⟩, hS.F ht⟩) hS.2.2 d_Ti_init_21
