/-! names, fields, words: by program (wip/gen/mkrows.py) -/
def TB : List Cond := lw_tbl.filter goodWord
theorem tb_1 {w : Cond} (i : Nat) (h : lw_tbl[i]? = some w) (hg : goodWord w = true) : w ∈ TB := List.mem_filter.mpr ⟨List.mem_of_getElem? h, hg⟩
theorem tb_of {ws : List Cond} (ps : List Nat) (hp : ws = ps.filterMap (fun i => lw_tbl[i]?)) (h : ws.all goodWord = true) : ∀ w ∈ ws, w ∈ TB := by
  intro w hw
  have h1 := List.all_eq_true.mp h w hw
  rw [hp] at hw
  obtain ⟨i, -, hi⟩ := List.mem_filterMap.mp hw
  exact tb_1 i hi h1
theorem tb_good {c1 c2 : Cond} (h : c2 ∈ TB) : GoodIn (c1 :: TB) (c2 :: TB) := by
  intro w hw
  rcases List.mem_cons.mp hw with rfl | hw
  · exact ⟨List.mem_cons_of_mem _ h, good_of_word (List.mem_filter.mp h).2⟩
  · exact ⟨List.mem_cons_of_mem _ hw, good_of_word (List.mem_filter.mp hw).2⟩
def R_Fc : String := "ForcedChart"
def T_Fc : u_T := fun k => match k with
  | 0 => ("ForcedChart", "steps", "LForcedChart$Steps;", true)
  | 1 => ("ForcedChart", "expressions", "LForcedChart$Expressions;", true)
  | 2 => ("ForcedChart", "transitions", "LForcedChart$Transitions;", true)
  | 3 => ("ForcedChart", "orders", "LForcedChart$Orders;", true)
  | 4 => ("ForcedChart", "actions", "LForcedChart$Actions;", true)
  | 5 => ("ForcedChart", "trial", "LForcedChart$Trial;", true)
  | 6 => ("ForcedChart", "times", "[I", true)
  | 7 => ("ForcedChart", "running", "Z", false)
  | 8 => ("ForcedChart", "settling", "Z", false)
  | 9 => ("ForcedChart", "situation", "I", false)
  | 10 => ("ForcedChart", "situationAtLastScan", "I", false)
  | 11 => ("ForcedChart", "inputs", "I", false)
  | 12 => ("ForcedChart", "outputs", "I", false)
  | 13 => ("ForcedChart", "evolutions", "I", false)
  | 14 => ("ForcedChart", "cleared", "I", false)
  | 15 => ("ForcedChart", "lead", "I", false)
  | _ => ("ForcedChart", "period", "I", false)
def ty_Fc : Nat → FieldType := fun k => match k with
  | 0 => .object "ForcedChart$Steps"
  | 1 => .object "ForcedChart$Expressions"
  | 2 => .object "ForcedChart$Transitions"
  | 3 => .object "ForcedChart$Orders"
  | 4 => .object "ForcedChart$Actions"
  | 5 => .object "ForcedChart$Trial"
  | 6 => .array .int
  | 7 => .boolean
  | 8 => .boolean
  | 9 => .int
  | 10 => .int
  | 11 => .int
  | 12 => .int
  | 13 => .int
  | 14 => .int
  | 15 => .int
  | _ => .int
theorem nm_Fc : ∀ a, a < 17 → ∀ b, b < 17 → a ≠ b → (T_Fc a).2.1 ≠ (T_Fc b).2.1 := by decide +kernel
theorem tk_Fc : ∀ k, k < 17 → parseFieldDescriptor (T_Fc k).2.2.1 = some (ty_Fc k) := by decide +kernel
set_option maxRecDepth 20000 in
theorem in_Fc : ∀ w ∈ u_ws R_Fc T_Fc 17, w ∈ TB := tb_of [235, 237, 239, 241, 243, 245, 247, 249, 251, 253, 255, 257, 259, 261, 263, 265, 267] (by decide +kernel) (by decide +kernel)
def R_St : String := "ForcedChart$Steps"
def T_St : u_T := fun k => match k with
  | 0 => ("ForcedChart$Steps", "partOf", "[I", true)
  | 1 => ("ForcedChart$Steps", "inPart", "[I", true)
  | 2 => ("ForcedChart$Steps", "count", "I", false)
  | _ => ("ForcedChart$Steps", "initial", "I", false)
def ty_St : Nat → FieldType := fun k => match k with
  | 0 => .array .int
  | 1 => .array .int
  | 2 => .int
  | _ => .int
theorem nm_St : ∀ a, a < 4 → ∀ b, b < 4 → a ≠ b → (T_St a).2.1 ≠ (T_St b).2.1 := by decide +kernel
theorem tk_St : ∀ k, k < 4 → parseFieldDescriptor (T_St k).2.2.1 = some (ty_St k) := by decide +kernel
set_option maxRecDepth 20000 in
theorem in_St : ∀ w ∈ u_ws R_St T_St 4, w ∈ TB := tb_of [63, 65, 67, 69] (by decide +kernel) (by decide +kernel)
def R_Ex : String := "ForcedChart$Expressions"
def T_Ex : u_T := fun k => match k with
  | 0 => ("ForcedChart$Expressions", "kinds", "[I", true)
  | 1 => ("ForcedChart$Expressions", "firsts", "[I", true)
  | 2 => ("ForcedChart$Expressions", "seconds", "[I", true)
  | 3 => ("ForcedChart$Expressions", "depths", "[I", true)
  | _ => ("ForcedChart$Expressions", "count", "I", false)
def ty_Ex : Nat → FieldType := fun k => match k with
  | 0 => .array .int
  | 1 => .array .int
  | 2 => .array .int
  | 3 => .array .int
  | _ => .int
theorem nm_Ex : ∀ a, a < 5 → ∀ b, b < 5 → a ≠ b → (T_Ex a).2.1 ≠ (T_Ex b).2.1 := by decide +kernel
theorem tk_Ex : ∀ k, k < 5 → parseFieldDescriptor (T_Ex k).2.2.1 = some (ty_Ex k) := by decide +kernel
set_option maxRecDepth 20000 in
theorem in_Ex : ∀ w ∈ u_ws R_Ex T_Ex 5, w ∈ TB := tb_of [85, 87, 89, 91, 93] (by decide +kernel) (by decide +kernel)
def R_Tr : String := "ForcedChart$Transitions"
def T_Tr : u_T := fun k => match k with
  | 0 => ("ForcedChart$Transitions", "befores", "[I", true)
  | 1 => ("ForcedChart$Transitions", "afters", "[I", true)
  | 2 => ("ForcedChart$Transitions", "conditions", "[I", true)
  | 3 => ("ForcedChart$Transitions", "inPart", "[I", true)
  | _ => ("ForcedChart$Transitions", "count", "I", false)
def ty_Tr : Nat → FieldType := fun k => match k with
  | 0 => .array .int
  | 1 => .array .int
  | 2 => .array .int
  | 3 => .array .int
  | _ => .int
theorem nm_Tr : ∀ a, a < 5 → ∀ b, b < 5 → a ≠ b → (T_Tr a).2.1 ≠ (T_Tr b).2.1 := by decide +kernel
theorem tk_Tr : ∀ k, k < 5 → parseFieldDescriptor (T_Tr k).2.2.1 = some (ty_Tr k) := by decide +kernel
set_option maxRecDepth 20000 in
theorem in_Tr : ∀ w ∈ u_ws R_Tr T_Tr 5, w ∈ TB := tb_of [109, 111, 113, 115, 117] (by decide +kernel) (by decide +kernel)
def R_Or : String := "ForcedChart$Orders"
def T_Or : u_T := fun k => match k with
  | 0 => ("ForcedChart$Orders", "givers", "[I", true)
  | 1 => ("ForcedChart$Orders", "parts", "[I", true)
  | 2 => ("ForcedChart$Orders", "fixedSets", "[I", true)
  | _ => ("ForcedChart$Orders", "count", "I", false)
def ty_Or : Nat → FieldType := fun k => match k with
  | 0 => .array .int
  | 1 => .array .int
  | 2 => .array .int
  | _ => .int
theorem nm_Or : ∀ a, a < 4 → ∀ b, b < 4 → a ≠ b → (T_Or a).2.1 ≠ (T_Or b).2.1 := by decide +kernel
theorem tk_Or : ∀ k, k < 4 → parseFieldDescriptor (T_Or k).2.2.1 = some (ty_Or k) := by decide +kernel
set_option maxRecDepth 20000 in
theorem in_Or : ∀ w ∈ u_ws R_Or T_Or 4, w ∈ TB := tb_of [131, 133, 135, 137] (by decide +kernel) (by decide +kernel)
def R_Ac : String := "ForcedChart$Actions"
def T_Ac : u_T := fun k => match k with
  | 0 => ("ForcedChart$Actions", "owners", "[I", true)
  | 1 => ("ForcedChart$Actions", "qualifiers", "[I", true)
  | 2 => ("ForcedChart$Actions", "variables", "[I", true)
  | 3 => ("ForcedChart$Actions", "durations", "[I", true)
  | 4 => ("ForcedChart$Actions", "ages", "[I", true)
  | 5 => ("ForcedChart$Actions", "count", "I", false)
  | _ => ("ForcedChart$Actions", "storedSet", "I", false)
def ty_Ac : Nat → FieldType := fun k => match k with
  | 0 => .array .int
  | 1 => .array .int
  | 2 => .array .int
  | 3 => .array .int
  | 4 => .array .int
  | 5 => .int
  | _ => .int
theorem nm_Ac : ∀ a, a < 7 → ∀ b, b < 7 → a ≠ b → (T_Ac a).2.1 ≠ (T_Ac b).2.1 := by decide +kernel
theorem tk_Ac : ∀ k, k < 7 → parseFieldDescriptor (T_Ac k).2.2.1 = some (ty_Ac k) := by decide +kernel
set_option maxRecDepth 20000 in
theorem in_Ac : ∀ w ∈ u_ws R_Ac T_Ac 7, w ∈ TB := tb_of [154, 156, 158, 160, 162, 164, 166] (by decide +kernel) (by decide +kernel)
def R_Ti : String := "ForcedChart$Trial"
def T_Ti : u_T := fun k => match k with
  | 0 => ("ForcedChart$Trial", "timesAtBegin", "[I", true)
  | 1 => ("ForcedChart$Trial", "states", "[I", true)
  | 2 => ("ForcedChart$Trial", "inputs", "I", false)
  | 3 => ("ForcedChart$Trial", "rising", "I", false)
  | 4 => ("ForcedChart$Trial", "falling", "I", false)
  | 5 => ("ForcedChart$Trial", "situation", "I", false)
  | 6 => ("ForcedChart$Trial", "timed", "I", false)
  | 7 => ("ForcedChart$Trial", "cleared", "I", false)
  | 8 => ("ForcedChart$Trial", "made", "I", false)
  | 9 => ("ForcedChart$Trial", "lead", "I", false)
  | _ => ("ForcedChart$Trial", "period", "I", false)
def ty_Ti : Nat → FieldType := fun k => match k with
  | 0 => .array .int
  | 1 => .array .int
  | 2 => .int
  | 3 => .int
  | 4 => .int
  | 5 => .int
  | 6 => .int
  | 7 => .int
  | 8 => .int
  | 9 => .int
  | _ => .int
theorem nm_Ti : ∀ a, a < 11 → ∀ b, b < 11 → a ≠ b → (T_Ti a).2.1 ≠ (T_Ti b).2.1 := by decide +kernel
theorem tk_Ti : ∀ k, k < 11 → parseFieldDescriptor (T_Ti k).2.2.1 = some (ty_Ti k) := by decide +kernel
set_option maxRecDepth 20000 in
theorem in_Ti : ∀ w ∈ u_ws R_Ti T_Ti 11, w ∈ TB := tb_of [195, 197, 199, 201, 203, 205, 207, 209, 211, 213, 215] (by decide +kernel) (by decide +kernel)
def R_Md : String := "ForcedChartModel"
def T_Md : u_T := fun k => match k with
  | 0 => ("ForcedChartModel", "steps", "I", false)
  | 1 => ("ForcedChartModel", "partOf", "[I", false)
  | 2 => ("ForcedChartModel", "initial", "[Z", false)
  | 3 => ("ForcedChartModel", "expressions", "I", false)
  | 4 => ("ForcedChartModel", "kind", "[I", false)
  | 5 => ("ForcedChartModel", "first", "[I", false)
  | 6 => ("ForcedChartModel", "second", "[I", false)
  | 7 => ("ForcedChartModel", "deep", "[I", false)
  | 8 => ("ForcedChartModel", "holds", "[Z", false)
  | 9 => ("ForcedChartModel", "transitions", "I", false)
  | 10 => ("ForcedChartModel", "from", "[I", false)
  | 11 => ("ForcedChartModel", "to", "[I", false)
  | 12 => ("ForcedChartModel", "condition", "[I", false)
  | 13 => ("ForcedChartModel", "orders", "I", false)
  | 14 => ("ForcedChartModel", "orderStep", "[I", false)
  | 15 => ("ForcedChartModel", "orderPart", "[I", false)
  | 16 => ("ForcedChartModel", "orderFixed", "[I", false)
  | 17 => ("ForcedChartModel", "actions", "I", false)
  | 18 => ("ForcedChartModel", "actionStep", "[I", false)
  | 19 => ("ForcedChartModel", "qualifier", "[I", false)
  | 20 => ("ForcedChartModel", "variable", "[I", false)
  | 21 => ("ForcedChartModel", "duration", "[I", false)
  | 22 => ("ForcedChartModel", "kept", "[Z", false)
  | 23 => ("ForcedChartModel", "age", "[I", false)
  | 24 => ("ForcedChartModel", "runs", "Z", false)
  | 25 => ("ForcedChartModel", "settling", "Z", false)
  | 26 => ("ForcedChartModel", "situation", "I", false)
  | 27 => ("ForcedChartModel", "passed", "[I", false)
  | 28 => ("ForcedChartModel", "earlier", "I", false)
  | 29 => ("ForcedChartModel", "given", "I", false)
  | 30 => ("ForcedChartModel", "on", "I", false)
  | 31 => ("ForcedChartModel", "made", "I", false)
  | 32 => ("ForcedChartModel", "done", "I", false)
  | 33 => ("ForcedChartModel", "lead", "I", false)
  | 34 => ("ForcedChartModel", "period", "I", false)
  | 35 => ("ForcedChartModel", "oldSituation", "I", false)
  | 36 => ("ForcedChartModel", "oldPassed", "[I", false)
  | 37 => ("ForcedChartModel", "inputs", "I", false)
  | 38 => ("ForcedChartModel", "rising", "I", false)
  | 39 => ("ForcedChartModel", "falling", "I", false)
  | 40 => ("ForcedChartModel", "next", "I", false)
  | 41 => ("ForcedChartModel", "clearedNow", "I", false)
  | _ => ("ForcedChartModel", "seen", "[I", false)
def ty_Md : Nat → FieldType := fun k => match k with
  | 0 => .int
  | 1 => .array .int
  | 2 => .array .boolean
  | 3 => .int
  | 4 => .array .int
  | 5 => .array .int
  | 6 => .array .int
  | 7 => .array .int
  | 8 => .array .boolean
  | 9 => .int
  | 10 => .array .int
  | 11 => .array .int
  | 12 => .array .int
  | 13 => .int
  | 14 => .array .int
  | 15 => .array .int
  | 16 => .array .int
  | 17 => .int
  | 18 => .array .int
  | 19 => .array .int
  | 20 => .array .int
  | 21 => .array .int
  | 22 => .array .boolean
  | 23 => .array .int
  | 24 => .boolean
  | 25 => .boolean
  | 26 => .int
  | 27 => .array .int
  | 28 => .int
  | 29 => .int
  | 30 => .int
  | 31 => .int
  | 32 => .int
  | 33 => .int
  | 34 => .int
  | 35 => .int
  | 36 => .array .int
  | 37 => .int
  | 38 => .int
  | 39 => .int
  | 40 => .int
  | 41 => .int
  | _ => .array .int
theorem nm_Md : ∀ a, a < 43 → ∀ b, b < 43 → a ≠ b → (T_Md a).2.1 ≠ (T_Md b).2.1 := by decide +kernel
theorem tk_Md : ∀ k, k < 43 → parseFieldDescriptor (T_Md k).2.2.1 = some (ty_Md k) := by decide +kernel
set_option maxRecDepth 20000 in
theorem in_Md : ∀ w ∈ u_ws R_Md T_Md 43, w ∈ TB := tb_of [582, 584, 586, 588, 590, 592, 594, 596, 598, 600, 602, 604, 606, 608, 610, 612, 614, 616, 618, 620, 622, 624, 626, 628, 630, 632, 634, 636, 638, 640, 642, 644, 646, 648, 650, 652, 654, 656, 658, 660, 662, 664, 666] (by decide +kernel) (by decide +kernel)
abbrev vwCl : List vw_C := [(R_Fc, T_Fc, 17), (R_St, T_St, 4), (R_Ex, T_Ex, 5), (R_Tr, T_Tr, 5), (R_Or, T_Or, 4), (R_Ac, T_Ac, 7), (R_Ti, T_Ti, 11), (R_Md, T_Md, 43)]
/- cell 0: ForcedChart: 0 steps, 1 expressions, 2 transitions, 3 orders, 4 actions, 5 trial, 6 times, 7 running, 8 settling, 9 situation, 10 situationAtLastScan, 11 inputs, 12 outputs, 13 evolutions, 14 cleared, 15 lead, 16 period
cell 1: ForcedChart$Steps: 0 partOf, 1 inPart, 2 count, 3 initial
cell 2: ForcedChart$Expressions: 0 kinds, 1 firsts, 2 seconds, 3 depths, 4 count
cell 3: ForcedChart$Transitions: 0 befores, 1 afters, 2 conditions, 3 inPart, 4 count
cell 4: ForcedChart$Orders: 0 givers, 1 parts, 2 fixedSets, 3 count
cell 5: ForcedChart$Actions: 0 owners, 1 qualifiers, 2 variables, 3 durations, 4 ages, 5 count, 6 storedSet
cell 6: ForcedChart$Trial: 0 timesAtBegin, 1 states, 2 inputs, 3 rising, 4 falling, 5 situation, 6 timed, 7 cleared, 8 made, 9 lead, 10 period
cell 7: ForcedChart.times[8]
cell 8: ForcedChart$Steps.partOf[8]
cell 9: ForcedChart$Steps.inPart[3]
cell 10: ForcedChart$Expressions.kinds[24]
cell 11: ForcedChart$Expressions.firsts[24]
cell 12: ForcedChart$Expressions.seconds[24]
cell 13: ForcedChart$Expressions.depths[24]
cell 14: ForcedChart$Transitions.befores[12]
cell 15: ForcedChart$Transitions.afters[12]
cell 16: ForcedChart$Transitions.conditions[12]
cell 17: ForcedChart$Transitions.inPart[3]
cell 18: ForcedChart$Orders.givers[4]
cell 19: ForcedChart$Orders.parts[4]
cell 20: ForcedChart$Orders.fixedSets[4]
cell 21: ForcedChart$Actions.owners[12]
cell 22: ForcedChart$Actions.qualifiers[12]
cell 23: ForcedChart$Actions.variables[12]
cell 24: ForcedChart$Actions.durations[12]
cell 25: ForcedChart$Actions.ages[12]
cell 26: ForcedChart$Trial.timesAtBegin[8]
cell 27: ForcedChart$Trial.states[513] -/
abbrev lyX : fx_L := [.inr (0, [some 1, some 2, some 3, some 4, some 5, some 6, some 7, none, none, none, none, none, none, none, none, none, none]), .inr (1, [some 8, some 9, none, none]), .inr (2, [some 10, some 11, some 12, some 13, none]), .inr (3, [some 14, some 15, some 16, some 17, none]), .inr (4, [some 18, some 19, some 20, none]), .inr (5, [some 21, some 22, some 23, some 24, some 25, none, none]), .inr (6, [some 26, some 27, none, none, none, none, none, none, none, none, none]), .inl (0, 8), .inl (0, 8), .inl (0, 3), .inl (0, 24), .inl (0, 24), .inl (0, 24), .inl (0, 24), .inl (0, 12), .inl (0, 12), .inl (0, 12), .inl (0, 3), .inl (0, 4), .inl (0, 4), .inl (0, 4), .inl (0, 12), .inl (0, 12), .inl (0, 12), .inl (0, 12), .inl (0, 12), .inl (0, 8), .inl (0, 513)]
abbrev lnXI : List (Nat × Nat) := [(7, 8), (8, 8), (9, 3), (10, 24), (11, 24), (12, 24), (13, 24), (14, 12), (15, 12), (16, 12), (17, 3), (18, 4), (19, 4), (20, 4), (21, 12), (22, 12), (23, 12), (24, 12), (25, 12), (26, 8), (27, 513)]
theorem lkXI : ∀ x ∈ lnXI, lyX[x.1]? = some (.inl (0, x.2)) := by decide +kernel
abbrev lnXZ : List (Nat × Nat) := []
theorem lkXZ : ∀ x ∈ lnXZ, lyX[x.1]? = some (.inl (1, x.2)) := by decide +kernel
/- cell 0: ForcedChartModel: 0 steps, 1 partOf, 2 initial, 3 expressions, 4 kind, 5 first, 6 second, 7 deep, 8 holds, 9 transitions, 10 from, 11 to, 12 condition, 13 orders, 14 orderStep, 15 orderPart, 16 orderFixed, 17 actions, 18 actionStep, 19 qualifier, 20 variable, 21 duration, 22 kept, 23 age, 24 runs, 25 settling, 26 situation, 27 passed, 28 earlier, 29 given, 30 on, 31 made, 32 done, 33 lead, 34 period, 35 oldSituation, 36 oldPassed, 37 inputs, 38 rising, 39 falling, 40 next, 41 clearedNow, 42 seen
cell 1: ForcedChartModel.partOf[8]
cell 2: ForcedChartModel.initial[8] boolean
cell 3: ForcedChartModel.kind[24]
cell 4: ForcedChartModel.first[24]
cell 5: ForcedChartModel.second[24]
cell 6: ForcedChartModel.deep[24]
cell 7: ForcedChartModel.holds[24] boolean
cell 8: ForcedChartModel.from[12]
cell 9: ForcedChartModel.to[12]
cell 10: ForcedChartModel.condition[12]
cell 11: ForcedChartModel.orderStep[4]
cell 12: ForcedChartModel.orderPart[4]
cell 13: ForcedChartModel.orderFixed[4]
cell 14: ForcedChartModel.actionStep[12]
cell 15: ForcedChartModel.qualifier[12]
cell 16: ForcedChartModel.variable[12]
cell 17: ForcedChartModel.duration[12]
cell 18: ForcedChartModel.kept[12] boolean
cell 19: ForcedChartModel.age[12]
cell 20: ForcedChartModel.passed[8]
cell 21: ForcedChartModel.oldPassed[8]
cell 22: ForcedChartModel.seen[6561] -/
abbrev lyM : fx_L := [.inr (7, [none, some 1, some 2, none, some 3, some 4, some 5, some 6, some 7, none, some 8, some 9, some 10, none, some 11, some 12, some 13, none, some 14, some 15, some 16, some 17, some 18, some 19, none, none, none, some 20, none, none, none, none, none, none, none, none, some 21, none, none, none, none, none, some 22]), .inl (0, 8), .inl (1, 8), .inl (0, 24), .inl (0, 24), .inl (0, 24), .inl (0, 24), .inl (1, 24), .inl (0, 12), .inl (0, 12), .inl (0, 12), .inl (0, 4), .inl (0, 4), .inl (0, 4), .inl (0, 12), .inl (0, 12), .inl (0, 12), .inl (0, 12), .inl (1, 12), .inl (0, 12), .inl (0, 8), .inl (0, 8), .inl (0, 6561)]
abbrev lnMI : List (Nat × Nat) := [(1, 8), (3, 24), (4, 24), (5, 24), (6, 24), (8, 12), (9, 12), (10, 12), (11, 4), (12, 4), (13, 4), (14, 12), (15, 12), (16, 12), (17, 12), (19, 12), (20, 8), (21, 8), (22, 6561)]
theorem lkMI : ∀ x ∈ lnMI, lyM[x.1]? = some (.inl (0, x.2)) := by decide +kernel
abbrev lnMZ : List (Nat × Nat) := [(2, 8), (7, 24), (18, 12)]
theorem lkMZ : ∀ x ∈ lnMZ, lyM[x.1]? = some (.inl (1, x.2)) := by decide +kernel
abbrev c_Fc_init : ByteArray := prog_1_method_1_code
def y_Fc_init : MethodName := ⟨R_Fc, "<init>", "()V"⟩
abbrev c_Fc_step : ByteArray := prog_1_method_2_code
def y_Fc_step : MethodName := ⟨R_Fc, "step", "(IZ)I"⟩
abbrev c_Fc_expression : ByteArray := prog_1_method_3_code
def y_Fc_expression : MethodName := ⟨R_Fc, "expression", "(III)I"⟩
abbrev c_Fc_transition : ByteArray := prog_1_method_4_code
def y_Fc_transition : MethodName := ⟨R_Fc, "transition", "(III)I"⟩
abbrev c_Fc_order : ByteArray := prog_1_method_5_code
def y_Fc_order : MethodName := ⟨R_Fc, "order", "(III)I"⟩
abbrev c_Fc_action : ByteArray := prog_1_method_6_code
def y_Fc_action : MethodName := ⟨R_Fc, "action", "(IIII)I"⟩
abbrev c_Fc_unreached : ByteArray := prog_1_method_7_code
def y_Fc_unreached : MethodName := ⟨R_Fc, "unreached", "()I"⟩
abbrev c_Fc_start : ByteArray := prog_1_method_8_code
def y_Fc_start : MethodName := ⟨R_Fc, "start", "(Z)Z"⟩
abbrev c_Fc_stop : ByteArray := prog_1_method_9_code
def y_Fc_stop : MethodName := ⟨R_Fc, "stop", "()V"⟩
abbrev c_Fc_scan : ByteArray := prog_1_method_10_code
def y_Fc_scan : MethodName := ⟨R_Fc, "scan", "(II)I"⟩
abbrev c_Fc_active : ByteArray := prog_1_method_11_code
def y_Fc_active : MethodName := ⟨R_Fc, "active", "()I"⟩
abbrev c_Fc_time : ByteArray := prog_1_method_12_code
def y_Fc_time : MethodName := ⟨R_Fc, "time", "(I)I"⟩
abbrev c_Fc_enabled : ByteArray := prog_1_method_13_code
def y_Fc_enabled : MethodName := ⟨R_Fc, "enabled", "()I"⟩
abbrev c_Fc_outputs : ByteArray := prog_1_method_14_code
def y_Fc_outputs : MethodName := ⟨R_Fc, "outputs", "()I"⟩
abbrev c_Fc_stored : ByteArray := prog_1_method_15_code
def y_Fc_stored : MethodName := ⟨R_Fc, "stored", "(I)Z"⟩
abbrev c_Fc_evolutions : ByteArray := prog_1_method_16_code
def y_Fc_evolutions : MethodName := ⟨R_Fc, "evolutions", "()I"⟩
abbrev c_Fc_cleared : ByteArray := prog_1_method_17_code
def y_Fc_cleared : MethodName := ⟨R_Fc, "cleared", "()I"⟩
abbrev c_Fc_lead : ByteArray := prog_1_method_18_code
def y_Fc_lead : MethodName := ⟨R_Fc, "lead", "()I"⟩
abbrev c_Fc_period : ByteArray := prog_1_method_19_code
def y_Fc_period : MethodName := ⟨R_Fc, "period", "()I"⟩
abbrev c_Fc_forgetRun : ByteArray := prog_1_method_20_code
def y_Fc_forgetRun : MethodName := ⟨R_Fc, "forgetRun", "()V"⟩
abbrev c_Fc_comesToAnEnd : ByteArray := prog_1_method_21_code
def y_Fc_comesToAnEnd : MethodName := ⟨R_Fc, "comesToAnEnd", "()Z"⟩
abbrev c_Fc_evolve : ByteArray := prog_1_method_22_code
def y_Fc_evolve : MethodName := ⟨R_Fc, "evolve", "()Z"⟩
abbrev c_Fc_keepTrial : ByteArray := prog_1_method_23_code
def y_Fc_keepTrial : MethodName := ⟨R_Fc, "keepTrial", "(I)V"⟩
abbrev c_Fc_isIn : ByteArray := prog_1_method_24_code
def y_Fc_isIn : MethodName := ⟨R_Fc, "isIn", "(II)Z"⟩
abbrev c_Fc_isLine : ByteArray := prog_1_method_25_code
def y_Fc_isLine : MethodName := ⟨R_Fc, "isLine", "(I)Z"⟩
abbrev c_Fc_isSpan : ByteArray := prog_1_method_26_code
def y_Fc_isSpan : MethodName := ⟨R_Fc, "isSpan", "(I)Z"⟩
abbrev c_St_init : ByteArray := prog_5_method_1_code
def y_St_init : MethodName := ⟨R_St, "<init>", "()V"⟩
abbrev c_St_add : ByteArray := prog_5_method_2_code
def y_St_add : MethodName := ⟨R_St, "add", "(IZ)I"⟩
abbrev c_St_has : ByteArray := prog_5_method_3_code
def y_St_has : MethodName := ⟨R_St, "has", "(I)Z"⟩
abbrev c_St_all : ByteArray := prog_5_method_4_code
def y_St_all : MethodName := ⟨R_St, "all", "()I"⟩
abbrev c_St_partWithAll : ByteArray := prog_5_method_5_code
def y_St_partWithAll : MethodName := ⟨R_St, "partWithAll", "(I)I"⟩
abbrev c_Ex_init : ByteArray := prog_3_method_1_code
def y_Ex_init : MethodName := ⟨R_Ex, "<init>", "()V"⟩
abbrev c_Ex_has : ByteArray := prog_3_method_2_code
def y_Ex_has : MethodName := ⟨R_Ex, "has", "(I)Z"⟩
abbrev c_Ex_allow : ByteArray := prog_3_method_3_code
def y_Ex_allow : MethodName := ⟨R_Ex, "allow", "(IIILForcedChart$Steps;)Z"⟩
abbrev c_Ex_canBePart : ByteArray := prog_3_method_4_code
def y_Ex_canBePart : MethodName := ⟨R_Ex, "canBePart", "(I)Z"⟩
abbrev c_Ex_add : ByteArray := prog_3_method_5_code
def y_Ex_add : MethodName := ⟨R_Ex, "add", "(III)I"⟩
abbrev c_Ex_depthFor : ByteArray := prog_3_method_6_code
def y_Ex_depthFor : MethodName := ⟨R_Ex, "depthFor", "(III)I"⟩
abbrev c_Ex_trueIn : ByteArray := prog_3_method_7_code
def y_Ex_trueIn : MethodName := ⟨R_Ex, "trueIn", "(LForcedChart$Trial;)I"⟩
abbrev c_Ex_holds : ByteArray := prog_3_method_8_code
def y_Ex_holds : MethodName := ⟨R_Ex, "holds", "(IILForcedChart$Trial;)Z"⟩
abbrev c_Tr_init : ByteArray := prog_6_method_1_code
def y_Tr_init : MethodName := ⟨R_Tr, "<init>", "()V"⟩
abbrev c_Tr_add : ByteArray := prog_6_method_2_code
def y_Tr_add : MethodName := ⟨R_Tr, "add", "(IIII)I"⟩
abbrev c_Tr_enabledIn : ByteArray := prog_6_method_3_code
def y_Tr_enabledIn : MethodName := ⟨R_Tr, "enabledIn", "(I)I"⟩
abbrev c_Tr_dueIn : ByteArray := prog_6_method_4_code
def y_Tr_dueIn : MethodName := ⟨R_Tr, "dueIn", "(II)I"⟩
abbrev c_Tr_withoutRivals : ByteArray := prog_6_method_5_code
def y_Tr_withoutRivals : MethodName := ⟨R_Tr, "withoutRivals", "(I)I"⟩
abbrev c_Tr_preceding : ByteArray := prog_6_method_6_code
def y_Tr_preceding : MethodName := ⟨R_Tr, "preceding", "(I)I"⟩
abbrev c_Tr_succeeding : ByteArray := prog_6_method_7_code
def y_Tr_succeeding : MethodName := ⟨R_Tr, "succeeding", "(I)I"⟩
abbrev c_Tr_union : ByteArray := prog_6_method_8_code
def y_Tr_union : MethodName := ⟨R_Tr, "union", "([II)I"⟩
abbrev c_Or_init : ByteArray := prog_4_method_1_code
def y_Or_init : MethodName := ⟨R_Or, "<init>", "()V"⟩
abbrev c_Or_add : ByteArray := prog_4_method_2_code
def y_Or_add : MethodName := ⟨R_Or, "add", "(III)I"⟩
abbrev c_Or_rulingOver : ByteArray := prog_4_method_3_code
def y_Or_rulingOver : MethodName := ⟨R_Or, "rulingOver", "(II)I"⟩
abbrev c_Or_forcedSteps : ByteArray := prog_4_method_4_code
def y_Or_forcedSteps : MethodName := ⟨R_Or, "forcedSteps", "(II)I"⟩
abbrev c_Or_fixedBy : ByteArray := prog_4_method_5_code
def y_Or_fixedBy : MethodName := ⟨R_Or, "fixedBy", "(I)I"⟩
abbrev c_Ac_init : ByteArray := prog_2_method_1_code
def y_Ac_init : MethodName := ⟨R_Ac, "<init>", "()V"⟩
abbrev c_Ac_isQualifier : ByteArray := prog_2_method_2_code
def y_Ac_isQualifier : MethodName := ⟨R_Ac, "isQualifier", "(I)Z"⟩
abbrev c_Ac_add : ByteArray := prog_2_method_3_code
def y_Ac_add : MethodName := ⟨R_Ac, "add", "(IIII)I"⟩
abbrev c_Ac_isStored : ByteArray := prog_2_method_4_code
def y_Ac_isStored : MethodName := ⟨R_Ac, "isStored", "(I)Z"⟩
abbrev c_Ac_forgetStored : ByteArray := prog_2_method_5_code
def y_Ac_forgetStored : MethodName := ⟨R_Ac, "forgetStored", "()V"⟩
abbrev c_Ac_grow : ByteArray := prog_2_method_6_code
def y_Ac_grow : MethodName := ⟨R_Ac, "grow", "(I)V"⟩
abbrev c_Ac_workOut : ByteArray := prog_2_method_7_code
def y_Ac_workOut : MethodName := ⟨R_Ac, "workOut", "(II[I)I"⟩
abbrev c_Ac_resetVariables : ByteArray := prog_2_method_8_code
def y_Ac_resetVariables : MethodName := ⟨R_Ac, "resetVariables", "(I)I"⟩
abbrev c_Ac_store : ByteArray := prog_2_method_9_code
def y_Ac_store : MethodName := ⟨R_Ac, "store", "(IZZI)V"⟩
abbrev c_Ac_storesAt : ByteArray := prog_2_method_10_code
def y_Ac_storesAt : MethodName := ⟨R_Ac, "storesAt", "(II)Z"⟩
abbrev c_Ac_isOn : ByteArray := prog_2_method_11_code
def y_Ac_isOn : MethodName := ⟨R_Ac, "isOn", "(IZZI)Z"⟩
abbrev c_Ti_init : ByteArray := prog_7_method_1_code
def y_Ti_init : MethodName := ⟨R_Ti, "<init>", "()V"⟩
abbrev c_Ti_begin : ByteArray := prog_7_method_2_code
def y_Ti_begin : MethodName := ⟨R_Ti, "begin", "(I[II)V"⟩
abbrev c_Ti_sense : ByteArray := prog_7_method_3_code
def y_Ti_sense : MethodName := ⟨R_Ti, "sense", "(II)V"⟩
abbrev c_Ti_timeOf : ByteArray := prog_7_method_4_code
def y_Ti_timeOf : MethodName := ⟨R_Ti, "timeOf", "(I)I"⟩
abbrev c_Ti_endEdges : ByteArray := prog_7_method_5_code
def y_Ti_endEdges : MethodName := ⟨R_Ti, "endEdges", "()V"⟩
abbrev c_Ti_moveTo : ByteArray := prog_7_method_6_code
def y_Ti_moveTo : MethodName := ⟨R_Ti, "moveTo", "(II)Z"⟩
abbrev c_Ti_findsCycle : ByteArray := prog_7_method_7_code
def y_Ti_findsCycle : MethodName := ⟨R_Ti, "findsCycle", "()Z"⟩
abbrev c_Md_init : ByteArray := prog_9_method_1_code
def y_Md_init : MethodName := ⟨R_Md, "<init>", "()V"⟩
abbrev c_Md_in : ByteArray := prog_9_method_2_code
def y_Md_in : MethodName := ⟨R_Md, "in", "(II)Z"⟩
abbrev c_Md_isStep : ByteArray := prog_9_method_3_code
def y_Md_isStep : MethodName := ⟨R_Md, "isStep", "(I)Z"⟩
abbrev c_Md_isExpression : ByteArray := prog_9_method_4_code
def y_Md_isExpression : MethodName := ⟨R_Md, "isExpression", "(I)Z"⟩
abbrev c_Md_stepsOf : ByteArray := prog_9_method_5_code
def y_Md_stepsOf : MethodName := ⟨R_Md, "stepsOf", "(I)I"⟩
abbrev c_Md_step : ByteArray := prog_9_method_6_code
def y_Md_step : MethodName := ⟨R_Md, "step", "(IZ)I"⟩
abbrev c_Md_fits : ByteArray := prog_9_method_7_code
def y_Md_fits : MethodName := ⟨R_Md, "fits", "(III)Z"⟩
abbrev c_Md_expression : ByteArray := prog_9_method_8_code
def y_Md_expression : MethodName := ⟨R_Md, "expression", "(III)I"⟩
abbrev c_Md_transition : ByteArray := prog_9_method_9_code
def y_Md_transition : MethodName := ⟨R_Md, "transition", "(III)I"⟩
abbrev c_Md_order : ByteArray := prog_9_method_10_code
def y_Md_order : MethodName := ⟨R_Md, "order", "(III)I"⟩
abbrev c_Md_action : ByteArray := prog_9_method_11_code
def y_Md_action : MethodName := ⟨R_Md, "action", "(IIII)I"⟩
abbrev c_Md_unreached : ByteArray := prog_9_method_12_code
def y_Md_unreached : MethodName := ⟨R_Md, "unreached", "()I"⟩
abbrev c_Md_initials : ByteArray := prog_9_method_13_code
def y_Md_initials : MethodName := ⟨R_Md, "initials", "()I"⟩
abbrev c_Md_blank : ByteArray := prog_9_method_14_code
def y_Md_blank : MethodName := ⟨R_Md, "blank", "()V"⟩
abbrev c_Md_start : ByteArray := prog_9_method_15_code
def y_Md_start : MethodName := ⟨R_Md, "start", "(Z)Z"⟩
abbrev c_Md_stop : ByteArray := prog_9_method_16_code
def y_Md_stop : MethodName := ⟨R_Md, "stop", "()V"⟩
abbrev c_Md_judge : ByteArray := prog_9_method_17_code
def y_Md_judge : MethodName := ⟨R_Md, "judge", "()V"⟩
abbrev c_Md_isEnabled : ByteArray := prog_9_method_18_code
def y_Md_isEnabled : MethodName := ⟨R_Md, "isEnabled", "(I)Z"⟩
abbrev c_Md_ruling : ByteArray := prog_9_method_19_code
def y_Md_ruling : MethodName := ⟨R_Md, "ruling", "(I)I"⟩
abbrev c_Md_evolve : ByteArray := prog_9_method_20_code
def y_Md_evolve : MethodName := ⟨R_Md, "evolve", "()V"⟩
abbrev c_Md_move : ByteArray := prog_9_method_21_code
def y_Md_move : MethodName := ⟨R_Md, "move", "(I)V"⟩
abbrev c_Md_take : ByteArray := prog_9_method_22_code
def y_Md_take : MethodName := ⟨R_Md, "take", "()V"⟩
abbrev c_Md_code : ByteArray := prog_9_method_23_code
def y_Md_code : MethodName := ⟨R_Md, "code", "()I"⟩
abbrev c_Md_scan : ByteArray := prog_9_method_24_code
def y_Md_scan : MethodName := ⟨R_Md, "scan", "(II)I"⟩
abbrev c_Md_single : ByteArray := prog_9_method_25_code
def y_Md_single : MethodName := ⟨R_Md, "single", "()I"⟩
abbrev c_Md_settle : ByteArray := prog_9_method_26_code
def y_Md_settle : MethodName := ⟨R_Md, "settle", "()I"⟩
abbrev c_Md_reset : ByteArray := prog_9_method_27_code
def y_Md_reset : MethodName := ⟨R_Md, "reset", "(I)Z"⟩
abbrev c_Md_act : ByteArray := prog_9_method_28_code
def y_Md_act : MethodName := ⟨R_Md, "act", "(I)V"⟩
abbrev c_Md_store : ByteArray := prog_9_method_29_code
def y_Md_store : MethodName := ⟨R_Md, "store", "(IZ)V"⟩
abbrev c_Md_acts : ByteArray := prog_9_method_30_code
def y_Md_acts : MethodName := ⟨R_Md, "acts", "(I)Z"⟩
abbrev c_Md_active : ByteArray := prog_9_method_31_code
def y_Md_active : MethodName := ⟨R_Md, "active", "()I"⟩
abbrev c_Md_time : ByteArray := prog_9_method_32_code
def y_Md_time : MethodName := ⟨R_Md, "time", "(I)I"⟩
abbrev c_Md_enabled : ByteArray := prog_9_method_33_code
def y_Md_enabled : MethodName := ⟨R_Md, "enabled", "()I"⟩
abbrev c_Md_outputs : ByteArray := prog_9_method_34_code
def y_Md_outputs : MethodName := ⟨R_Md, "outputs", "()I"⟩
abbrev c_Md_stored : ByteArray := prog_9_method_35_code
def y_Md_stored : MethodName := ⟨R_Md, "stored", "(I)Z"⟩
abbrev c_Md_evolutions : ByteArray := prog_9_method_36_code
def y_Md_evolutions : MethodName := ⟨R_Md, "evolutions", "()I"⟩
abbrev c_Md_cleared : ByteArray := prog_9_method_37_code
def y_Md_cleared : MethodName := ⟨R_Md, "cleared", "()I"⟩
abbrev c_Md_lead : ByteArray := prog_9_method_38_code
def y_Md_lead : MethodName := ⟨R_Md, "lead", "()I"⟩
abbrev c_Md_period : ByteArray := prog_9_method_39_code
def y_Md_period : MethodName := ⟨R_Md, "period", "()I"⟩
/-! links to a nest mate's own members: they are no words of the tables' kept kind -/
def nwl : List Cond := [
  .methodLinkNest "ForcedChart" 9 ⟨"ForcedChart$Steps", "<init>", "()V"⟩ "ForcedChart",
  .fieldLinkNest "ForcedChart" 89 "ForcedChart$Steps" "partOf" "[I" "ForcedChart",
  .fieldLinkNest "ForcedChart" 92 "ForcedChart$Steps" "inPart" "[I" "ForcedChart",
  .fieldLinkNest "ForcedChart" 59 "ForcedChart$Steps" "count" "I" "ForcedChart",
  .fieldLinkNest "ForcedChart" 107 "ForcedChart$Steps" "initial" "I" "ForcedChart",
  .methodLinkNest "ForcedChart" 18 ⟨"ForcedChart$Expressions", "<init>", "()V"⟩ "ForcedChart",
  .fieldLinkNest "ForcedChart" 67 "ForcedChart$Expressions" "count" "I" "ForcedChart",
  .methodLinkNest "ForcedChart" 25 ⟨"ForcedChart$Transitions", "<init>", "()V"⟩ "ForcedChart",
  .fieldLinkNest "ForcedChart" 201 "ForcedChart$Transitions" "inPart" "[I" "ForcedChart",
  .fieldLinkNest "ForcedChart" 75 "ForcedChart$Transitions" "count" "I" "ForcedChart",
  .methodLinkNest "ForcedChart" 32 ⟨"ForcedChart$Orders", "<init>", "()V"⟩ "ForcedChart",
  .fieldLinkNest "ForcedChart" 87 "ForcedChart$Orders" "count" "I" "ForcedChart",
  .methodLinkNest "ForcedChart" 39 ⟨"ForcedChart$Actions", "<init>", "()V"⟩ "ForcedChart",
  .fieldLinkNest "ForcedChart" 96 "ForcedChart$Actions" "count" "I" "ForcedChart",
  .methodLinkNest "ForcedChart" 46 ⟨"ForcedChart$Trial", "<init>", "()V"⟩ "ForcedChart",
  .fieldLinkNest "ForcedChart$Expressions" 58 "ForcedChart$Trial" "inputs" "I" "ForcedChart",
  .fieldLinkNest "ForcedChart$Expressions" 67 "ForcedChart$Trial" "rising" "I" "ForcedChart",
  .fieldLinkNest "ForcedChart$Expressions" 70 "ForcedChart$Trial" "falling" "I" "ForcedChart",
  .fieldLinkNest "ForcedChart$Expressions" 73 "ForcedChart$Trial" "situation" "I" "ForcedChart",
  .fieldLinkNest "ForcedChart" 186 "ForcedChart$Trial" "situation" "I" "ForcedChart",
  .fieldLinkNest "ForcedChart" 218 "ForcedChart$Trial" "cleared" "I" "ForcedChart",
  .fieldLinkNest "ForcedChart" 215 "ForcedChart$Trial" "made" "I" "ForcedChart",
  .fieldLinkNest "ForcedChart" 147 "ForcedChart$Trial" "lead" "I" "ForcedChart",
  .fieldLinkNest "ForcedChart" 151 "ForcedChart$Trial" "period" "I" "ForcedChart",
  .methodLinkNest "ForcedChart$Expressions" 28 ⟨"ForcedChart", "isLine", "(I)Z"⟩ "ForcedChart",
  .methodLinkNest "ForcedChart$Expressions" 37 ⟨"ForcedChart", "isSpan", "(I)Z"⟩ "ForcedChart",
  .methodLinkNest "ForcedChart$Transitions" 32 ⟨"ForcedChart", "isIn", "(II)Z"⟩ "ForcedChart",
  .methodLinkNest "ForcedChart$Orders" 25 ⟨"ForcedChart", "isIn", "(II)Z"⟩ "ForcedChart",
  .methodLinkNest "ForcedChart$Trial" 25 ⟨"ForcedChart", "isIn", "(II)Z"⟩ "ForcedChart",
  .methodLinkNest "ForcedChart$Expressions" 63 ⟨"ForcedChart", "isIn", "(II)Z"⟩ "ForcedChart",
  .methodLinkNest "ForcedChart$Actions" 34 ⟨"ForcedChart", "isIn", "(II)Z"⟩ "ForcedChart"]
theorem nwl_ok : fx_N nwl := by
  unfold nwl
  refine List.forall_mem_cons.mpr ⟨⟨rfl, fun s U hW hZ => va_Nw.warmM hW hZ⟩, ?_⟩
  refine List.forall_mem_cons.mpr ⟨⟨rfl, fun s U hW hZ => va_Nw.warmF hW hZ⟩, ?_⟩
  refine List.forall_mem_cons.mpr ⟨⟨rfl, fun s U hW hZ => va_Nw.warmF hW hZ⟩, ?_⟩
  refine List.forall_mem_cons.mpr ⟨⟨rfl, fun s U hW hZ => va_Nw.warmF hW hZ⟩, ?_⟩
  refine List.forall_mem_cons.mpr ⟨⟨rfl, fun s U hW hZ => va_Nw.warmF hW hZ⟩, ?_⟩
  refine List.forall_mem_cons.mpr ⟨⟨rfl, fun s U hW hZ => va_Nw.warmM hW hZ⟩, ?_⟩
  refine List.forall_mem_cons.mpr ⟨⟨rfl, fun s U hW hZ => va_Nw.warmF hW hZ⟩, ?_⟩
  refine List.forall_mem_cons.mpr ⟨⟨rfl, fun s U hW hZ => va_Nw.warmM hW hZ⟩, ?_⟩
  refine List.forall_mem_cons.mpr ⟨⟨rfl, fun s U hW hZ => va_Nw.warmF hW hZ⟩, ?_⟩
  refine List.forall_mem_cons.mpr ⟨⟨rfl, fun s U hW hZ => va_Nw.warmF hW hZ⟩, ?_⟩
  refine List.forall_mem_cons.mpr ⟨⟨rfl, fun s U hW hZ => va_Nw.warmM hW hZ⟩, ?_⟩
  refine List.forall_mem_cons.mpr ⟨⟨rfl, fun s U hW hZ => va_Nw.warmF hW hZ⟩, ?_⟩
  refine List.forall_mem_cons.mpr ⟨⟨rfl, fun s U hW hZ => va_Nw.warmM hW hZ⟩, ?_⟩
  refine List.forall_mem_cons.mpr ⟨⟨rfl, fun s U hW hZ => va_Nw.warmF hW hZ⟩, ?_⟩
  refine List.forall_mem_cons.mpr ⟨⟨rfl, fun s U hW hZ => va_Nw.warmM hW hZ⟩, ?_⟩
  refine List.forall_mem_cons.mpr ⟨⟨rfl, fun s U hW hZ => va_Nw.warmF hW hZ⟩, ?_⟩
  refine List.forall_mem_cons.mpr ⟨⟨rfl, fun s U hW hZ => va_Nw.warmF hW hZ⟩, ?_⟩
  refine List.forall_mem_cons.mpr ⟨⟨rfl, fun s U hW hZ => va_Nw.warmF hW hZ⟩, ?_⟩
  refine List.forall_mem_cons.mpr ⟨⟨rfl, fun s U hW hZ => va_Nw.warmF hW hZ⟩, ?_⟩
  refine List.forall_mem_cons.mpr ⟨⟨rfl, fun s U hW hZ => va_Nw.warmF hW hZ⟩, ?_⟩
  refine List.forall_mem_cons.mpr ⟨⟨rfl, fun s U hW hZ => va_Nw.warmF hW hZ⟩, ?_⟩
  refine List.forall_mem_cons.mpr ⟨⟨rfl, fun s U hW hZ => va_Nw.warmF hW hZ⟩, ?_⟩
  refine List.forall_mem_cons.mpr ⟨⟨rfl, fun s U hW hZ => va_Nw.warmF hW hZ⟩, ?_⟩
  refine List.forall_mem_cons.mpr ⟨⟨rfl, fun s U hW hZ => va_Nw.warmF hW hZ⟩, ?_⟩
  refine List.forall_mem_cons.mpr ⟨⟨rfl, fun s U hW hZ => va_Nw.warmM hW hZ⟩, ?_⟩
  refine List.forall_mem_cons.mpr ⟨⟨rfl, fun s U hW hZ => va_Nw.warmM hW hZ⟩, ?_⟩
  refine List.forall_mem_cons.mpr ⟨⟨rfl, fun s U hW hZ => va_Nw.warmM hW hZ⟩, ?_⟩
  refine List.forall_mem_cons.mpr ⟨⟨rfl, fun s U hW hZ => va_Nw.warmM hW hZ⟩, ?_⟩
  refine List.forall_mem_cons.mpr ⟨⟨rfl, fun s U hW hZ => va_Nw.warmM hW hZ⟩, ?_⟩
  refine List.forall_mem_cons.mpr ⟨⟨rfl, fun s U hW hZ => va_Nw.warmM hW hZ⟩, ?_⟩
  refine List.forall_mem_cons.mpr ⟨⟨rfl, fun s U hW hZ => va_Nw.warmM hW hZ⟩, ?_⟩
  exact fun _ h => absurd h List.not_mem_nil
abbrev fx_K : Type := Launch × va_G × (Nat → ClassId) × (Nat → Nat)
def fx_I (κ : fx_K) (n : Nat) : Prop := ∀ i j, i < n → j < n → κ.2.2.2 i = κ.2.2.2 j → i = j
