/-! tables of the reference, by program -/
abbrev rm_Md_in : Room := { frames := 0, cells := 0, slots := 0, locals := 0 }
def ws_Md_in : List Cond := .code y_Md_in c_Md_in 2 (some .boolean) :: TB
abbrev MC_Md_in (κ : fx_K) : List fx_V → fx_S → (Int32 → fx_S → Prop) → Prop := fx_Met κ.1 κ.2.1 vwCl κ.2.2.1 κ.2.2.2 lyM nwl y_Md_in ws_Md_in rm_Md_in true
def tt_Md_in (κ : fx_K) (post : Int32 → fx_S → Prop) : List (Nat × fx_M fx_S) := [(0, fm_load 0 1),
  (1, fm_load 1 2),
  (2, fm_ishr 3),
  (3, fm_const 1 4),
  (4, fm_iand 5),
  (5, fm_ifeq 12 8),
  (8, fm_const 1 9),
  (9, fm_goto 13),
  (12, fm_const 0 13),
  (13, fm_zret post)]
set_option maxHeartbeats 4000000 in
set_option maxRecDepth 100000 in
theorem mo_Md_in {κ : fx_K} (hq : fx_I κ lyM.length) {av : List fx_V} {S : fx_S} {post : Int32 → fx_S → Prop} (hlen : av.length ≤ 2) (body : ∀ J : fx_J fx_S, (∀ r ∈ tt_Md_in κ post, fx_Snd J r.1 r.2) → (∀ pc k ls st S, J pc (ls.take k) st S → J pc ls st S) → J 0 av [] S) : MC_Md_in κ av S post := by
  refine fx_Met_of (cc := c_Md_in) (nL := 2) (ret := (some .boolean)) (by decide) rfl hq hlen ?_
  intro p e s m args below meth c hC hr hnw
  refine body _ ?_ fx_W_take
  have hF := hC.1
  have hts := hC.1.2.2.2.2
  have hm : ∀ {w : Cond}, w ∈ TB → w.before args s = true := fun h => hts _ (List.mem_cons_of_mem _ h)
  refine List.forall_mem_cons.mpr ⟨fs_load_n hF d_Md_in_0 rfl, ?_⟩
  refine List.forall_mem_cons.mpr ⟨fs_load_n hF d_Md_in_1 rfl, ?_⟩
  refine List.forall_mem_cons.mpr ⟨fs_ishr hF d_Md_in_2, ?_⟩
  refine List.forall_mem_cons.mpr ⟨fs_const hF d_Md_in_3 (by decide), ?_⟩
  refine List.forall_mem_cons.mpr ⟨fs_iand hF d_Md_in_4, ?_⟩
  refine List.forall_mem_cons.mpr ⟨fs_ifeq hF d_Md_in_5 (by decide), ?_⟩
  refine List.forall_mem_cons.mpr ⟨fs_const hF d_Md_in_8 (by decide), ?_⟩
  refine List.forall_mem_cons.mpr ⟨fs_goto hF d_Md_in_9 (by decide), ?_⟩
  refine List.forall_mem_cons.mpr ⟨fs_const hF d_Md_in_12 (by decide), ?_⟩
  refine List.forall_mem_cons.mpr ⟨fs_zret hC hr d_Md_in_13, ?_⟩
  exact fun _ h => absurd h List.not_mem_nil
abbrev rm_Md_isStep : Room := { frames := 0, cells := 0, slots := 0, locals := 0 }
def ws_Md_isStep : List Cond := .code y_Md_isStep c_Md_isStep 2 (some .boolean) :: TB
abbrev MC_Md_isStep (κ : fx_K) : List fx_V → fx_S → (Int32 → fx_S → Prop) → Prop := fx_Met κ.1 κ.2.1 vwCl κ.2.2.1 κ.2.2.2 lyM nwl y_Md_isStep ws_Md_isStep rm_Md_isStep true
def tt_Md_isStep (κ : fx_K) (post : Int32 → fx_S → Prop) : List (Nat × fx_M fx_S) := [(0, fm_load 1 1),
  (1, fm_iflt 16 4),
  (4, fm_load 1 5),
  (5, fm_loada 0 6),
  (6, fm_get 0 0 9),
  (9, fm_cmpge 16 12),
  (12, fm_const 1 13),
  (13, fm_goto 17),
  (16, fm_const 0 17),
  (17, fm_zret post)]
set_option maxHeartbeats 4000000 in
set_option maxRecDepth 100000 in
theorem mo_Md_isStep {κ : fx_K} (hq : fx_I κ lyM.length) {av : List fx_V} {S : fx_S} {post : Int32 → fx_S → Prop} (hlen : av.length ≤ 2) (body : ∀ J : fx_J fx_S, (∀ r ∈ tt_Md_isStep κ post, fx_Snd J r.1 r.2) → (∀ pc k ls st S, J pc (ls.take k) st S → J pc ls st S) → J 0 av [] S) : MC_Md_isStep κ av S post := by
  refine fx_Met_of (cc := c_Md_isStep) (nL := 2) (ret := (some .boolean)) (by decide) rfl hq hlen ?_
  intro p e s m args below meth c hC hr hnw
  refine body _ ?_ fx_W_take
  have hF := hC.1
  have hts := hC.1.2.2.2.2
  have hm : ∀ {w : Cond}, w ∈ TB → w.before args s = true := fun h => hts _ (List.mem_cons_of_mem _ h)
  have g77 : ∀ (Q : State → Prop) (pc : Nat), decode c_Md_isStep pc = .ok (.getfield 77, 3) → fx_Snd (fx_W p κ.1 e rm_Md_isStep s m args below meth c Q (fx_A κ.2.2.2 lyM.length) 0 0 (fx_P κ.2.1 vwCl κ.2.2.1 κ.2.2.2 lyM) κ.2.2.2 2) pc (fm_get 0 0 (pc + 3)) := fun Q pc hd => fs_get hC (cN := 0) (j := 0) (ci := 7) (C := R_Md) (T := T_Md) (N := 43) rfl rfl rfl (by decide) (fun w h => List.mem_cons_of_mem _ (in_Md w h)) (hm wd_539) hd
  refine List.forall_mem_cons.mpr ⟨fs_load_n hF d_Md_isStep_0 rfl, ?_⟩
  refine List.forall_mem_cons.mpr ⟨fs_iflt hF d_Md_isStep_1 (by decide), ?_⟩
  refine List.forall_mem_cons.mpr ⟨fs_load_n hF d_Md_isStep_4 rfl, ?_⟩
  refine List.forall_mem_cons.mpr ⟨fs_loada_n hF d_Md_isStep_5 rfl, ?_⟩
  refine List.forall_mem_cons.mpr ⟨g77 _ 6 d_Md_isStep_6, ?_⟩
  refine List.forall_mem_cons.mpr ⟨fs_cmpge hF d_Md_isStep_9 (by decide), ?_⟩
  refine List.forall_mem_cons.mpr ⟨fs_const hF d_Md_isStep_12 (by decide), ?_⟩
  refine List.forall_mem_cons.mpr ⟨fs_goto hF d_Md_isStep_13 (by decide), ?_⟩
  refine List.forall_mem_cons.mpr ⟨fs_const hF d_Md_isStep_16 (by decide), ?_⟩
  refine List.forall_mem_cons.mpr ⟨fs_zret hC hr d_Md_isStep_17, ?_⟩
  exact fun _ h => absurd h List.not_mem_nil
abbrev rm_Md_isExpression : Room := { frames := 0, cells := 0, slots := 0, locals := 0 }
def ws_Md_isExpression : List Cond := .code y_Md_isExpression c_Md_isExpression 2 (some .boolean) :: TB
abbrev MC_Md_isExpression (κ : fx_K) : List fx_V → fx_S → (Int32 → fx_S → Prop) → Prop := fx_Met κ.1 κ.2.1 vwCl κ.2.2.1 κ.2.2.2 lyM nwl y_Md_isExpression ws_Md_isExpression rm_Md_isExpression true
def tt_Md_isExpression (κ : fx_K) (post : Int32 → fx_S → Prop) : List (Nat × fx_M fx_S) := [(0, fm_load 1 1),
  (1, fm_iflt 16 4),
  (4, fm_load 1 5),
  (5, fm_loada 0 6),
  (6, fm_get 0 3 9),
  (9, fm_cmpge 16 12),
  (12, fm_const 1 13),
  (13, fm_goto 17),
  (16, fm_const 0 17),
  (17, fm_zret post)]
set_option maxHeartbeats 4000000 in
set_option maxRecDepth 100000 in
theorem mo_Md_isExpression {κ : fx_K} (hq : fx_I κ lyM.length) {av : List fx_V} {S : fx_S} {post : Int32 → fx_S → Prop} (hlen : av.length ≤ 2) (body : ∀ J : fx_J fx_S, (∀ r ∈ tt_Md_isExpression κ post, fx_Snd J r.1 r.2) → (∀ pc k ls st S, J pc (ls.take k) st S → J pc ls st S) → J 0 av [] S) : MC_Md_isExpression κ av S post := by
  refine fx_Met_of (cc := c_Md_isExpression) (nL := 2) (ret := (some .boolean)) (by decide) rfl hq hlen ?_
  intro p e s m args below meth c hC hr hnw
  refine body _ ?_ fx_W_take
  have hF := hC.1
  have hts := hC.1.2.2.2.2
  have hm : ∀ {w : Cond}, w ∈ TB → w.before args s = true := fun h => hts _ (List.mem_cons_of_mem _ h)
  have g81 : ∀ (Q : State → Prop) (pc : Nat), decode c_Md_isExpression pc = .ok (.getfield 81, 3) → fx_Snd (fx_W p κ.1 e rm_Md_isExpression s m args below meth c Q (fx_A κ.2.2.2 lyM.length) 0 0 (fx_P κ.2.1 vwCl κ.2.2.1 κ.2.2.2 lyM) κ.2.2.2 2) pc (fm_get 0 3 (pc + 3)) := fun Q pc hd => fs_get hC (cN := 0) (j := 3) (ci := 7) (C := R_Md) (T := T_Md) (N := 43) rfl rfl rfl (by decide) (fun w h => List.mem_cons_of_mem _ (in_Md w h)) (hm wd_542) hd
  refine List.forall_mem_cons.mpr ⟨fs_load_n hF d_Md_isExpression_0 rfl, ?_⟩
  refine List.forall_mem_cons.mpr ⟨fs_iflt hF d_Md_isExpression_1 (by decide), ?_⟩
  refine List.forall_mem_cons.mpr ⟨fs_load_n hF d_Md_isExpression_4 rfl, ?_⟩
  refine List.forall_mem_cons.mpr ⟨fs_loada_n hF d_Md_isExpression_5 rfl, ?_⟩
  refine List.forall_mem_cons.mpr ⟨g81 _ 6 d_Md_isExpression_6, ?_⟩
  refine List.forall_mem_cons.mpr ⟨fs_cmpge hF d_Md_isExpression_9 (by decide), ?_⟩
  refine List.forall_mem_cons.mpr ⟨fs_const hF d_Md_isExpression_12 (by decide), ?_⟩
  refine List.forall_mem_cons.mpr ⟨fs_goto hF d_Md_isExpression_13 (by decide), ?_⟩
  refine List.forall_mem_cons.mpr ⟨fs_const hF d_Md_isExpression_16 (by decide), ?_⟩
  refine List.forall_mem_cons.mpr ⟨fs_zret hC hr d_Md_isExpression_17, ?_⟩
  exact fun _ h => absurd h List.not_mem_nil
abbrev rm_Md_stepsOf : Room := { frames := 0, cells := 0, slots := 0, locals := 0 }
def ws_Md_stepsOf : List Cond := .code y_Md_stepsOf c_Md_stepsOf 4 (some .int) :: TB
abbrev MC_Md_stepsOf (κ : fx_K) : List fx_V → fx_S → (Int32 → fx_S → Prop) → Prop := fx_Met κ.1 κ.2.1 vwCl κ.2.2.1 κ.2.2.2 lyM nwl y_Md_stepsOf ws_Md_stepsOf rm_Md_stepsOf true
def tt_Md_stepsOf (κ : fx_K) (post : Int32 → fx_S → Prop) : List (Nat × fx_M fx_S) := [(0, fm_const 0 1),
  (1, fm_store 2 2),
  (2, fm_const 0 3),
  (3, fm_store 3 4),
  (4, fm_load 3 5),
  (5, fm_loada 0 6),
  (6, fm_get 0 0 9),
  (9, fm_cmpge 38 12),
  (12, fm_loada 0 13),
  (13, fm_getr 0 1 16),
  (16, fm_load 3 17),
  (17, fm_ald lnMI 18),
  (18, fm_load 1 19),
  (19, fm_cmpne 30 22),
  (22, fm_load 2 23),
  (23, fm_const 1 24),
  (24, fm_load 3 25),
  (25, fm_ishl 26),
  (26, fm_ior 27),
  (27, fm_goto 31),
  (30, fm_load 2 31),
  (31, fm_store 2 32),
  (32, fm_inc 3 1 35),
  (35, fm_goto 4),
  (38, fm_load 2 39),
  (39, fm_ret post)]
set_option maxHeartbeats 4000000 in
set_option maxRecDepth 100000 in
theorem mo_Md_stepsOf {κ : fx_K} (hq : fx_I κ lyM.length) {av : List fx_V} {S : fx_S} {post : Int32 → fx_S → Prop} (hlen : av.length ≤ 4) (body : ∀ J : fx_J fx_S, (∀ r ∈ tt_Md_stepsOf κ post, fx_Snd J r.1 r.2) → (∀ pc k ls st S, J pc (ls.take k) st S → J pc ls st S) → J 0 av [] S) : MC_Md_stepsOf κ av S post := by
  refine fx_Met_of (cc := c_Md_stepsOf) (nL := 4) (ret := (some .int)) (by decide) rfl hq hlen ?_
  intro p e s m args below meth c hC hr hnw
  refine body _ ?_ fx_W_take
  have hF := hC.1
  have hts := hC.1.2.2.2.2
  have hm : ∀ {w : Cond}, w ∈ TB → w.before args s = true := fun h => hts _ (List.mem_cons_of_mem _ h)
  have g77 : ∀ (Q : State → Prop) (pc : Nat), decode c_Md_stepsOf pc = .ok (.getfield 77, 3) → fx_Snd (fx_W p κ.1 e rm_Md_stepsOf s m args below meth c Q (fx_A κ.2.2.2 lyM.length) 0 0 (fx_P κ.2.1 vwCl κ.2.2.1 κ.2.2.2 lyM) κ.2.2.2 4) pc (fm_get 0 0 (pc + 3)) := fun Q pc hd => fs_get hC (cN := 0) (j := 0) (ci := 7) (C := R_Md) (T := T_Md) (N := 43) rfl rfl rfl (by decide) (fun w h => List.mem_cons_of_mem _ (in_Md w h)) (hm wd_539) hd
  have g7 : ∀ (Q : State → Prop) (pc : Nat), decode c_Md_stepsOf pc = .ok (.getfield 7, 3) → fx_Snd (fx_W p κ.1 e rm_Md_stepsOf s m args below meth c Q (fx_A κ.2.2.2 lyM.length) 0 0 (fx_P κ.2.1 vwCl κ.2.2.1 κ.2.2.2 lyM) κ.2.2.2 4) pc (fm_getr 0 1 (pc + 3)) := fun Q pc hd => fs_getr hC (cN := 0) (j := 1) (ci := 7) (C := R_Md) (T := T_Md) (N := 43) rfl rfl rfl (by decide) (fun w h => List.mem_cons_of_mem _ (in_Md w h)) (hm wd_540) hd
  refine List.forall_mem_cons.mpr ⟨fs_const hF d_Md_stepsOf_0 (by decide), ?_⟩
  refine List.forall_mem_cons.mpr ⟨fs_store_n hF d_Md_stepsOf_1 rfl (by decide), ?_⟩
  refine List.forall_mem_cons.mpr ⟨fs_const hF d_Md_stepsOf_2 (by decide), ?_⟩
  refine List.forall_mem_cons.mpr ⟨fs_store_n hF d_Md_stepsOf_3 rfl (by decide), ?_⟩
  refine List.forall_mem_cons.mpr ⟨fs_load_n hF d_Md_stepsOf_4 rfl, ?_⟩
  refine List.forall_mem_cons.mpr ⟨fs_loada_n hF d_Md_stepsOf_5 rfl, ?_⟩
  refine List.forall_mem_cons.mpr ⟨g77 _ 6 d_Md_stepsOf_6, ?_⟩
  refine List.forall_mem_cons.mpr ⟨fs_cmpge hF d_Md_stepsOf_9 (by decide), ?_⟩
  refine List.forall_mem_cons.mpr ⟨fs_loada_n hF d_Md_stepsOf_12 rfl, ?_⟩
  refine List.forall_mem_cons.mpr ⟨g7 _ 13 d_Md_stepsOf_13, ?_⟩
  refine List.forall_mem_cons.mpr ⟨fs_load_n hF d_Md_stepsOf_16 rfl, ?_⟩
  refine List.forall_mem_cons.mpr ⟨fs_ald hC lkMI d_Md_stepsOf_17, ?_⟩
  refine List.forall_mem_cons.mpr ⟨fs_load_n hF d_Md_stepsOf_18 rfl, ?_⟩
  refine List.forall_mem_cons.mpr ⟨fs_cmpne hF d_Md_stepsOf_19 (by decide), ?_⟩
  refine List.forall_mem_cons.mpr ⟨fs_load_n hF d_Md_stepsOf_22 rfl, ?_⟩
  refine List.forall_mem_cons.mpr ⟨fs_const hF d_Md_stepsOf_23 (by decide), ?_⟩
  refine List.forall_mem_cons.mpr ⟨fs_load_n hF d_Md_stepsOf_24 rfl, ?_⟩
  refine List.forall_mem_cons.mpr ⟨fs_ishl hF d_Md_stepsOf_25, ?_⟩
  refine List.forall_mem_cons.mpr ⟨fs_ior hF d_Md_stepsOf_26, ?_⟩
  refine List.forall_mem_cons.mpr ⟨fs_goto hF d_Md_stepsOf_27 (by decide), ?_⟩
  refine List.forall_mem_cons.mpr ⟨fs_load_n hF d_Md_stepsOf_30 rfl, ?_⟩
  refine List.forall_mem_cons.mpr ⟨fs_store_n hF d_Md_stepsOf_31 rfl (by decide), ?_⟩
  refine List.forall_mem_cons.mpr ⟨fs_inc hF d_Md_stepsOf_32 (by decide) (by decide), ?_⟩
  refine List.forall_mem_cons.mpr ⟨fs_goto hF d_Md_stepsOf_35 (by decide), ?_⟩
  refine List.forall_mem_cons.mpr ⟨fs_load_n hF d_Md_stepsOf_38 rfl, ?_⟩
  refine List.forall_mem_cons.mpr ⟨fs_ret hC hr d_Md_stepsOf_39, ?_⟩
  exact fun _ h => absurd h List.not_mem_nil
abbrev rm_Md_step : Room := { frames := 0, cells := 0, slots := 0, locals := 0 }
def ws_Md_step : List Cond := .code y_Md_step c_Md_step 3 (some .int) :: TB
abbrev MC_Md_step (κ : fx_K) : List fx_V → fx_S → (Int32 → fx_S → Prop) → Prop := fx_Met κ.1 κ.2.1 vwCl κ.2.2.1 κ.2.2.2 lyM nwl y_Md_step ws_Md_step rm_Md_step true
def tt_Md_step (κ : fx_K) (post : Int32 → fx_S → Prop) : List (Nat × fx_M fx_S) := [(0, fm_loada 0 1),
  (1, fm_get 0 24 4),
  (4, fm_ifne 25 7),
  (7, fm_load 1 8),
  (8, fm_iflt 25 11),
  (11, fm_load 1 12),
  (12, fm_const 2 13),
  (13, fm_cmpgt 25 16),
  (16, fm_loada 0 17),
  (17, fm_get 0 0 20),
  (20, fm_const 8 22),
  (22, fm_cmplt 28 25),
  (25, fm_const (-2) 27),
  (27, fm_ret post),
  (28, fm_loada 0 29),
  (29, fm_getr 0 1 32),
  (32, fm_loada 0 33),
  (33, fm_get 0 0 36),
  (36, fm_load 1 37),
  (37, fm_ast lnMI 38),
  (38, fm_loada 0 39),
  (39, fm_getr 0 2 42),
  (42, fm_loada 0 43),
  (43, fm_get 0 0 46),
  (46, fm_load 2 47),
  (47, fm_zast lnMZ 48),
  (48, fm_loada 0 49),
  (49, fm_dup 50),
  (50, fm_get 0 0 53),
  (53, fm_const 1 54),
  (54, fm_iadd 55),
  (55, fm_put 0 0 58),
  (58, fm_loada 0 59),
  (59, fm_get 0 0 62),
  (62, fm_const 1 63),
  (63, fm_isub 64),
  (64, fm_ret post)]
set_option maxHeartbeats 4000000 in
set_option maxRecDepth 100000 in
theorem mo_Md_step {κ : fx_K} (hq : fx_I κ lyM.length) {av : List fx_V} {S : fx_S} {post : Int32 → fx_S → Prop} (hlen : av.length ≤ 3) (body : ∀ J : fx_J fx_S, (∀ r ∈ tt_Md_step κ post, fx_Snd J r.1 r.2) → (∀ pc k ls st S, J pc (ls.take k) st S → J pc ls st S) → J 0 av [] S) : MC_Md_step κ av S post := by
  refine fx_Met_of (cc := c_Md_step) (nL := 3) (ret := (some .int)) (by decide) rfl hq hlen ?_
  intro p e s m args below meth c hC hr hnw
  refine body _ ?_ fx_W_take
  have hF := hC.1
  have hts := hC.1.2.2.2.2
  have hm : ∀ {w : Cond}, w ∈ TB → w.before args s = true := fun h => hts _ (List.mem_cons_of_mem _ h)
  have g84 : ∀ (Q : State → Prop) (pc : Nat), decode c_Md_step pc = .ok (.getfield 84, 3) → fx_Snd (fx_W p κ.1 e rm_Md_step s m args below meth c Q (fx_A κ.2.2.2 lyM.length) 0 0 (fx_P κ.2.1 vwCl κ.2.2.1 κ.2.2.2 lyM) κ.2.2.2 3) pc (fm_get 0 24 (pc + 3)) := fun Q pc hd => fs_get hC (cN := 0) (j := 24) (ci := 7) (C := R_Md) (T := T_Md) (N := 43) rfl rfl rfl (by decide) (fun w h => List.mem_cons_of_mem _ (in_Md w h)) (hm wd_563) hd
  have g77 : ∀ (Q : State → Prop) (pc : Nat), decode c_Md_step pc = .ok (.getfield 77, 3) → fx_Snd (fx_W p κ.1 e rm_Md_step s m args below meth c Q (fx_A κ.2.2.2 lyM.length) 0 0 (fx_P κ.2.1 vwCl κ.2.2.1 κ.2.2.2 lyM) κ.2.2.2 3) pc (fm_get 0 0 (pc + 3)) := fun Q pc hd => fs_get hC (cN := 0) (j := 0) (ci := 7) (C := R_Md) (T := T_Md) (N := 43) rfl rfl rfl (by decide) (fun w h => List.mem_cons_of_mem _ (in_Md w h)) (hm wd_539) hd
  have g7 : ∀ (Q : State → Prop) (pc : Nat), decode c_Md_step pc = .ok (.getfield 7, 3) → fx_Snd (fx_W p κ.1 e rm_Md_step s m args below meth c Q (fx_A κ.2.2.2 lyM.length) 0 0 (fx_P κ.2.1 vwCl κ.2.2.1 κ.2.2.2 lyM) κ.2.2.2 3) pc (fm_getr 0 1 (pc + 3)) := fun Q pc hd => fs_getr hC (cN := 0) (j := 1) (ci := 7) (C := R_Md) (T := T_Md) (N := 43) rfl rfl rfl (by decide) (fun w h => List.mem_cons_of_mem _ (in_Md w h)) (hm wd_540) hd
  have g13 : ∀ (Q : State → Prop) (pc : Nat), decode c_Md_step pc = .ok (.getfield 13, 3) → fx_Snd (fx_W p κ.1 e rm_Md_step s m args below meth c Q (fx_A κ.2.2.2 lyM.length) 0 0 (fx_P κ.2.1 vwCl κ.2.2.1 κ.2.2.2 lyM) κ.2.2.2 3) pc (fm_getr 0 2 (pc + 3)) := fun Q pc hd => fs_getr hC (cN := 0) (j := 2) (ci := 7) (C := R_Md) (T := T_Md) (N := 43) rfl rfl rfl (by decide) (fun w h => List.mem_cons_of_mem _ (in_Md w h)) (hm wd_541) hd
  refine List.forall_mem_cons.mpr ⟨fs_loada_n hF d_Md_step_0 rfl, ?_⟩
  refine List.forall_mem_cons.mpr ⟨g84 _ 1 d_Md_step_1, ?_⟩
  refine List.forall_mem_cons.mpr ⟨fs_ifne hF d_Md_step_4 (by decide), ?_⟩
  refine List.forall_mem_cons.mpr ⟨fs_load_n hF d_Md_step_7 rfl, ?_⟩
  refine List.forall_mem_cons.mpr ⟨fs_iflt hF d_Md_step_8 (by decide), ?_⟩
  refine List.forall_mem_cons.mpr ⟨fs_load_n hF d_Md_step_11 rfl, ?_⟩
  refine List.forall_mem_cons.mpr ⟨fs_const hF d_Md_step_12 (by decide), ?_⟩
  refine List.forall_mem_cons.mpr ⟨fs_cmpgt hF d_Md_step_13 (by decide), ?_⟩
  refine List.forall_mem_cons.mpr ⟨fs_loada_n hF d_Md_step_16 rfl, ?_⟩
  refine List.forall_mem_cons.mpr ⟨g77 _ 17 d_Md_step_17, ?_⟩
  refine List.forall_mem_cons.mpr ⟨fs_bipush hF d_Md_step_20 (by decide), ?_⟩
  refine List.forall_mem_cons.mpr ⟨fs_cmplt hF d_Md_step_22 (by decide), ?_⟩
  refine List.forall_mem_cons.mpr ⟨fs_bipush hF d_Md_step_25 (by decide), ?_⟩
  refine List.forall_mem_cons.mpr ⟨fs_ret hC hr d_Md_step_27, ?_⟩
  refine List.forall_mem_cons.mpr ⟨fs_loada_n hF d_Md_step_28 rfl, ?_⟩
  refine List.forall_mem_cons.mpr ⟨g7 _ 29 d_Md_step_29, ?_⟩
  refine List.forall_mem_cons.mpr ⟨fs_loada_n hF d_Md_step_32 rfl, ?_⟩
  refine List.forall_mem_cons.mpr ⟨g77 _ 33 d_Md_step_33, ?_⟩
  refine List.forall_mem_cons.mpr ⟨fs_load_n hF d_Md_step_36 rfl, ?_⟩
  refine List.forall_mem_cons.mpr ⟨fs_ast hC lkMI d_Md_step_37, ?_⟩
  refine List.forall_mem_cons.mpr ⟨fs_loada_n hF d_Md_step_38 rfl, ?_⟩
  refine List.forall_mem_cons.mpr ⟨g13 _ 39 d_Md_step_39, ?_⟩
  refine List.forall_mem_cons.mpr ⟨fs_loada_n hF d_Md_step_42 rfl, ?_⟩
  refine List.forall_mem_cons.mpr ⟨g77 _ 43 d_Md_step_43, ?_⟩
  refine List.forall_mem_cons.mpr ⟨fs_load_n hF d_Md_step_46 rfl, ?_⟩
  refine List.forall_mem_cons.mpr ⟨fs_zast hC lkMZ d_Md_step_47, ?_⟩
  refine List.forall_mem_cons.mpr ⟨fs_loada_n hF d_Md_step_48 rfl, ?_⟩
  refine List.forall_mem_cons.mpr ⟨fs_dup hF d_Md_step_49, ?_⟩
  refine List.forall_mem_cons.mpr ⟨g77 _ 50 d_Md_step_50, ?_⟩
  refine List.forall_mem_cons.mpr ⟨fs_const hF d_Md_step_53 (by decide), ?_⟩
  refine List.forall_mem_cons.mpr ⟨fs_iadd hF d_Md_step_54, ?_⟩
  refine List.forall_mem_cons.mpr ⟨fs_put hC (cN := 0) (j := 0) (ci := 7) (C := R_Md) (T := T_Md) (N := 43) rfl rfl rfl (by decide) ty_Md tk_Md nm_Md rfl (by decide +kernel) (fun w h => List.mem_cons_of_mem _ (in_Md w h)) (hm wd_539) d_Md_step_55, ?_⟩
  refine List.forall_mem_cons.mpr ⟨fs_loada_n hF d_Md_step_58 rfl, ?_⟩
  refine List.forall_mem_cons.mpr ⟨g77 _ 59 d_Md_step_59, ?_⟩
  refine List.forall_mem_cons.mpr ⟨fs_const hF d_Md_step_62 (by decide), ?_⟩
  refine List.forall_mem_cons.mpr ⟨fs_isub hF d_Md_step_63, ?_⟩
  refine List.forall_mem_cons.mpr ⟨fs_ret hC hr d_Md_step_64, ?_⟩
  exact fun _ h => absurd h List.not_mem_nil
abbrev rm_Md_fits : Room := { frames := 1, cells := 0, slots := 0, locals := 21 }
def ws_Md_fits : List Cond := .code y_Md_fits c_Md_fits 4 (some .boolean) :: TB
abbrev MC_Md_fits (κ : fx_K) : List fx_V → fx_S → (Int32 → fx_S → Prop) → Prop := fx_Met κ.1 κ.2.1 vwCl κ.2.2.1 κ.2.2.2 lyM nwl y_Md_fits ws_Md_fits rm_Md_fits true
def tt_Md_fits (κ : fx_K) (post : Int32 → fx_S → Prop) : List (Nat × fx_M fx_S) := [(0, fm_load 1 1),
  (1, fm_const 2 2),
  (2, fm_cmpgt 21 5),
  (5, fm_load 2 6),
  (6, fm_iflt 19 9),
  (9, fm_load 2 10),
  (10, fm_const 7 12),
  (12, fm_cmpgt 19 15),
  (15, fm_const 1 16),
  (16, fm_goto 20),
  (19, fm_const 0 20),
  (20, fm_zret post),
  (21, fm_load 1 22),
  (22, fm_const 3 23),
  (23, fm_cmpne 32 26),
  (26, fm_loada 0 27),
  (27, fm_load 2 28),
  (28, fm_call true 0 1 (MC_Md_isStep κ) 31),
  (31, fm_zret post),
  (32, fm_load 1 33),
  (33, fm_const 4 34),
  (34, fm_cmpne 61 37),
  (37, fm_loada 0 38),
  (38, fm_load 2 39),
  (39, fm_call true 0 1 (MC_Md_isStep κ) 42),
  (42, fm_ifeq 59 45),
  (45, fm_load 3 46),
  (46, fm_iflt 59 49),
  (49, fm_load 3 50),
  (50, fm_const 1000000 52),
  (52, fm_cmpgt 59 55),
  (55, fm_const 1 56),
  (56, fm_goto 60),
  (59, fm_const 0 60),
  (60, fm_zret post),
  (61, fm_loada 0 62),
  (62, fm_load 2 63),
  (63, fm_call true 0 1 (MC_Md_isExpression κ) 66),
  (66, fm_ifeq 86 69),
  (69, fm_load 1 70),
  (70, fm_const 5 71),
  (71, fm_cmpeq 82 74),
  (74, fm_loada 0 75),
  (75, fm_load 3 76),
  (76, fm_call true 0 1 (MC_Md_isExpression κ) 79),
  (79, fm_ifeq 86 82),
  (82, fm_const 1 83),
  (83, fm_goto 87),
  (86, fm_const 0 87),
  (87, fm_zret post)]
set_option maxHeartbeats 4000000 in
set_option maxRecDepth 100000 in
theorem mo_Md_fits {κ : fx_K} (hq : fx_I κ lyM.length) {av : List fx_V} {S : fx_S} {post : Int32 → fx_S → Prop} (hlen : av.length ≤ 4) (body : ∀ J : fx_J fx_S, (∀ r ∈ tt_Md_fits κ post, fx_Snd J r.1 r.2) → (∀ pc k ls st S, J pc (ls.take k) st S → J pc ls st S) → J 0 av [] S) : MC_Md_fits κ av S post := by
  refine fx_Met_of (cc := c_Md_fits) (nL := 4) (ret := (some .boolean)) (by decide) rfl hq hlen ?_
  intro p e s m args below meth c hC hr hnw
  refine body _ ?_ fx_W_take
  have hF := hC.1
  have hts := hC.1.2.2.2.2
  have hm : ∀ {w : Cond}, w ∈ TB → w.before args s = true := fun h => hts _ (List.mem_cons_of_mem _ h)
  refine List.forall_mem_cons.mpr ⟨fs_load_n hF d_Md_fits_0 rfl, ?_⟩
  refine List.forall_mem_cons.mpr ⟨fs_const hF d_Md_fits_1 (by decide), ?_⟩
  refine List.forall_mem_cons.mpr ⟨fs_cmpgt hF d_Md_fits_2 (by decide), ?_⟩
  refine List.forall_mem_cons.mpr ⟨fs_load_n hF d_Md_fits_5 rfl, ?_⟩
  refine List.forall_mem_cons.mpr ⟨fs_iflt hF d_Md_fits_6 (by decide), ?_⟩
  refine List.forall_mem_cons.mpr ⟨fs_load_n hF d_Md_fits_9 rfl, ?_⟩
  refine List.forall_mem_cons.mpr ⟨fs_bipush hF d_Md_fits_10 (by decide), ?_⟩
  refine List.forall_mem_cons.mpr ⟨fs_cmpgt hF d_Md_fits_12 (by decide), ?_⟩
  refine List.forall_mem_cons.mpr ⟨fs_const hF d_Md_fits_15 (by decide), ?_⟩
  refine List.forall_mem_cons.mpr ⟨fs_goto hF d_Md_fits_16 (by decide), ?_⟩
  refine List.forall_mem_cons.mpr ⟨fs_const hF d_Md_fits_19 (by decide), ?_⟩
  refine List.forall_mem_cons.mpr ⟨fs_zret hC hr d_Md_fits_20, ?_⟩
  refine List.forall_mem_cons.mpr ⟨fs_load_n hF d_Md_fits_21 rfl, ?_⟩
  refine List.forall_mem_cons.mpr ⟨fs_const hF d_Md_fits_22 (by decide), ?_⟩
  refine List.forall_mem_cons.mpr ⟨fs_cmpne hF d_Md_fits_23 (by decide), ?_⟩
  refine List.forall_mem_cons.mpr ⟨fs_loada_n hF d_Md_fits_26 rfl, ?_⟩
  refine List.forall_mem_cons.mpr ⟨fs_load_n hF d_Md_fits_27 rfl, ?_⟩
  refine List.forall_mem_cons.mpr ⟨fs_callV hC nwl_ok hnw (cN := 0) (ci := 7) (C := R_Md) rfl rfl ⟨callB_of 1 hts (tb_good wd_685) rfl rfl rfl (hm wd_39) (hm wd_682) pd_Md_isStep ⟨Nat.le_of_ble_eq_true rfl, Nat.le_of_ble_eq_true rfl⟩, hm wd_684, hm wd_13⟩ d_Md_fits_28, ?_⟩
  refine List.forall_mem_cons.mpr ⟨fs_zret hC hr d_Md_fits_31, ?_⟩
  refine List.forall_mem_cons.mpr ⟨fs_load_n hF d_Md_fits_32 rfl, ?_⟩
  refine List.forall_mem_cons.mpr ⟨fs_const hF d_Md_fits_33 (by decide), ?_⟩
  refine List.forall_mem_cons.mpr ⟨fs_cmpne hF d_Md_fits_34 (by decide), ?_⟩
  refine List.forall_mem_cons.mpr ⟨fs_loada_n hF d_Md_fits_37 rfl, ?_⟩
  refine List.forall_mem_cons.mpr ⟨fs_load_n hF d_Md_fits_38 rfl, ?_⟩
  refine List.forall_mem_cons.mpr ⟨fs_callV hC nwl_ok hnw (cN := 0) (ci := 7) (C := R_Md) rfl rfl ⟨callB_of 1 hts (tb_good wd_685) rfl rfl rfl (hm wd_39) (hm wd_682) pd_Md_isStep ⟨Nat.le_of_ble_eq_true rfl, Nat.le_of_ble_eq_true rfl⟩, hm wd_684, hm wd_13⟩ d_Md_fits_39, ?_⟩
  refine List.forall_mem_cons.mpr ⟨fs_ifeq hF d_Md_fits_42 (by decide), ?_⟩
  refine List.forall_mem_cons.mpr ⟨fs_load_n hF d_Md_fits_45 rfl, ?_⟩
  refine List.forall_mem_cons.mpr ⟨fs_iflt hF d_Md_fits_46 (by decide), ?_⟩
  refine List.forall_mem_cons.mpr ⟨fs_load_n hF d_Md_fits_49 rfl, ?_⟩
  refine List.forall_mem_cons.mpr ⟨fs_ldc hF (hm wd_686) d_Md_fits_50, ?_⟩
  refine List.forall_mem_cons.mpr ⟨fs_cmpgt hF d_Md_fits_52 (by decide), ?_⟩
  refine List.forall_mem_cons.mpr ⟨fs_const hF d_Md_fits_55 (by decide), ?_⟩
  refine List.forall_mem_cons.mpr ⟨fs_goto hF d_Md_fits_56 (by decide), ?_⟩
  refine List.forall_mem_cons.mpr ⟨fs_const hF d_Md_fits_59 (by decide), ?_⟩
  refine List.forall_mem_cons.mpr ⟨fs_zret hC hr d_Md_fits_60, ?_⟩
  refine List.forall_mem_cons.mpr ⟨fs_loada_n hF d_Md_fits_61 rfl, ?_⟩
  refine List.forall_mem_cons.mpr ⟨fs_load_n hF d_Md_fits_62 rfl, ?_⟩
  refine List.forall_mem_cons.mpr ⟨fs_callV hC nwl_ok hnw (cN := 0) (ci := 7) (C := R_Md) rfl rfl ⟨callB_of 1 hts (tb_good wd_690) rfl rfl rfl (hm wd_39) (hm wd_687) pd_Md_isExpression ⟨Nat.le_of_ble_eq_true rfl, Nat.le_of_ble_eq_true rfl⟩, hm wd_689, hm wd_14⟩ d_Md_fits_63, ?_⟩
  refine List.forall_mem_cons.mpr ⟨fs_ifeq hF d_Md_fits_66 (by decide), ?_⟩
  refine List.forall_mem_cons.mpr ⟨fs_load_n hF d_Md_fits_69 rfl, ?_⟩
  refine List.forall_mem_cons.mpr ⟨fs_const hF d_Md_fits_70 (by decide), ?_⟩
  refine List.forall_mem_cons.mpr ⟨fs_cmpeq hF d_Md_fits_71 (by decide), ?_⟩
  refine List.forall_mem_cons.mpr ⟨fs_loada_n hF d_Md_fits_74 rfl, ?_⟩
  refine List.forall_mem_cons.mpr ⟨fs_load_n hF d_Md_fits_75 rfl, ?_⟩
  refine List.forall_mem_cons.mpr ⟨fs_callV hC nwl_ok hnw (cN := 0) (ci := 7) (C := R_Md) rfl rfl ⟨callB_of 1 hts (tb_good wd_690) rfl rfl rfl (hm wd_39) (hm wd_687) pd_Md_isExpression ⟨Nat.le_of_ble_eq_true rfl, Nat.le_of_ble_eq_true rfl⟩, hm wd_689, hm wd_14⟩ d_Md_fits_76, ?_⟩
  refine List.forall_mem_cons.mpr ⟨fs_ifeq hF d_Md_fits_79 (by decide), ?_⟩
  refine List.forall_mem_cons.mpr ⟨fs_const hF d_Md_fits_82 (by decide), ?_⟩
  refine List.forall_mem_cons.mpr ⟨fs_goto hF d_Md_fits_83 (by decide), ?_⟩
  refine List.forall_mem_cons.mpr ⟨fs_const hF d_Md_fits_86 (by decide), ?_⟩
  refine List.forall_mem_cons.mpr ⟨fs_zret hC hr d_Md_fits_87, ?_⟩
  exact fun _ h => absurd h List.not_mem_nil
abbrev rm_Md_expression : Room := { frames := 2, cells := 0, slots := 0, locals := 44 }
def ws_Md_expression : List Cond := .code y_Md_expression c_Md_expression 5 (some .int) :: TB
abbrev MC_Md_expression (κ : fx_K) : List fx_V → fx_S → (Int32 → fx_S → Prop) → Prop := fx_Met κ.1 κ.2.1 vwCl κ.2.2.1 κ.2.2.2 lyM nwl y_Md_expression ws_Md_expression rm_Md_expression true
def tt_Md_expression (κ : fx_K) (post : Int32 → fx_S → Prop) : List (Nat × fx_M fx_S) := [(0, fm_loada 0 1),
  (1, fm_get 0 24 4),
  (4, fm_ifne 36 7),
  (7, fm_loada 0 8),
  (8, fm_get 0 3 11),
  (11, fm_const 24 13),
  (13, fm_cmpge 36 16),
  (16, fm_load 1 17),
  (17, fm_iflt 36 20),
  (20, fm_load 1 21),
  (21, fm_const 7 23),
  (23, fm_cmpgt 36 26),
  (26, fm_loada 0 27),
  (27, fm_load 1 28),
  (28, fm_load 2 29),
  (29, fm_load 3 30),
  (30, fm_call true 0 3 (MC_Md_fits κ) 33),
  (33, fm_ifne 39 36),
  (36, fm_const (-2) 38),
  (38, fm_ret post),
  (39, fm_const 0 40),
  (40, fm_store 4 42),
  (42, fm_load 1 43),
  (43, fm_const 5 44),
  (44, fm_cmplt 57 47),
  (47, fm_loada 0 48),
  (48, fm_getr 0 6 51),
  (51, fm_load 2 52),
  (52, fm_ald lnMI 53),
  (53, fm_const 1 54),
  (54, fm_iadd 55),
  (55, fm_store 4 57),
  (57, fm_load 1 58),
  (58, fm_const 6 60),
  (60, fm_cmplt 84 63),
  (63, fm_loada 0 64),
  (64, fm_getr 0 6 67),
  (67, fm_load 3 68),
  (68, fm_ald lnMI 69),
  (69, fm_load 4 71),
  (71, fm_cmplt 84 74),
  (74, fm_loada 0 75),
  (75, fm_getr 0 6 78),
  (78, fm_load 3 79),
  (79, fm_ald lnMI 80),
  (80, fm_const 1 81),
  (81, fm_iadd 82),
  (82, fm_store 4 84),
  (84, fm_load 4 86),
  (86, fm_const 4 87),
  (87, fm_cmple 93 90),
  (90, fm_const (-2) 92),
  (92, fm_ret post),
  (93, fm_loada 0 94),
  (94, fm_getr 0 3 97),
  (97, fm_loada 0 98),
  (98, fm_get 0 3 101),
  (101, fm_load 1 102),
  (102, fm_ast lnMI 103),
  (103, fm_loada 0 104),
  (104, fm_getr 0 4 107),
  (107, fm_loada 0 108),
  (108, fm_get 0 3 111),
  (111, fm_load 2 112),
  (112, fm_ast lnMI 113),
  (113, fm_loada 0 114),
  (114, fm_getr 0 5 117),
  (117, fm_loada 0 118),
  (118, fm_get 0 3 121),
  (121, fm_load 3 122),
  (122, fm_ast lnMI 123),
  (123, fm_loada 0 124),
  (124, fm_getr 0 6 127),
  (127, fm_loada 0 128),
  (128, fm_get 0 3 131),
  (131, fm_load 4 133),
  (133, fm_ast lnMI 134),
  (134, fm_loada 0 135),
  (135, fm_dup 136),
  (136, fm_get 0 3 139),
  (139, fm_const 1 140),
  (140, fm_iadd 141),
  (141, fm_put 0 3 144),
  (144, fm_loada 0 145),
  (145, fm_get 0 3 148),
  (148, fm_const 1 149),
  (149, fm_isub 150),
  (150, fm_ret post)]
set_option maxHeartbeats 4000000 in
set_option maxRecDepth 100000 in
theorem mo_Md_expression {κ : fx_K} (hq : fx_I κ lyM.length) {av : List fx_V} {S : fx_S} {post : Int32 → fx_S → Prop} (hlen : av.length ≤ 5) (body : ∀ J : fx_J fx_S, (∀ r ∈ tt_Md_expression κ post, fx_Snd J r.1 r.2) → (∀ pc k ls st S, J pc (ls.take k) st S → J pc ls st S) → J 0 av [] S) : MC_Md_expression κ av S post := by
  refine fx_Met_of (cc := c_Md_expression) (nL := 5) (ret := (some .int)) (by decide) rfl hq hlen ?_
  intro p e s m args below meth c hC hr hnw
  refine body _ ?_ fx_W_take
  have hF := hC.1
  have hts := hC.1.2.2.2.2
  have hm : ∀ {w : Cond}, w ∈ TB → w.before args s = true := fun h => hts _ (List.mem_cons_of_mem _ h)
  have g84 : ∀ (Q : State → Prop) (pc : Nat), decode c_Md_expression pc = .ok (.getfield 84, 3) → fx_Snd (fx_W p κ.1 e rm_Md_expression s m args below meth c Q (fx_A κ.2.2.2 lyM.length) 0 0 (fx_P κ.2.1 vwCl κ.2.2.1 κ.2.2.2 lyM) κ.2.2.2 5) pc (fm_get 0 24 (pc + 3)) := fun Q pc hd => fs_get hC (cN := 0) (j := 24) (ci := 7) (C := R_Md) (T := T_Md) (N := 43) rfl rfl rfl (by decide) (fun w h => List.mem_cons_of_mem _ (in_Md w h)) (hm wd_563) hd
  have g81 : ∀ (Q : State → Prop) (pc : Nat), decode c_Md_expression pc = .ok (.getfield 81, 3) → fx_Snd (fx_W p κ.1 e rm_Md_expression s m args below meth c Q (fx_A κ.2.2.2 lyM.length) 0 0 (fx_P κ.2.1 vwCl κ.2.2.1 κ.2.2.2 lyM) κ.2.2.2 5) pc (fm_get 0 3 (pc + 3)) := fun Q pc hd => fs_get hC (cN := 0) (j := 3) (ci := 7) (C := R_Md) (T := T_Md) (N := 43) rfl rfl rfl (by decide) (fun w h => List.mem_cons_of_mem _ (in_Md w h)) (hm wd_542) hd
  have g26 : ∀ (Q : State → Prop) (pc : Nat), decode c_Md_expression pc = .ok (.getfield 26, 3) → fx_Snd (fx_W p κ.1 e rm_Md_expression s m args below meth c Q (fx_A κ.2.2.2 lyM.length) 0 0 (fx_P κ.2.1 vwCl κ.2.2.1 κ.2.2.2 lyM) κ.2.2.2 5) pc (fm_getr 0 6 (pc + 3)) := fun Q pc hd => fs_getr hC (cN := 0) (j := 7) (ci := 7) (C := R_Md) (T := T_Md) (N := 43) rfl rfl rfl (by decide) (fun w h => List.mem_cons_of_mem _ (in_Md w h)) (hm wd_546) hd
  have g17 : ∀ (Q : State → Prop) (pc : Nat), decode c_Md_expression pc = .ok (.getfield 17, 3) → fx_Snd (fx_W p κ.1 e rm_Md_expression s m args below meth c Q (fx_A κ.2.2.2 lyM.length) 0 0 (fx_P κ.2.1 vwCl κ.2.2.1 κ.2.2.2 lyM) κ.2.2.2 5) pc (fm_getr 0 3 (pc + 3)) := fun Q pc hd => fs_getr hC (cN := 0) (j := 4) (ci := 7) (C := R_Md) (T := T_Md) (N := 43) rfl rfl rfl (by decide) (fun w h => List.mem_cons_of_mem _ (in_Md w h)) (hm wd_543) hd
  have g20 : ∀ (Q : State → Prop) (pc : Nat), decode c_Md_expression pc = .ok (.getfield 20, 3) → fx_Snd (fx_W p κ.1 e rm_Md_expression s m args below meth c Q (fx_A κ.2.2.2 lyM.length) 0 0 (fx_P κ.2.1 vwCl κ.2.2.1 κ.2.2.2 lyM) κ.2.2.2 5) pc (fm_getr 0 4 (pc + 3)) := fun Q pc hd => fs_getr hC (cN := 0) (j := 5) (ci := 7) (C := R_Md) (T := T_Md) (N := 43) rfl rfl rfl (by decide) (fun w h => List.mem_cons_of_mem _ (in_Md w h)) (hm wd_544) hd
  have g23 : ∀ (Q : State → Prop) (pc : Nat), decode c_Md_expression pc = .ok (.getfield 23, 3) → fx_Snd (fx_W p κ.1 e rm_Md_expression s m args below meth c Q (fx_A κ.2.2.2 lyM.length) 0 0 (fx_P κ.2.1 vwCl κ.2.2.1 κ.2.2.2 lyM) κ.2.2.2 5) pc (fm_getr 0 5 (pc + 3)) := fun Q pc hd => fs_getr hC (cN := 0) (j := 6) (ci := 7) (C := R_Md) (T := T_Md) (N := 43) rfl rfl rfl (by decide) (fun w h => List.mem_cons_of_mem _ (in_Md w h)) (hm wd_545) hd
  refine List.forall_mem_cons.mpr ⟨fs_loada_n hF d_Md_expression_0 rfl, ?_⟩
  refine List.forall_mem_cons.mpr ⟨g84 _ 1 d_Md_expression_1, ?_⟩
  refine List.forall_mem_cons.mpr ⟨fs_ifne hF d_Md_expression_4 (by decide), ?_⟩
  refine List.forall_mem_cons.mpr ⟨fs_loada_n hF d_Md_expression_7 rfl, ?_⟩
  refine List.forall_mem_cons.mpr ⟨g81 _ 8 d_Md_expression_8, ?_⟩
  refine List.forall_mem_cons.mpr ⟨fs_bipush hF d_Md_expression_11 (by decide), ?_⟩
  refine List.forall_mem_cons.mpr ⟨fs_cmpge hF d_Md_expression_13 (by decide), ?_⟩
  refine List.forall_mem_cons.mpr ⟨fs_load_n hF d_Md_expression_16 rfl, ?_⟩
  refine List.forall_mem_cons.mpr ⟨fs_iflt hF d_Md_expression_17 (by decide), ?_⟩
  refine List.forall_mem_cons.mpr ⟨fs_load_n hF d_Md_expression_20 rfl, ?_⟩
  refine List.forall_mem_cons.mpr ⟨fs_bipush hF d_Md_expression_21 (by decide), ?_⟩
  refine List.forall_mem_cons.mpr ⟨fs_cmpgt hF d_Md_expression_23 (by decide), ?_⟩
  refine List.forall_mem_cons.mpr ⟨fs_loada_n hF d_Md_expression_26 rfl, ?_⟩
  refine List.forall_mem_cons.mpr ⟨fs_load_n hF d_Md_expression_27 rfl, ?_⟩
  refine List.forall_mem_cons.mpr ⟨fs_load_n hF d_Md_expression_28 rfl, ?_⟩
  refine List.forall_mem_cons.mpr ⟨fs_load_n hF d_Md_expression_29 rfl, ?_⟩
  refine List.forall_mem_cons.mpr ⟨fs_callV hC nwl_ok hnw (cN := 0) (ci := 7) (C := R_Md) rfl rfl ⟨callB_of 3 hts (tb_good wd_681) rfl rfl rfl (hm wd_39) (hm wd_678) pd_Md_fits ⟨Nat.le_of_ble_eq_true rfl, Nat.le_of_ble_eq_true rfl⟩, hm wd_680, hm wd_12⟩ d_Md_expression_30, ?_⟩
  refine List.forall_mem_cons.mpr ⟨fs_ifne hF d_Md_expression_33 (by decide), ?_⟩
  refine List.forall_mem_cons.mpr ⟨fs_bipush hF d_Md_expression_36 (by decide), ?_⟩
  refine List.forall_mem_cons.mpr ⟨fs_ret hC hr d_Md_expression_38, ?_⟩
  refine List.forall_mem_cons.mpr ⟨fs_const hF d_Md_expression_39 (by decide), ?_⟩
  refine List.forall_mem_cons.mpr ⟨fs_store hF d_Md_expression_40 (by decide), ?_⟩
  refine List.forall_mem_cons.mpr ⟨fs_load_n hF d_Md_expression_42 rfl, ?_⟩
  refine List.forall_mem_cons.mpr ⟨fs_const hF d_Md_expression_43 (by decide), ?_⟩
  refine List.forall_mem_cons.mpr ⟨fs_cmplt hF d_Md_expression_44 (by decide), ?_⟩
  refine List.forall_mem_cons.mpr ⟨fs_loada_n hF d_Md_expression_47 rfl, ?_⟩
  refine List.forall_mem_cons.mpr ⟨g26 _ 48 d_Md_expression_48, ?_⟩
  refine List.forall_mem_cons.mpr ⟨fs_load_n hF d_Md_expression_51 rfl, ?_⟩
  refine List.forall_mem_cons.mpr ⟨fs_ald hC lkMI d_Md_expression_52, ?_⟩
  refine List.forall_mem_cons.mpr ⟨fs_const hF d_Md_expression_53 (by decide), ?_⟩
  refine List.forall_mem_cons.mpr ⟨fs_iadd hF d_Md_expression_54, ?_⟩
  refine List.forall_mem_cons.mpr ⟨fs_store hF d_Md_expression_55 (by decide), ?_⟩
  refine List.forall_mem_cons.mpr ⟨fs_load_n hF d_Md_expression_57 rfl, ?_⟩
  refine List.forall_mem_cons.mpr ⟨fs_bipush hF d_Md_expression_58 (by decide), ?_⟩
  refine List.forall_mem_cons.mpr ⟨fs_cmplt hF d_Md_expression_60 (by decide), ?_⟩
  refine List.forall_mem_cons.mpr ⟨fs_loada_n hF d_Md_expression_63 rfl, ?_⟩
  refine List.forall_mem_cons.mpr ⟨g26 _ 64 d_Md_expression_64, ?_⟩
  refine List.forall_mem_cons.mpr ⟨fs_load_n hF d_Md_expression_67 rfl, ?_⟩
  refine List.forall_mem_cons.mpr ⟨fs_ald hC lkMI d_Md_expression_68, ?_⟩
  refine List.forall_mem_cons.mpr ⟨fs_load hF d_Md_expression_69, ?_⟩
  refine List.forall_mem_cons.mpr ⟨fs_cmplt hF d_Md_expression_71 (by decide), ?_⟩
  refine List.forall_mem_cons.mpr ⟨fs_loada_n hF d_Md_expression_74 rfl, ?_⟩
  refine List.forall_mem_cons.mpr ⟨g26 _ 75 d_Md_expression_75, ?_⟩
  refine List.forall_mem_cons.mpr ⟨fs_load_n hF d_Md_expression_78 rfl, ?_⟩
  refine List.forall_mem_cons.mpr ⟨fs_ald hC lkMI d_Md_expression_79, ?_⟩
  refine List.forall_mem_cons.mpr ⟨fs_const hF d_Md_expression_80 (by decide), ?_⟩
  refine List.forall_mem_cons.mpr ⟨fs_iadd hF d_Md_expression_81, ?_⟩
  refine List.forall_mem_cons.mpr ⟨fs_store hF d_Md_expression_82 (by decide), ?_⟩
  refine List.forall_mem_cons.mpr ⟨fs_load hF d_Md_expression_84, ?_⟩
  refine List.forall_mem_cons.mpr ⟨fs_const hF d_Md_expression_86 (by decide), ?_⟩
  refine List.forall_mem_cons.mpr ⟨fs_cmple hF d_Md_expression_87 (by decide), ?_⟩
  refine List.forall_mem_cons.mpr ⟨fs_bipush hF d_Md_expression_90 (by decide), ?_⟩
  refine List.forall_mem_cons.mpr ⟨fs_ret hC hr d_Md_expression_92, ?_⟩
  refine List.forall_mem_cons.mpr ⟨fs_loada_n hF d_Md_expression_93 rfl, ?_⟩
  refine List.forall_mem_cons.mpr ⟨g17 _ 94 d_Md_expression_94, ?_⟩
  refine List.forall_mem_cons.mpr ⟨fs_loada_n hF d_Md_expression_97 rfl, ?_⟩
  refine List.forall_mem_cons.mpr ⟨g81 _ 98 d_Md_expression_98, ?_⟩
  refine List.forall_mem_cons.mpr ⟨fs_load_n hF d_Md_expression_101 rfl, ?_⟩
  refine List.forall_mem_cons.mpr ⟨fs_ast hC lkMI d_Md_expression_102, ?_⟩
  refine List.forall_mem_cons.mpr ⟨fs_loada_n hF d_Md_expression_103 rfl, ?_⟩
  refine List.forall_mem_cons.mpr ⟨g20 _ 104 d_Md_expression_104, ?_⟩
  refine List.forall_mem_cons.mpr ⟨fs_loada_n hF d_Md_expression_107 rfl, ?_⟩
  refine List.forall_mem_cons.mpr ⟨g81 _ 108 d_Md_expression_108, ?_⟩
  refine List.forall_mem_cons.mpr ⟨fs_load_n hF d_Md_expression_111 rfl, ?_⟩
  refine List.forall_mem_cons.mpr ⟨fs_ast hC lkMI d_Md_expression_112, ?_⟩
  refine List.forall_mem_cons.mpr ⟨fs_loada_n hF d_Md_expression_113 rfl, ?_⟩
  refine List.forall_mem_cons.mpr ⟨g23 _ 114 d_Md_expression_114, ?_⟩
  refine List.forall_mem_cons.mpr ⟨fs_loada_n hF d_Md_expression_117 rfl, ?_⟩
  refine List.forall_mem_cons.mpr ⟨g81 _ 118 d_Md_expression_118, ?_⟩
  refine List.forall_mem_cons.mpr ⟨fs_load_n hF d_Md_expression_121 rfl, ?_⟩
  refine List.forall_mem_cons.mpr ⟨fs_ast hC lkMI d_Md_expression_122, ?_⟩
  refine List.forall_mem_cons.mpr ⟨fs_loada_n hF d_Md_expression_123 rfl, ?_⟩
  refine List.forall_mem_cons.mpr ⟨g26 _ 124 d_Md_expression_124, ?_⟩
  refine List.forall_mem_cons.mpr ⟨fs_loada_n hF d_Md_expression_127 rfl, ?_⟩
  refine List.forall_mem_cons.mpr ⟨g81 _ 128 d_Md_expression_128, ?_⟩
  refine List.forall_mem_cons.mpr ⟨fs_load hF d_Md_expression_131, ?_⟩
  refine List.forall_mem_cons.mpr ⟨fs_ast hC lkMI d_Md_expression_133, ?_⟩
  refine List.forall_mem_cons.mpr ⟨fs_loada_n hF d_Md_expression_134 rfl, ?_⟩
  refine List.forall_mem_cons.mpr ⟨fs_dup hF d_Md_expression_135, ?_⟩
  refine List.forall_mem_cons.mpr ⟨g81 _ 136 d_Md_expression_136, ?_⟩
  refine List.forall_mem_cons.mpr ⟨fs_const hF d_Md_expression_139 (by decide), ?_⟩
  refine List.forall_mem_cons.mpr ⟨fs_iadd hF d_Md_expression_140, ?_⟩
  refine List.forall_mem_cons.mpr ⟨fs_put hC (cN := 0) (j := 3) (ci := 7) (C := R_Md) (T := T_Md) (N := 43) rfl rfl rfl (by decide) ty_Md tk_Md nm_Md rfl (by decide +kernel) (fun w h => List.mem_cons_of_mem _ (in_Md w h)) (hm wd_542) d_Md_expression_141, ?_⟩
  refine List.forall_mem_cons.mpr ⟨fs_loada_n hF d_Md_expression_144 rfl, ?_⟩
  refine List.forall_mem_cons.mpr ⟨g81 _ 145 d_Md_expression_145, ?_⟩
  refine List.forall_mem_cons.mpr ⟨fs_const hF d_Md_expression_148 (by decide), ?_⟩
  refine List.forall_mem_cons.mpr ⟨fs_isub hF d_Md_expression_149, ?_⟩
  refine List.forall_mem_cons.mpr ⟨fs_ret hC hr d_Md_expression_150, ?_⟩
  exact fun _ h => absurd h List.not_mem_nil
abbrev rm_Md_transition : Room := { frames := 1, cells := 0, slots := 0, locals := 23 }
def ws_Md_transition : List Cond := .code y_Md_transition c_Md_transition 6 (some .int) :: TB
abbrev MC_Md_transition (κ : fx_K) : List fx_V → fx_S → (Int32 → fx_S → Prop) → Prop := fx_Met κ.1 κ.2.1 vwCl κ.2.2.1 κ.2.2.2 lyM nwl y_Md_transition ws_Md_transition rm_Md_transition true
def tt_Md_transition (κ : fx_K) (post : Int32 → fx_S → Prop) : List (Nat × fx_M fx_S) := [(0, fm_loada 0 1),
  (1, fm_get 0 24 4),
  (4, fm_ifne 32 7),
  (7, fm_loada 0 8),
  (8, fm_get 0 9 11),
  (11, fm_const 12 13),
  (13, fm_cmpge 32 16),
  (16, fm_load 1 17),
  (17, fm_ifeq 32 20),
  (20, fm_load 2 21),
  (21, fm_ifeq 32 24),
  (24, fm_loada 0 25),
  (25, fm_load 3 26),
  (26, fm_call true 0 1 (MC_Md_isExpression κ) 29),
  (29, fm_ifne 35 32),
  (32, fm_const (-2) 34),
  (34, fm_ret post),
  (35, fm_const 0 36),
  (36, fm_store 4 38),
  (38, fm_const 0 39),
  (39, fm_store 5 41),
  (41, fm_load 5 43),
  (43, fm_const 3 44),
  (44, fm_cmpge 80 47),
  (47, fm_load 4 49),
  (49, fm_ifne 67 52),
  (52, fm_load 1 53),
  (53, fm_load 2 54),
  (54, fm_ior 55),
  (55, fm_loada 0 56),
  (56, fm_load 5 58),
  (58, fm_call true 0 1 (MC_Md_stepsOf κ) 61),
  (61, fm_const (-1) 62),
  (62, fm_ixor 63),
  (63, fm_iand 64),
  (64, fm_ifne 71 67),
  (67, fm_const 1 68),
  (68, fm_goto 72),
  (71, fm_const 0 72),
  (72, fm_store 4 74),
  (74, fm_inc 5 1 77),
  (77, fm_goto 41),
  (80, fm_load 4 82),
  (82, fm_ifne 88 85),
  (85, fm_const (-2) 87),
  (87, fm_ret post),
  (88, fm_loada 0 89),
  (89, fm_getr 0 8 92),
  (92, fm_loada 0 93),
  (93, fm_get 0 9 96),
  (96, fm_load 1 97),
  (97, fm_ast lnMI 98),
  (98, fm_loada 0 99),
  (99, fm_getr 0 9 102),
  (102, fm_loada 0 103),
  (103, fm_get 0 9 106),
  (106, fm_load 2 107),
  (107, fm_ast lnMI 108),
  (108, fm_loada 0 109),
  (109, fm_getr 0 10 112),
  (112, fm_loada 0 113),
  (113, fm_get 0 9 116),
  (116, fm_load 3 117),
  (117, fm_ast lnMI 118),
  (118, fm_loada 0 119),
  (119, fm_dup 120),
  (120, fm_get 0 9 123),
  (123, fm_const 1 124),
  (124, fm_iadd 125),
  (125, fm_put 0 9 128),
  (128, fm_loada 0 129),
  (129, fm_get 0 9 132),
  (132, fm_const 1 133),
  (133, fm_isub 134),
  (134, fm_ret post)]
set_option maxHeartbeats 4000000 in
set_option maxRecDepth 100000 in
theorem mo_Md_transition {κ : fx_K} (hq : fx_I κ lyM.length) {av : List fx_V} {S : fx_S} {post : Int32 → fx_S → Prop} (hlen : av.length ≤ 6) (body : ∀ J : fx_J fx_S, (∀ r ∈ tt_Md_transition κ post, fx_Snd J r.1 r.2) → (∀ pc k ls st S, J pc (ls.take k) st S → J pc ls st S) → J 0 av [] S) : MC_Md_transition κ av S post := by
  refine fx_Met_of (cc := c_Md_transition) (nL := 6) (ret := (some .int)) (by decide) rfl hq hlen ?_
  intro p e s m args below meth c hC hr hnw
  refine body _ ?_ fx_W_take
  have hF := hC.1
  have hts := hC.1.2.2.2.2
  have hm : ∀ {w : Cond}, w ∈ TB → w.before args s = true := fun h => hts _ (List.mem_cons_of_mem _ h)
  have g84 : ∀ (Q : State → Prop) (pc : Nat), decode c_Md_transition pc = .ok (.getfield 84, 3) → fx_Snd (fx_W p κ.1 e rm_Md_transition s m args below meth c Q (fx_A κ.2.2.2 lyM.length) 0 0 (fx_P κ.2.1 vwCl κ.2.2.1 κ.2.2.2 lyM) κ.2.2.2 6) pc (fm_get 0 24 (pc + 3)) := fun Q pc hd => fs_get hC (cN := 0) (j := 24) (ci := 7) (C := R_Md) (T := T_Md) (N := 43) rfl rfl rfl (by decide) (fun w h => List.mem_cons_of_mem _ (in_Md w h)) (hm wd_563) hd
  have g100 : ∀ (Q : State → Prop) (pc : Nat), decode c_Md_transition pc = .ok (.getfield 100, 3) → fx_Snd (fx_W p κ.1 e rm_Md_transition s m args below meth c Q (fx_A κ.2.2.2 lyM.length) 0 0 (fx_P κ.2.1 vwCl κ.2.2.1 κ.2.2.2 lyM) κ.2.2.2 6) pc (fm_get 0 9 (pc + 3)) := fun Q pc hd => fs_get hC (cN := 0) (j := 9) (ci := 7) (C := R_Md) (T := T_Md) (N := 43) rfl rfl rfl (by decide) (fun w h => List.mem_cons_of_mem _ (in_Md w h)) (hm wd_548) hd
  have g32 : ∀ (Q : State → Prop) (pc : Nat), decode c_Md_transition pc = .ok (.getfield 32, 3) → fx_Snd (fx_W p κ.1 e rm_Md_transition s m args below meth c Q (fx_A κ.2.2.2 lyM.length) 0 0 (fx_P κ.2.1 vwCl κ.2.2.1 κ.2.2.2 lyM) κ.2.2.2 6) pc (fm_getr 0 8 (pc + 3)) := fun Q pc hd => fs_getr hC (cN := 0) (j := 10) (ci := 7) (C := R_Md) (T := T_Md) (N := 43) rfl rfl rfl (by decide) (fun w h => List.mem_cons_of_mem _ (in_Md w h)) (hm wd_549) hd
  have g35 : ∀ (Q : State → Prop) (pc : Nat), decode c_Md_transition pc = .ok (.getfield 35, 3) → fx_Snd (fx_W p κ.1 e rm_Md_transition s m args below meth c Q (fx_A κ.2.2.2 lyM.length) 0 0 (fx_P κ.2.1 vwCl κ.2.2.1 κ.2.2.2 lyM) κ.2.2.2 6) pc (fm_getr 0 9 (pc + 3)) := fun Q pc hd => fs_getr hC (cN := 0) (j := 11) (ci := 7) (C := R_Md) (T := T_Md) (N := 43) rfl rfl rfl (by decide) (fun w h => List.mem_cons_of_mem _ (in_Md w h)) (hm wd_550) hd
  have g38 : ∀ (Q : State → Prop) (pc : Nat), decode c_Md_transition pc = .ok (.getfield 38, 3) → fx_Snd (fx_W p κ.1 e rm_Md_transition s m args below meth c Q (fx_A κ.2.2.2 lyM.length) 0 0 (fx_P κ.2.1 vwCl κ.2.2.1 κ.2.2.2 lyM) κ.2.2.2 6) pc (fm_getr 0 10 (pc + 3)) := fun Q pc hd => fs_getr hC (cN := 0) (j := 12) (ci := 7) (C := R_Md) (T := T_Md) (N := 43) rfl rfl rfl (by decide) (fun w h => List.mem_cons_of_mem _ (in_Md w h)) (hm wd_551) hd
  refine List.forall_mem_cons.mpr ⟨fs_loada_n hF d_Md_transition_0 rfl, ?_⟩
  refine List.forall_mem_cons.mpr ⟨g84 _ 1 d_Md_transition_1, ?_⟩
  refine List.forall_mem_cons.mpr ⟨fs_ifne hF d_Md_transition_4 (by decide), ?_⟩
  refine List.forall_mem_cons.mpr ⟨fs_loada_n hF d_Md_transition_7 rfl, ?_⟩
  refine List.forall_mem_cons.mpr ⟨g100 _ 8 d_Md_transition_8, ?_⟩
  refine List.forall_mem_cons.mpr ⟨fs_bipush hF d_Md_transition_11 (by decide), ?_⟩
  refine List.forall_mem_cons.mpr ⟨fs_cmpge hF d_Md_transition_13 (by decide), ?_⟩
  refine List.forall_mem_cons.mpr ⟨fs_load_n hF d_Md_transition_16 rfl, ?_⟩
  refine List.forall_mem_cons.mpr ⟨fs_ifeq hF d_Md_transition_17 (by decide), ?_⟩
  refine List.forall_mem_cons.mpr ⟨fs_load_n hF d_Md_transition_20 rfl, ?_⟩
  refine List.forall_mem_cons.mpr ⟨fs_ifeq hF d_Md_transition_21 (by decide), ?_⟩
  refine List.forall_mem_cons.mpr ⟨fs_loada_n hF d_Md_transition_24 rfl, ?_⟩
  refine List.forall_mem_cons.mpr ⟨fs_load_n hF d_Md_transition_25 rfl, ?_⟩
  refine List.forall_mem_cons.mpr ⟨fs_callV hC nwl_ok hnw (cN := 0) (ci := 7) (C := R_Md) rfl rfl ⟨callB_of 1 hts (tb_good wd_690) rfl rfl rfl (hm wd_39) (hm wd_687) pd_Md_isExpression ⟨Nat.le_of_ble_eq_true rfl, Nat.le_of_ble_eq_true rfl⟩, hm wd_689, hm wd_14⟩ d_Md_transition_26, ?_⟩
  refine List.forall_mem_cons.mpr ⟨fs_ifne hF d_Md_transition_29 (by decide), ?_⟩
  refine List.forall_mem_cons.mpr ⟨fs_bipush hF d_Md_transition_32 (by decide), ?_⟩
  refine List.forall_mem_cons.mpr ⟨fs_ret hC hr d_Md_transition_34, ?_⟩
  refine List.forall_mem_cons.mpr ⟨fs_const hF d_Md_transition_35 (by decide), ?_⟩
  refine List.forall_mem_cons.mpr ⟨fs_store hF d_Md_transition_36 (by decide), ?_⟩
  refine List.forall_mem_cons.mpr ⟨fs_const hF d_Md_transition_38 (by decide), ?_⟩
  refine List.forall_mem_cons.mpr ⟨fs_store hF d_Md_transition_39 (by decide), ?_⟩
  refine List.forall_mem_cons.mpr ⟨fs_load hF d_Md_transition_41, ?_⟩
  refine List.forall_mem_cons.mpr ⟨fs_const hF d_Md_transition_43 (by decide), ?_⟩
  refine List.forall_mem_cons.mpr ⟨fs_cmpge hF d_Md_transition_44 (by decide), ?_⟩
  refine List.forall_mem_cons.mpr ⟨fs_load hF d_Md_transition_47, ?_⟩
  refine List.forall_mem_cons.mpr ⟨fs_ifne hF d_Md_transition_49 (by decide), ?_⟩
  refine List.forall_mem_cons.mpr ⟨fs_load_n hF d_Md_transition_52 rfl, ?_⟩
  refine List.forall_mem_cons.mpr ⟨fs_load_n hF d_Md_transition_53 rfl, ?_⟩
  refine List.forall_mem_cons.mpr ⟨fs_ior hF d_Md_transition_54, ?_⟩
  refine List.forall_mem_cons.mpr ⟨fs_loada_n hF d_Md_transition_55 rfl, ?_⟩
  refine List.forall_mem_cons.mpr ⟨fs_load hF d_Md_transition_56, ?_⟩
  refine List.forall_mem_cons.mpr ⟨fs_callV hC nwl_ok hnw (cN := 0) (ci := 7) (C := R_Md) rfl rfl ⟨callB_of 1 hts (tb_good wd_698) rfl rfl rfl (hm wd_39) (hm wd_695) pd_Md_stepsOf ⟨Nat.le_of_ble_eq_true rfl, Nat.le_of_ble_eq_true rfl⟩, hm wd_697, hm wd_15⟩ d_Md_transition_58, ?_⟩
  refine List.forall_mem_cons.mpr ⟨fs_const hF d_Md_transition_61 (by decide), ?_⟩
  refine List.forall_mem_cons.mpr ⟨fs_ixor hF d_Md_transition_62, ?_⟩
  refine List.forall_mem_cons.mpr ⟨fs_iand hF d_Md_transition_63, ?_⟩
  refine List.forall_mem_cons.mpr ⟨fs_ifne hF d_Md_transition_64 (by decide), ?_⟩
  refine List.forall_mem_cons.mpr ⟨fs_const hF d_Md_transition_67 (by decide), ?_⟩
  refine List.forall_mem_cons.mpr ⟨fs_goto hF d_Md_transition_68 (by decide), ?_⟩
  refine List.forall_mem_cons.mpr ⟨fs_const hF d_Md_transition_71 (by decide), ?_⟩
  refine List.forall_mem_cons.mpr ⟨fs_store hF d_Md_transition_72 (by decide), ?_⟩
  refine List.forall_mem_cons.mpr ⟨fs_inc hF d_Md_transition_74 (by decide) (by decide), ?_⟩
  refine List.forall_mem_cons.mpr ⟨fs_goto hF d_Md_transition_77 (by decide), ?_⟩
  refine List.forall_mem_cons.mpr ⟨fs_load hF d_Md_transition_80, ?_⟩
  refine List.forall_mem_cons.mpr ⟨fs_ifne hF d_Md_transition_82 (by decide), ?_⟩
  refine List.forall_mem_cons.mpr ⟨fs_bipush hF d_Md_transition_85 (by decide), ?_⟩
  refine List.forall_mem_cons.mpr ⟨fs_ret hC hr d_Md_transition_87, ?_⟩
  refine List.forall_mem_cons.mpr ⟨fs_loada_n hF d_Md_transition_88 rfl, ?_⟩
  refine List.forall_mem_cons.mpr ⟨g32 _ 89 d_Md_transition_89, ?_⟩
  refine List.forall_mem_cons.mpr ⟨fs_loada_n hF d_Md_transition_92 rfl, ?_⟩
  refine List.forall_mem_cons.mpr ⟨g100 _ 93 d_Md_transition_93, ?_⟩
  refine List.forall_mem_cons.mpr ⟨fs_load_n hF d_Md_transition_96 rfl, ?_⟩
  refine List.forall_mem_cons.mpr ⟨fs_ast hC lkMI d_Md_transition_97, ?_⟩
  refine List.forall_mem_cons.mpr ⟨fs_loada_n hF d_Md_transition_98 rfl, ?_⟩
  refine List.forall_mem_cons.mpr ⟨g35 _ 99 d_Md_transition_99, ?_⟩
  refine List.forall_mem_cons.mpr ⟨fs_loada_n hF d_Md_transition_102 rfl, ?_⟩
  refine List.forall_mem_cons.mpr ⟨g100 _ 103 d_Md_transition_103, ?_⟩
  refine List.forall_mem_cons.mpr ⟨fs_load_n hF d_Md_transition_106 rfl, ?_⟩
  refine List.forall_mem_cons.mpr ⟨fs_ast hC lkMI d_Md_transition_107, ?_⟩
  refine List.forall_mem_cons.mpr ⟨fs_loada_n hF d_Md_transition_108 rfl, ?_⟩
  refine List.forall_mem_cons.mpr ⟨g38 _ 109 d_Md_transition_109, ?_⟩
  refine List.forall_mem_cons.mpr ⟨fs_loada_n hF d_Md_transition_112 rfl, ?_⟩
  refine List.forall_mem_cons.mpr ⟨g100 _ 113 d_Md_transition_113, ?_⟩
  refine List.forall_mem_cons.mpr ⟨fs_load_n hF d_Md_transition_116 rfl, ?_⟩
  refine List.forall_mem_cons.mpr ⟨fs_ast hC lkMI d_Md_transition_117, ?_⟩
  refine List.forall_mem_cons.mpr ⟨fs_loada_n hF d_Md_transition_118 rfl, ?_⟩
  refine List.forall_mem_cons.mpr ⟨fs_dup hF d_Md_transition_119, ?_⟩
  refine List.forall_mem_cons.mpr ⟨g100 _ 120 d_Md_transition_120, ?_⟩
  refine List.forall_mem_cons.mpr ⟨fs_const hF d_Md_transition_123 (by decide), ?_⟩
  refine List.forall_mem_cons.mpr ⟨fs_iadd hF d_Md_transition_124, ?_⟩
  refine List.forall_mem_cons.mpr ⟨fs_put hC (cN := 0) (j := 9) (ci := 7) (C := R_Md) (T := T_Md) (N := 43) rfl rfl rfl (by decide) ty_Md tk_Md nm_Md rfl (by decide +kernel) (fun w h => List.mem_cons_of_mem _ (in_Md w h)) (hm wd_548) d_Md_transition_125, ?_⟩
  refine List.forall_mem_cons.mpr ⟨fs_loada_n hF d_Md_transition_128 rfl, ?_⟩
  refine List.forall_mem_cons.mpr ⟨g100 _ 129 d_Md_transition_129, ?_⟩
  refine List.forall_mem_cons.mpr ⟨fs_const hF d_Md_transition_132 (by decide), ?_⟩
  refine List.forall_mem_cons.mpr ⟨fs_isub hF d_Md_transition_133, ?_⟩
  refine List.forall_mem_cons.mpr ⟨fs_ret hC hr d_Md_transition_134, ?_⟩
  exact fun _ h => absurd h List.not_mem_nil
abbrev rm_Md_order : Room := { frames := 1, cells := 0, slots := 0, locals := 23 }
def ws_Md_order : List Cond := .code y_Md_order c_Md_order 4 (some .int) :: TB
abbrev MC_Md_order (κ : fx_K) : List fx_V → fx_S → (Int32 → fx_S → Prop) → Prop := fx_Met κ.1 κ.2.1 vwCl κ.2.2.1 κ.2.2.2 lyM nwl y_Md_order ws_Md_order rm_Md_order true
def tt_Md_order (κ : fx_K) (post : Int32 → fx_S → Prop) : List (Nat × fx_M fx_S) := [(0, fm_loada 0 1),
  (1, fm_get 0 24 4),
  (4, fm_ifne 38 7),
  (7, fm_loada 0 8),
  (8, fm_get 0 13 11),
  (11, fm_const 4 12),
  (12, fm_cmpge 38 15),
  (15, fm_loada 0 16),
  (16, fm_load 1 17),
  (17, fm_call true 0 1 (MC_Md_isStep κ) 20),
  (20, fm_ifeq 38 23),
  (23, fm_load 2 24),
  (24, fm_const 2 25),
  (25, fm_cmpgt 38 28),
  (28, fm_load 2 29),
  (29, fm_loada 0 30),
  (30, fm_getr 0 1 33),
  (33, fm_load 1 34),
  (34, fm_ald lnMI 35),
  (35, fm_cmpgt 41 38),
  (38, fm_const (-2) 40),
  (40, fm_ret post),
  (41, fm_load 3 42),
  (42, fm_const (-1) 43),
  (43, fm_cmpeq 61 46),
  (46, fm_load 3 47),
  (47, fm_loada 0 48),
  (48, fm_load 2 49),
  (49, fm_call true 0 1 (MC_Md_stepsOf κ) 52),
  (52, fm_const (-1) 53),
  (53, fm_ixor 54),
  (54, fm_iand 55),
  (55, fm_ifeq 61 58),
  (58, fm_const (-2) 60),
  (60, fm_ret post),
  (61, fm_loada 0 62),
  (62, fm_getr 0 11 65),
  (65, fm_loada 0 66),
  (66, fm_get 0 13 69),
  (69, fm_load 1 70),
  (70, fm_ast lnMI 71),
  (71, fm_loada 0 72),
  (72, fm_getr 0 12 75),
  (75, fm_loada 0 76),
  (76, fm_get 0 13 79),
  (79, fm_load 2 80),
  (80, fm_ast lnMI 81),
  (81, fm_loada 0 82),
  (82, fm_getr 0 13 85),
  (85, fm_loada 0 86),
  (86, fm_get 0 13 89),
  (89, fm_load 3 90),
  (90, fm_ast lnMI 91),
  (91, fm_loada 0 92),
  (92, fm_dup 93),
  (93, fm_get 0 13 96),
  (96, fm_const 1 97),
  (97, fm_iadd 98),
  (98, fm_put 0 13 101),
  (101, fm_loada 0 102),
  (102, fm_get 0 13 105),
  (105, fm_const 1 106),
  (106, fm_isub 107),
  (107, fm_ret post)]
set_option maxHeartbeats 4000000 in
set_option maxRecDepth 100000 in
theorem mo_Md_order {κ : fx_K} (hq : fx_I κ lyM.length) {av : List fx_V} {S : fx_S} {post : Int32 → fx_S → Prop} (hlen : av.length ≤ 4) (body : ∀ J : fx_J fx_S, (∀ r ∈ tt_Md_order κ post, fx_Snd J r.1 r.2) → (∀ pc k ls st S, J pc (ls.take k) st S → J pc ls st S) → J 0 av [] S) : MC_Md_order κ av S post := by
  refine fx_Met_of (cc := c_Md_order) (nL := 4) (ret := (some .int)) (by decide) rfl hq hlen ?_
  intro p e s m args below meth c hC hr hnw
  refine body _ ?_ fx_W_take
  have hF := hC.1
  have hts := hC.1.2.2.2.2
  have hm : ∀ {w : Cond}, w ∈ TB → w.before args s = true := fun h => hts _ (List.mem_cons_of_mem _ h)
  have g84 : ∀ (Q : State → Prop) (pc : Nat), decode c_Md_order pc = .ok (.getfield 84, 3) → fx_Snd (fx_W p κ.1 e rm_Md_order s m args below meth c Q (fx_A κ.2.2.2 lyM.length) 0 0 (fx_P κ.2.1 vwCl κ.2.2.1 κ.2.2.2 lyM) κ.2.2.2 4) pc (fm_get 0 24 (pc + 3)) := fun Q pc hd => fs_get hC (cN := 0) (j := 24) (ci := 7) (C := R_Md) (T := T_Md) (N := 43) rfl rfl rfl (by decide) (fun w h => List.mem_cons_of_mem _ (in_Md w h)) (hm wd_563) hd
  have g107 : ∀ (Q : State → Prop) (pc : Nat), decode c_Md_order pc = .ok (.getfield 107, 3) → fx_Snd (fx_W p κ.1 e rm_Md_order s m args below meth c Q (fx_A κ.2.2.2 lyM.length) 0 0 (fx_P κ.2.1 vwCl κ.2.2.1 κ.2.2.2 lyM) κ.2.2.2 4) pc (fm_get 0 13 (pc + 3)) := fun Q pc hd => fs_get hC (cN := 0) (j := 13) (ci := 7) (C := R_Md) (T := T_Md) (N := 43) rfl rfl rfl (by decide) (fun w h => List.mem_cons_of_mem _ (in_Md w h)) (hm wd_552) hd
  have g7 : ∀ (Q : State → Prop) (pc : Nat), decode c_Md_order pc = .ok (.getfield 7, 3) → fx_Snd (fx_W p κ.1 e rm_Md_order s m args below meth c Q (fx_A κ.2.2.2 lyM.length) 0 0 (fx_P κ.2.1 vwCl κ.2.2.1 κ.2.2.2 lyM) κ.2.2.2 4) pc (fm_getr 0 1 (pc + 3)) := fun Q pc hd => fs_getr hC (cN := 0) (j := 1) (ci := 7) (C := R_Md) (T := T_Md) (N := 43) rfl rfl rfl (by decide) (fun w h => List.mem_cons_of_mem _ (in_Md w h)) (hm wd_540) hd
  have g41 : ∀ (Q : State → Prop) (pc : Nat), decode c_Md_order pc = .ok (.getfield 41, 3) → fx_Snd (fx_W p κ.1 e rm_Md_order s m args below meth c Q (fx_A κ.2.2.2 lyM.length) 0 0 (fx_P κ.2.1 vwCl κ.2.2.1 κ.2.2.2 lyM) κ.2.2.2 4) pc (fm_getr 0 11 (pc + 3)) := fun Q pc hd => fs_getr hC (cN := 0) (j := 14) (ci := 7) (C := R_Md) (T := T_Md) (N := 43) rfl rfl rfl (by decide) (fun w h => List.mem_cons_of_mem _ (in_Md w h)) (hm wd_553) hd
  have g44 : ∀ (Q : State → Prop) (pc : Nat), decode c_Md_order pc = .ok (.getfield 44, 3) → fx_Snd (fx_W p κ.1 e rm_Md_order s m args below meth c Q (fx_A κ.2.2.2 lyM.length) 0 0 (fx_P κ.2.1 vwCl κ.2.2.1 κ.2.2.2 lyM) κ.2.2.2 4) pc (fm_getr 0 12 (pc + 3)) := fun Q pc hd => fs_getr hC (cN := 0) (j := 15) (ci := 7) (C := R_Md) (T := T_Md) (N := 43) rfl rfl rfl (by decide) (fun w h => List.mem_cons_of_mem _ (in_Md w h)) (hm wd_554) hd
  have g47 : ∀ (Q : State → Prop) (pc : Nat), decode c_Md_order pc = .ok (.getfield 47, 3) → fx_Snd (fx_W p κ.1 e rm_Md_order s m args below meth c Q (fx_A κ.2.2.2 lyM.length) 0 0 (fx_P κ.2.1 vwCl κ.2.2.1 κ.2.2.2 lyM) κ.2.2.2 4) pc (fm_getr 0 13 (pc + 3)) := fun Q pc hd => fs_getr hC (cN := 0) (j := 16) (ci := 7) (C := R_Md) (T := T_Md) (N := 43) rfl rfl rfl (by decide) (fun w h => List.mem_cons_of_mem _ (in_Md w h)) (hm wd_555) hd
  refine List.forall_mem_cons.mpr ⟨fs_loada_n hF d_Md_order_0 rfl, ?_⟩
  refine List.forall_mem_cons.mpr ⟨g84 _ 1 d_Md_order_1, ?_⟩
  refine List.forall_mem_cons.mpr ⟨fs_ifne hF d_Md_order_4 (by decide), ?_⟩
  refine List.forall_mem_cons.mpr ⟨fs_loada_n hF d_Md_order_7 rfl, ?_⟩
  refine List.forall_mem_cons.mpr ⟨g107 _ 8 d_Md_order_8, ?_⟩
  refine List.forall_mem_cons.mpr ⟨fs_const hF d_Md_order_11 (by decide), ?_⟩
  refine List.forall_mem_cons.mpr ⟨fs_cmpge hF d_Md_order_12 (by decide), ?_⟩
  refine List.forall_mem_cons.mpr ⟨fs_loada_n hF d_Md_order_15 rfl, ?_⟩
  refine List.forall_mem_cons.mpr ⟨fs_load_n hF d_Md_order_16 rfl, ?_⟩
  refine List.forall_mem_cons.mpr ⟨fs_callV hC nwl_ok hnw (cN := 0) (ci := 7) (C := R_Md) rfl rfl ⟨callB_of 1 hts (tb_good wd_685) rfl rfl rfl (hm wd_39) (hm wd_682) pd_Md_isStep ⟨Nat.le_of_ble_eq_true rfl, Nat.le_of_ble_eq_true rfl⟩, hm wd_684, hm wd_13⟩ d_Md_order_17, ?_⟩
  refine List.forall_mem_cons.mpr ⟨fs_ifeq hF d_Md_order_20 (by decide), ?_⟩
  refine List.forall_mem_cons.mpr ⟨fs_load_n hF d_Md_order_23 rfl, ?_⟩
  refine List.forall_mem_cons.mpr ⟨fs_const hF d_Md_order_24 (by decide), ?_⟩
  refine List.forall_mem_cons.mpr ⟨fs_cmpgt hF d_Md_order_25 (by decide), ?_⟩
  refine List.forall_mem_cons.mpr ⟨fs_load_n hF d_Md_order_28 rfl, ?_⟩
  refine List.forall_mem_cons.mpr ⟨fs_loada_n hF d_Md_order_29 rfl, ?_⟩
  refine List.forall_mem_cons.mpr ⟨g7 _ 30 d_Md_order_30, ?_⟩
  refine List.forall_mem_cons.mpr ⟨fs_load_n hF d_Md_order_33 rfl, ?_⟩
  refine List.forall_mem_cons.mpr ⟨fs_ald hC lkMI d_Md_order_34, ?_⟩
  refine List.forall_mem_cons.mpr ⟨fs_cmpgt hF d_Md_order_35 (by decide), ?_⟩
  refine List.forall_mem_cons.mpr ⟨fs_bipush hF d_Md_order_38 (by decide), ?_⟩
  refine List.forall_mem_cons.mpr ⟨fs_ret hC hr d_Md_order_40, ?_⟩
  refine List.forall_mem_cons.mpr ⟨fs_load_n hF d_Md_order_41 rfl, ?_⟩
  refine List.forall_mem_cons.mpr ⟨fs_const hF d_Md_order_42 (by decide), ?_⟩
  refine List.forall_mem_cons.mpr ⟨fs_cmpeq hF d_Md_order_43 (by decide), ?_⟩
  refine List.forall_mem_cons.mpr ⟨fs_load_n hF d_Md_order_46 rfl, ?_⟩
  refine List.forall_mem_cons.mpr ⟨fs_loada_n hF d_Md_order_47 rfl, ?_⟩
  refine List.forall_mem_cons.mpr ⟨fs_load_n hF d_Md_order_48 rfl, ?_⟩
  refine List.forall_mem_cons.mpr ⟨fs_callV hC nwl_ok hnw (cN := 0) (ci := 7) (C := R_Md) rfl rfl ⟨callB_of 1 hts (tb_good wd_698) rfl rfl rfl (hm wd_39) (hm wd_695) pd_Md_stepsOf ⟨Nat.le_of_ble_eq_true rfl, Nat.le_of_ble_eq_true rfl⟩, hm wd_697, hm wd_15⟩ d_Md_order_49, ?_⟩
  refine List.forall_mem_cons.mpr ⟨fs_const hF d_Md_order_52 (by decide), ?_⟩
  refine List.forall_mem_cons.mpr ⟨fs_ixor hF d_Md_order_53, ?_⟩
  refine List.forall_mem_cons.mpr ⟨fs_iand hF d_Md_order_54, ?_⟩
  refine List.forall_mem_cons.mpr ⟨fs_ifeq hF d_Md_order_55 (by decide), ?_⟩
  refine List.forall_mem_cons.mpr ⟨fs_bipush hF d_Md_order_58 (by decide), ?_⟩
  refine List.forall_mem_cons.mpr ⟨fs_ret hC hr d_Md_order_60, ?_⟩
  refine List.forall_mem_cons.mpr ⟨fs_loada_n hF d_Md_order_61 rfl, ?_⟩
  refine List.forall_mem_cons.mpr ⟨g41 _ 62 d_Md_order_62, ?_⟩
  refine List.forall_mem_cons.mpr ⟨fs_loada_n hF d_Md_order_65 rfl, ?_⟩
  refine List.forall_mem_cons.mpr ⟨g107 _ 66 d_Md_order_66, ?_⟩
  refine List.forall_mem_cons.mpr ⟨fs_load_n hF d_Md_order_69 rfl, ?_⟩
  refine List.forall_mem_cons.mpr ⟨fs_ast hC lkMI d_Md_order_70, ?_⟩
  refine List.forall_mem_cons.mpr ⟨fs_loada_n hF d_Md_order_71 rfl, ?_⟩
  refine List.forall_mem_cons.mpr ⟨g44 _ 72 d_Md_order_72, ?_⟩
  refine List.forall_mem_cons.mpr ⟨fs_loada_n hF d_Md_order_75 rfl, ?_⟩
  refine List.forall_mem_cons.mpr ⟨g107 _ 76 d_Md_order_76, ?_⟩
  refine List.forall_mem_cons.mpr ⟨fs_load_n hF d_Md_order_79 rfl, ?_⟩
  refine List.forall_mem_cons.mpr ⟨fs_ast hC lkMI d_Md_order_80, ?_⟩
  refine List.forall_mem_cons.mpr ⟨fs_loada_n hF d_Md_order_81 rfl, ?_⟩
  refine List.forall_mem_cons.mpr ⟨g47 _ 82 d_Md_order_82, ?_⟩
  refine List.forall_mem_cons.mpr ⟨fs_loada_n hF d_Md_order_85 rfl, ?_⟩
  refine List.forall_mem_cons.mpr ⟨g107 _ 86 d_Md_order_86, ?_⟩
  refine List.forall_mem_cons.mpr ⟨fs_load_n hF d_Md_order_89 rfl, ?_⟩
  refine List.forall_mem_cons.mpr ⟨fs_ast hC lkMI d_Md_order_90, ?_⟩
  refine List.forall_mem_cons.mpr ⟨fs_loada_n hF d_Md_order_91 rfl, ?_⟩
  refine List.forall_mem_cons.mpr ⟨fs_dup hF d_Md_order_92, ?_⟩
  refine List.forall_mem_cons.mpr ⟨g107 _ 93 d_Md_order_93, ?_⟩
  refine List.forall_mem_cons.mpr ⟨fs_const hF d_Md_order_96 (by decide), ?_⟩
  refine List.forall_mem_cons.mpr ⟨fs_iadd hF d_Md_order_97, ?_⟩
  refine List.forall_mem_cons.mpr ⟨fs_put hC (cN := 0) (j := 13) (ci := 7) (C := R_Md) (T := T_Md) (N := 43) rfl rfl rfl (by decide) ty_Md tk_Md nm_Md rfl (by decide +kernel) (fun w h => List.mem_cons_of_mem _ (in_Md w h)) (hm wd_552) d_Md_order_98, ?_⟩
  refine List.forall_mem_cons.mpr ⟨fs_loada_n hF d_Md_order_101 rfl, ?_⟩
  refine List.forall_mem_cons.mpr ⟨g107 _ 102 d_Md_order_102, ?_⟩
  refine List.forall_mem_cons.mpr ⟨fs_const hF d_Md_order_105 (by decide), ?_⟩
  refine List.forall_mem_cons.mpr ⟨fs_isub hF d_Md_order_106, ?_⟩
  refine List.forall_mem_cons.mpr ⟨fs_ret hC hr d_Md_order_107, ?_⟩
  exact fun _ h => absurd h List.not_mem_nil
abbrev rm_Md_action : Room := { frames := 1, cells := 0, slots := 0, locals := 21 }
def ws_Md_action : List Cond := .code y_Md_action c_Md_action 5 (some .int) :: TB
abbrev MC_Md_action (κ : fx_K) : List fx_V → fx_S → (Int32 → fx_S → Prop) → Prop := fx_Met κ.1 κ.2.1 vwCl κ.2.2.1 κ.2.2.2 lyM nwl y_Md_action ws_Md_action rm_Md_action true
def tt_Md_action (κ : fx_K) (post : Int32 → fx_S → Prop) : List (Nat × fx_M fx_S) := [(0, fm_loada 0 1),
  (1, fm_get 0 24 4),
  (4, fm_ifne 56 7),
  (7, fm_loada 0 8),
  (8, fm_get 0 17 11),
  (11, fm_const 12 13),
  (13, fm_cmpge 56 16),
  (16, fm_loada 0 17),
  (17, fm_load 1 18),
  (18, fm_call true 0 1 (MC_Md_isStep κ) 21),
  (21, fm_ifeq 56 24),
  (24, fm_load 2 25),
  (25, fm_iflt 56 28),
  (28, fm_load 2 29),
  (29, fm_const 9 31),
  (31, fm_cmpgt 56 34),
  (34, fm_load 3 35),
  (35, fm_iflt 56 38),
  (38, fm_load 3 39),
  (39, fm_const 7 41),
  (41, fm_cmpgt 56 44),
  (44, fm_load 4 46),
  (46, fm_iflt 56 49),
  (49, fm_load 4 51),
  (51, fm_const 1000000 53),
  (53, fm_cmple 59 56),
  (56, fm_const (-2) 58),
  (58, fm_ret post),
  (59, fm_loada 0 60),
  (60, fm_getr 0 14 63),
  (63, fm_loada 0 64),
  (64, fm_get 0 17 67),
  (67, fm_load 1 68),
  (68, fm_ast lnMI 69),
  (69, fm_loada 0 70),
  (70, fm_getr 0 15 73),
  (73, fm_loada 0 74),
  (74, fm_get 0 17 77),
  (77, fm_load 2 78),
  (78, fm_ast lnMI 79),
  (79, fm_loada 0 80),
  (80, fm_getr 0 16 83),
  (83, fm_loada 0 84),
  (84, fm_get 0 17 87),
  (87, fm_load 3 88),
  (88, fm_ast lnMI 89),
  (89, fm_loada 0 90),
  (90, fm_getr 0 17 93),
  (93, fm_loada 0 94),
  (94, fm_get 0 17 97),
  (97, fm_load 4 99),
  (99, fm_ast lnMI 100),
  (100, fm_loada 0 101),
  (101, fm_dup 102),
  (102, fm_get 0 17 105),
  (105, fm_const 1 106),
  (106, fm_iadd 107),
  (107, fm_put 0 17 110),
  (110, fm_loada 0 111),
  (111, fm_get 0 17 114),
  (114, fm_const 1 115),
  (115, fm_isub 116),
  (116, fm_ret post)]
set_option maxHeartbeats 4000000 in
set_option maxRecDepth 100000 in
theorem mo_Md_action {κ : fx_K} (hq : fx_I κ lyM.length) {av : List fx_V} {S : fx_S} {post : Int32 → fx_S → Prop} (hlen : av.length ≤ 5) (body : ∀ J : fx_J fx_S, (∀ r ∈ tt_Md_action κ post, fx_Snd J r.1 r.2) → (∀ pc k ls st S, J pc (ls.take k) st S → J pc ls st S) → J 0 av [] S) : MC_Md_action κ av S post := by
  refine fx_Met_of (cc := c_Md_action) (nL := 5) (ret := (some .int)) (by decide) rfl hq hlen ?_
  intro p e s m args below meth c hC hr hnw
  refine body _ ?_ fx_W_take
  have hF := hC.1
  have hts := hC.1.2.2.2.2
  have hm : ∀ {w : Cond}, w ∈ TB → w.before args s = true := fun h => hts _ (List.mem_cons_of_mem _ h)
  have g84 : ∀ (Q : State → Prop) (pc : Nat), decode c_Md_action pc = .ok (.getfield 84, 3) → fx_Snd (fx_W p κ.1 e rm_Md_action s m args below meth c Q (fx_A κ.2.2.2 lyM.length) 0 0 (fx_P κ.2.1 vwCl κ.2.2.1 κ.2.2.2 lyM) κ.2.2.2 5) pc (fm_get 0 24 (pc + 3)) := fun Q pc hd => fs_get hC (cN := 0) (j := 24) (ci := 7) (C := R_Md) (T := T_Md) (N := 43) rfl rfl rfl (by decide) (fun w h => List.mem_cons_of_mem _ (in_Md w h)) (hm wd_563) hd
  have g110 : ∀ (Q : State → Prop) (pc : Nat), decode c_Md_action pc = .ok (.getfield 110, 3) → fx_Snd (fx_W p κ.1 e rm_Md_action s m args below meth c Q (fx_A κ.2.2.2 lyM.length) 0 0 (fx_P κ.2.1 vwCl κ.2.2.1 κ.2.2.2 lyM) κ.2.2.2 5) pc (fm_get 0 17 (pc + 3)) := fun Q pc hd => fs_get hC (cN := 0) (j := 17) (ci := 7) (C := R_Md) (T := T_Md) (N := 43) rfl rfl rfl (by decide) (fun w h => List.mem_cons_of_mem _ (in_Md w h)) (hm wd_556) hd
  have g50 : ∀ (Q : State → Prop) (pc : Nat), decode c_Md_action pc = .ok (.getfield 50, 3) → fx_Snd (fx_W p κ.1 e rm_Md_action s m args below meth c Q (fx_A κ.2.2.2 lyM.length) 0 0 (fx_P κ.2.1 vwCl κ.2.2.1 κ.2.2.2 lyM) κ.2.2.2 5) pc (fm_getr 0 14 (pc + 3)) := fun Q pc hd => fs_getr hC (cN := 0) (j := 18) (ci := 7) (C := R_Md) (T := T_Md) (N := 43) rfl rfl rfl (by decide) (fun w h => List.mem_cons_of_mem _ (in_Md w h)) (hm wd_557) hd
  have g53 : ∀ (Q : State → Prop) (pc : Nat), decode c_Md_action pc = .ok (.getfield 53, 3) → fx_Snd (fx_W p κ.1 e rm_Md_action s m args below meth c Q (fx_A κ.2.2.2 lyM.length) 0 0 (fx_P κ.2.1 vwCl κ.2.2.1 κ.2.2.2 lyM) κ.2.2.2 5) pc (fm_getr 0 15 (pc + 3)) := fun Q pc hd => fs_getr hC (cN := 0) (j := 19) (ci := 7) (C := R_Md) (T := T_Md) (N := 43) rfl rfl rfl (by decide) (fun w h => List.mem_cons_of_mem _ (in_Md w h)) (hm wd_558) hd
  have g56 : ∀ (Q : State → Prop) (pc : Nat), decode c_Md_action pc = .ok (.getfield 56, 3) → fx_Snd (fx_W p κ.1 e rm_Md_action s m args below meth c Q (fx_A κ.2.2.2 lyM.length) 0 0 (fx_P κ.2.1 vwCl κ.2.2.1 κ.2.2.2 lyM) κ.2.2.2 5) pc (fm_getr 0 16 (pc + 3)) := fun Q pc hd => fs_getr hC (cN := 0) (j := 20) (ci := 7) (C := R_Md) (T := T_Md) (N := 43) rfl rfl rfl (by decide) (fun w h => List.mem_cons_of_mem _ (in_Md w h)) (hm wd_559) hd
  have g59 : ∀ (Q : State → Prop) (pc : Nat), decode c_Md_action pc = .ok (.getfield 59, 3) → fx_Snd (fx_W p κ.1 e rm_Md_action s m args below meth c Q (fx_A κ.2.2.2 lyM.length) 0 0 (fx_P κ.2.1 vwCl κ.2.2.1 κ.2.2.2 lyM) κ.2.2.2 5) pc (fm_getr 0 17 (pc + 3)) := fun Q pc hd => fs_getr hC (cN := 0) (j := 21) (ci := 7) (C := R_Md) (T := T_Md) (N := 43) rfl rfl rfl (by decide) (fun w h => List.mem_cons_of_mem _ (in_Md w h)) (hm wd_560) hd
  refine List.forall_mem_cons.mpr ⟨fs_loada_n hF d_Md_action_0 rfl, ?_⟩
  refine List.forall_mem_cons.mpr ⟨g84 _ 1 d_Md_action_1, ?_⟩
  refine List.forall_mem_cons.mpr ⟨fs_ifne hF d_Md_action_4 (by decide), ?_⟩
  refine List.forall_mem_cons.mpr ⟨fs_loada_n hF d_Md_action_7 rfl, ?_⟩
  refine List.forall_mem_cons.mpr ⟨g110 _ 8 d_Md_action_8, ?_⟩
  refine List.forall_mem_cons.mpr ⟨fs_bipush hF d_Md_action_11 (by decide), ?_⟩
  refine List.forall_mem_cons.mpr ⟨fs_cmpge hF d_Md_action_13 (by decide), ?_⟩
  refine List.forall_mem_cons.mpr ⟨fs_loada_n hF d_Md_action_16 rfl, ?_⟩
  refine List.forall_mem_cons.mpr ⟨fs_load_n hF d_Md_action_17 rfl, ?_⟩
  refine List.forall_mem_cons.mpr ⟨fs_callV hC nwl_ok hnw (cN := 0) (ci := 7) (C := R_Md) rfl rfl ⟨callB_of 1 hts (tb_good wd_685) rfl rfl rfl (hm wd_39) (hm wd_682) pd_Md_isStep ⟨Nat.le_of_ble_eq_true rfl, Nat.le_of_ble_eq_true rfl⟩, hm wd_684, hm wd_13⟩ d_Md_action_18, ?_⟩
  refine List.forall_mem_cons.mpr ⟨fs_ifeq hF d_Md_action_21 (by decide), ?_⟩
  refine List.forall_mem_cons.mpr ⟨fs_load_n hF d_Md_action_24 rfl, ?_⟩
  refine List.forall_mem_cons.mpr ⟨fs_iflt hF d_Md_action_25 (by decide), ?_⟩
  refine List.forall_mem_cons.mpr ⟨fs_load_n hF d_Md_action_28 rfl, ?_⟩
  refine List.forall_mem_cons.mpr ⟨fs_bipush hF d_Md_action_29 (by decide), ?_⟩
  refine List.forall_mem_cons.mpr ⟨fs_cmpgt hF d_Md_action_31 (by decide), ?_⟩
  refine List.forall_mem_cons.mpr ⟨fs_load_n hF d_Md_action_34 rfl, ?_⟩
  refine List.forall_mem_cons.mpr ⟨fs_iflt hF d_Md_action_35 (by decide), ?_⟩
  refine List.forall_mem_cons.mpr ⟨fs_load_n hF d_Md_action_38 rfl, ?_⟩
  refine List.forall_mem_cons.mpr ⟨fs_bipush hF d_Md_action_39 (by decide), ?_⟩
  refine List.forall_mem_cons.mpr ⟨fs_cmpgt hF d_Md_action_41 (by decide), ?_⟩
  refine List.forall_mem_cons.mpr ⟨fs_load hF d_Md_action_44, ?_⟩
  refine List.forall_mem_cons.mpr ⟨fs_iflt hF d_Md_action_46 (by decide), ?_⟩
  refine List.forall_mem_cons.mpr ⟨fs_load hF d_Md_action_49, ?_⟩
  refine List.forall_mem_cons.mpr ⟨fs_ldc hF (hm wd_686) d_Md_action_51, ?_⟩
  refine List.forall_mem_cons.mpr ⟨fs_cmple hF d_Md_action_53 (by decide), ?_⟩
  refine List.forall_mem_cons.mpr ⟨fs_bipush hF d_Md_action_56 (by decide), ?_⟩
  refine List.forall_mem_cons.mpr ⟨fs_ret hC hr d_Md_action_58, ?_⟩
  refine List.forall_mem_cons.mpr ⟨fs_loada_n hF d_Md_action_59 rfl, ?_⟩
  refine List.forall_mem_cons.mpr ⟨g50 _ 60 d_Md_action_60, ?_⟩
  refine List.forall_mem_cons.mpr ⟨fs_loada_n hF d_Md_action_63 rfl, ?_⟩
  refine List.forall_mem_cons.mpr ⟨g110 _ 64 d_Md_action_64, ?_⟩
  refine List.forall_mem_cons.mpr ⟨fs_load_n hF d_Md_action_67 rfl, ?_⟩
  refine List.forall_mem_cons.mpr ⟨fs_ast hC lkMI d_Md_action_68, ?_⟩
  refine List.forall_mem_cons.mpr ⟨fs_loada_n hF d_Md_action_69 rfl, ?_⟩
  refine List.forall_mem_cons.mpr ⟨g53 _ 70 d_Md_action_70, ?_⟩
  refine List.forall_mem_cons.mpr ⟨fs_loada_n hF d_Md_action_73 rfl, ?_⟩
  refine List.forall_mem_cons.mpr ⟨g110 _ 74 d_Md_action_74, ?_⟩
  refine List.forall_mem_cons.mpr ⟨fs_load_n hF d_Md_action_77 rfl, ?_⟩
  refine List.forall_mem_cons.mpr ⟨fs_ast hC lkMI d_Md_action_78, ?_⟩
  refine List.forall_mem_cons.mpr ⟨fs_loada_n hF d_Md_action_79 rfl, ?_⟩
  refine List.forall_mem_cons.mpr ⟨g56 _ 80 d_Md_action_80, ?_⟩
  refine List.forall_mem_cons.mpr ⟨fs_loada_n hF d_Md_action_83 rfl, ?_⟩
  refine List.forall_mem_cons.mpr ⟨g110 _ 84 d_Md_action_84, ?_⟩
  refine List.forall_mem_cons.mpr ⟨fs_load_n hF d_Md_action_87 rfl, ?_⟩
  refine List.forall_mem_cons.mpr ⟨fs_ast hC lkMI d_Md_action_88, ?_⟩
  refine List.forall_mem_cons.mpr ⟨fs_loada_n hF d_Md_action_89 rfl, ?_⟩
  refine List.forall_mem_cons.mpr ⟨g59 _ 90 d_Md_action_90, ?_⟩
  refine List.forall_mem_cons.mpr ⟨fs_loada_n hF d_Md_action_93 rfl, ?_⟩
  refine List.forall_mem_cons.mpr ⟨g110 _ 94 d_Md_action_94, ?_⟩
  refine List.forall_mem_cons.mpr ⟨fs_load hF d_Md_action_97, ?_⟩
  refine List.forall_mem_cons.mpr ⟨fs_ast hC lkMI d_Md_action_99, ?_⟩
  refine List.forall_mem_cons.mpr ⟨fs_loada_n hF d_Md_action_100 rfl, ?_⟩
  refine List.forall_mem_cons.mpr ⟨fs_dup hF d_Md_action_101, ?_⟩
  refine List.forall_mem_cons.mpr ⟨g110 _ 102 d_Md_action_102, ?_⟩
  refine List.forall_mem_cons.mpr ⟨fs_const hF d_Md_action_105 (by decide), ?_⟩
  refine List.forall_mem_cons.mpr ⟨fs_iadd hF d_Md_action_106, ?_⟩
  refine List.forall_mem_cons.mpr ⟨fs_put hC (cN := 0) (j := 17) (ci := 7) (C := R_Md) (T := T_Md) (N := 43) rfl rfl rfl (by decide) ty_Md tk_Md nm_Md rfl (by decide +kernel) (fun w h => List.mem_cons_of_mem _ (in_Md w h)) (hm wd_556) d_Md_action_107, ?_⟩
  refine List.forall_mem_cons.mpr ⟨fs_loada_n hF d_Md_action_110 rfl, ?_⟩
  refine List.forall_mem_cons.mpr ⟨g110 _ 111 d_Md_action_111, ?_⟩
  refine List.forall_mem_cons.mpr ⟨fs_const hF d_Md_action_114 (by decide), ?_⟩
  refine List.forall_mem_cons.mpr ⟨fs_isub hF d_Md_action_115, ?_⟩
  refine List.forall_mem_cons.mpr ⟨fs_ret hC hr d_Md_action_116, ?_⟩
  exact fun _ h => absurd h List.not_mem_nil
abbrev rm_Md_initials : Room := { frames := 0, cells := 0, slots := 0, locals := 0 }
def ws_Md_initials : List Cond := .code y_Md_initials c_Md_initials 3 (some .int) :: TB
abbrev MC_Md_initials (κ : fx_K) : List fx_V → fx_S → (Int32 → fx_S → Prop) → Prop := fx_Met κ.1 κ.2.1 vwCl κ.2.2.1 κ.2.2.2 lyM nwl y_Md_initials ws_Md_initials rm_Md_initials true
def tt_Md_initials (κ : fx_K) (post : Int32 → fx_S → Prop) : List (Nat × fx_M fx_S) := [(0, fm_const 0 1),
  (1, fm_store 1 2),
  (2, fm_const 0 3),
  (3, fm_store 2 4),
  (4, fm_load 2 5),
  (5, fm_loada 0 6),
  (6, fm_get 0 0 9),
  (9, fm_cmpge 37 12),
  (12, fm_loada 0 13),
  (13, fm_getr 0 2 16),
  (16, fm_load 2 17),
  (17, fm_ald lnMZ 18),
  (18, fm_ifeq 29 21),
  (21, fm_load 1 22),
  (22, fm_const 1 23),
  (23, fm_load 2 24),
  (24, fm_ishl 25),
  (25, fm_ior 26),
  (26, fm_goto 30),
  (29, fm_load 1 30),
  (30, fm_store 1 31),
  (31, fm_inc 2 1 34),
  (34, fm_goto 4),
  (37, fm_load 1 38),
  (38, fm_ret post)]
set_option maxHeartbeats 4000000 in
set_option maxRecDepth 100000 in
theorem mo_Md_initials {κ : fx_K} (hq : fx_I κ lyM.length) {av : List fx_V} {S : fx_S} {post : Int32 → fx_S → Prop} (hlen : av.length ≤ 3) (body : ∀ J : fx_J fx_S, (∀ r ∈ tt_Md_initials κ post, fx_Snd J r.1 r.2) → (∀ pc k ls st S, J pc (ls.take k) st S → J pc ls st S) → J 0 av [] S) : MC_Md_initials κ av S post := by
  refine fx_Met_of (cc := c_Md_initials) (nL := 3) (ret := (some .int)) (by decide) rfl hq hlen ?_
  intro p e s m args below meth c hC hr hnw
  refine body _ ?_ fx_W_take
  have hF := hC.1
  have hts := hC.1.2.2.2.2
  have hm : ∀ {w : Cond}, w ∈ TB → w.before args s = true := fun h => hts _ (List.mem_cons_of_mem _ h)
  have g77 : ∀ (Q : State → Prop) (pc : Nat), decode c_Md_initials pc = .ok (.getfield 77, 3) → fx_Snd (fx_W p κ.1 e rm_Md_initials s m args below meth c Q (fx_A κ.2.2.2 lyM.length) 0 0 (fx_P κ.2.1 vwCl κ.2.2.1 κ.2.2.2 lyM) κ.2.2.2 3) pc (fm_get 0 0 (pc + 3)) := fun Q pc hd => fs_get hC (cN := 0) (j := 0) (ci := 7) (C := R_Md) (T := T_Md) (N := 43) rfl rfl rfl (by decide) (fun w h => List.mem_cons_of_mem _ (in_Md w h)) (hm wd_539) hd
  have g13 : ∀ (Q : State → Prop) (pc : Nat), decode c_Md_initials pc = .ok (.getfield 13, 3) → fx_Snd (fx_W p κ.1 e rm_Md_initials s m args below meth c Q (fx_A κ.2.2.2 lyM.length) 0 0 (fx_P κ.2.1 vwCl κ.2.2.1 κ.2.2.2 lyM) κ.2.2.2 3) pc (fm_getr 0 2 (pc + 3)) := fun Q pc hd => fs_getr hC (cN := 0) (j := 2) (ci := 7) (C := R_Md) (T := T_Md) (N := 43) rfl rfl rfl (by decide) (fun w h => List.mem_cons_of_mem _ (in_Md w h)) (hm wd_541) hd
  refine List.forall_mem_cons.mpr ⟨fs_const hF d_Md_initials_0 (by decide), ?_⟩
  refine List.forall_mem_cons.mpr ⟨fs_store_n hF d_Md_initials_1 rfl (by decide), ?_⟩
  refine List.forall_mem_cons.mpr ⟨fs_const hF d_Md_initials_2 (by decide), ?_⟩
  refine List.forall_mem_cons.mpr ⟨fs_store_n hF d_Md_initials_3 rfl (by decide), ?_⟩
  refine List.forall_mem_cons.mpr ⟨fs_load_n hF d_Md_initials_4 rfl, ?_⟩
  refine List.forall_mem_cons.mpr ⟨fs_loada_n hF d_Md_initials_5 rfl, ?_⟩
  refine List.forall_mem_cons.mpr ⟨g77 _ 6 d_Md_initials_6, ?_⟩
  refine List.forall_mem_cons.mpr ⟨fs_cmpge hF d_Md_initials_9 (by decide), ?_⟩
  refine List.forall_mem_cons.mpr ⟨fs_loada_n hF d_Md_initials_12 rfl, ?_⟩
  refine List.forall_mem_cons.mpr ⟨g13 _ 13 d_Md_initials_13, ?_⟩
  refine List.forall_mem_cons.mpr ⟨fs_load_n hF d_Md_initials_16 rfl, ?_⟩
  refine List.forall_mem_cons.mpr ⟨fs_zald hC lkMZ d_Md_initials_17, ?_⟩
  refine List.forall_mem_cons.mpr ⟨fs_ifeq hF d_Md_initials_18 (by decide), ?_⟩
  refine List.forall_mem_cons.mpr ⟨fs_load_n hF d_Md_initials_21 rfl, ?_⟩
  refine List.forall_mem_cons.mpr ⟨fs_const hF d_Md_initials_22 (by decide), ?_⟩
  refine List.forall_mem_cons.mpr ⟨fs_load_n hF d_Md_initials_23 rfl, ?_⟩
  refine List.forall_mem_cons.mpr ⟨fs_ishl hF d_Md_initials_24, ?_⟩
  refine List.forall_mem_cons.mpr ⟨fs_ior hF d_Md_initials_25, ?_⟩
  refine List.forall_mem_cons.mpr ⟨fs_goto hF d_Md_initials_26 (by decide), ?_⟩
  refine List.forall_mem_cons.mpr ⟨fs_load_n hF d_Md_initials_29 rfl, ?_⟩
  refine List.forall_mem_cons.mpr ⟨fs_store_n hF d_Md_initials_30 rfl (by decide), ?_⟩
  refine List.forall_mem_cons.mpr ⟨fs_inc hF d_Md_initials_31 (by decide) (by decide), ?_⟩
  refine List.forall_mem_cons.mpr ⟨fs_goto hF d_Md_initials_34 (by decide), ?_⟩
  refine List.forall_mem_cons.mpr ⟨fs_load_n hF d_Md_initials_37 rfl, ?_⟩
  refine List.forall_mem_cons.mpr ⟨fs_ret hC hr d_Md_initials_38, ?_⟩
  exact fun _ h => absurd h List.not_mem_nil
abbrev rm_Md_unreached : Room := { frames := 1, cells := 0, slots := 0, locals := 22 }
def ws_Md_unreached : List Cond := .code y_Md_unreached c_Md_unreached 4 (some .int) :: TB
abbrev MC_Md_unreached (κ : fx_K) : List fx_V → fx_S → (Int32 → fx_S → Prop) → Prop := fx_Met κ.1 κ.2.1 vwCl κ.2.2.1 κ.2.2.2 lyM nwl y_Md_unreached ws_Md_unreached rm_Md_unreached true
def tt_Md_unreached (κ : fx_K) (post : Int32 → fx_S → Prop) : List (Nat × fx_M fx_S) := [(0, fm_loada 0 1),
  (1, fm_call true 0 0 (MC_Md_initials κ) 4),
  (4, fm_store 1 5),
  (5, fm_const 0 6),
  (6, fm_store 2 7),
  (7, fm_load 2 8),
  (8, fm_const 9 10),
  (10, fm_cmpge 113 13),
  (13, fm_const 0 14),
  (14, fm_store 3 15),
  (15, fm_load 3 16),
  (16, fm_loada 0 17),
  (17, fm_get 0 9 20),
  (20, fm_cmpge 55 23),
  (23, fm_loada 0 24),
  (24, fm_getr 0 8 27),
  (27, fm_load 3 28),
  (28, fm_ald lnMI 29),
  (29, fm_load 1 30),
  (30, fm_const (-1) 31),
  (31, fm_ixor 32),
  (32, fm_iand 33),
  (33, fm_ifne 47 36),
  (36, fm_load 1 37),
  (37, fm_loada 0 38),
  (38, fm_getr 0 9 41),
  (41, fm_load 3 42),
  (42, fm_ald lnMI 43),
  (43, fm_ior 44),
  (44, fm_goto 48),
  (47, fm_load 1 48),
  (48, fm_store 1 49),
  (49, fm_inc 3 1 52),
  (52, fm_goto 15),
  (55, fm_const 0 56),
  (56, fm_store 3 57),
  (57, fm_load 3 58),
  (58, fm_loada 0 59),
  (59, fm_get 0 13 62),
  (62, fm_cmpge 107 65),
  (65, fm_load 1 66),
  (66, fm_loada 0 67),
  (67, fm_getr 0 11 70),
  (70, fm_load 3 71),
  (71, fm_ald lnMI 72),
  (72, fm_calls true 2 (MC_Md_in κ) 75),
  (75, fm_ifeq 99 78),
  (78, fm_loada 0 79),
  (79, fm_getr 0 13 82),
  (82, fm_load 3 83),
  (83, fm_ald lnMI 84),
  (84, fm_const (-1) 85),
  (85, fm_cmpeq 99 88),
  (88, fm_load 1 89),
  (89, fm_loada 0 90),
  (90, fm_getr 0 13 93),
  (93, fm_load 3 94),
  (94, fm_ald lnMI 95),
  (95, fm_ior 96),
  (96, fm_goto 100),
  (99, fm_load 1 100),
  (100, fm_store 1 101),
  (101, fm_inc 3 1 104),
  (104, fm_goto 57),
  (107, fm_inc 2 1 110),
  (110, fm_goto 7),
  (113, fm_const 1 114),
  (114, fm_loada 0 115),
  (115, fm_get 0 0 118),
  (118, fm_ishl 119),
  (119, fm_const 1 120),
  (120, fm_isub 121),
  (121, fm_load 1 122),
  (122, fm_const (-1) 123),
  (123, fm_ixor 124),
  (124, fm_iand 125),
  (125, fm_ret post)]
set_option maxHeartbeats 4000000 in
set_option maxRecDepth 100000 in
theorem mo_Md_unreached {κ : fx_K} (hq : fx_I κ lyM.length) {av : List fx_V} {S : fx_S} {post : Int32 → fx_S → Prop} (hlen : av.length ≤ 4) (body : ∀ J : fx_J fx_S, (∀ r ∈ tt_Md_unreached κ post, fx_Snd J r.1 r.2) → (∀ pc k ls st S, J pc (ls.take k) st S → J pc ls st S) → J 0 av [] S) : MC_Md_unreached κ av S post := by
  refine fx_Met_of (cc := c_Md_unreached) (nL := 4) (ret := (some .int)) (by decide) rfl hq hlen ?_
  intro p e s m args below meth c hC hr hnw
  refine body _ ?_ fx_W_take
  have hF := hC.1
  have hts := hC.1.2.2.2.2
  have hm : ∀ {w : Cond}, w ∈ TB → w.before args s = true := fun h => hts _ (List.mem_cons_of_mem _ h)
  have g100 : ∀ (Q : State → Prop) (pc : Nat), decode c_Md_unreached pc = .ok (.getfield 100, 3) → fx_Snd (fx_W p κ.1 e rm_Md_unreached s m args below meth c Q (fx_A κ.2.2.2 lyM.length) 0 0 (fx_P κ.2.1 vwCl κ.2.2.1 κ.2.2.2 lyM) κ.2.2.2 4) pc (fm_get 0 9 (pc + 3)) := fun Q pc hd => fs_get hC (cN := 0) (j := 9) (ci := 7) (C := R_Md) (T := T_Md) (N := 43) rfl rfl rfl (by decide) (fun w h => List.mem_cons_of_mem _ (in_Md w h)) (hm wd_548) hd
  have g32 : ∀ (Q : State → Prop) (pc : Nat), decode c_Md_unreached pc = .ok (.getfield 32, 3) → fx_Snd (fx_W p κ.1 e rm_Md_unreached s m args below meth c Q (fx_A κ.2.2.2 lyM.length) 0 0 (fx_P κ.2.1 vwCl κ.2.2.1 κ.2.2.2 lyM) κ.2.2.2 4) pc (fm_getr 0 8 (pc + 3)) := fun Q pc hd => fs_getr hC (cN := 0) (j := 10) (ci := 7) (C := R_Md) (T := T_Md) (N := 43) rfl rfl rfl (by decide) (fun w h => List.mem_cons_of_mem _ (in_Md w h)) (hm wd_549) hd
  have g35 : ∀ (Q : State → Prop) (pc : Nat), decode c_Md_unreached pc = .ok (.getfield 35, 3) → fx_Snd (fx_W p κ.1 e rm_Md_unreached s m args below meth c Q (fx_A κ.2.2.2 lyM.length) 0 0 (fx_P κ.2.1 vwCl κ.2.2.1 κ.2.2.2 lyM) κ.2.2.2 4) pc (fm_getr 0 9 (pc + 3)) := fun Q pc hd => fs_getr hC (cN := 0) (j := 11) (ci := 7) (C := R_Md) (T := T_Md) (N := 43) rfl rfl rfl (by decide) (fun w h => List.mem_cons_of_mem _ (in_Md w h)) (hm wd_550) hd
  have g107 : ∀ (Q : State → Prop) (pc : Nat), decode c_Md_unreached pc = .ok (.getfield 107, 3) → fx_Snd (fx_W p κ.1 e rm_Md_unreached s m args below meth c Q (fx_A κ.2.2.2 lyM.length) 0 0 (fx_P κ.2.1 vwCl κ.2.2.1 κ.2.2.2 lyM) κ.2.2.2 4) pc (fm_get 0 13 (pc + 3)) := fun Q pc hd => fs_get hC (cN := 0) (j := 13) (ci := 7) (C := R_Md) (T := T_Md) (N := 43) rfl rfl rfl (by decide) (fun w h => List.mem_cons_of_mem _ (in_Md w h)) (hm wd_552) hd
  have g41 : ∀ (Q : State → Prop) (pc : Nat), decode c_Md_unreached pc = .ok (.getfield 41, 3) → fx_Snd (fx_W p κ.1 e rm_Md_unreached s m args below meth c Q (fx_A κ.2.2.2 lyM.length) 0 0 (fx_P κ.2.1 vwCl κ.2.2.1 κ.2.2.2 lyM) κ.2.2.2 4) pc (fm_getr 0 11 (pc + 3)) := fun Q pc hd => fs_getr hC (cN := 0) (j := 14) (ci := 7) (C := R_Md) (T := T_Md) (N := 43) rfl rfl rfl (by decide) (fun w h => List.mem_cons_of_mem _ (in_Md w h)) (hm wd_553) hd
  have g47 : ∀ (Q : State → Prop) (pc : Nat), decode c_Md_unreached pc = .ok (.getfield 47, 3) → fx_Snd (fx_W p κ.1 e rm_Md_unreached s m args below meth c Q (fx_A κ.2.2.2 lyM.length) 0 0 (fx_P κ.2.1 vwCl κ.2.2.1 κ.2.2.2 lyM) κ.2.2.2 4) pc (fm_getr 0 13 (pc + 3)) := fun Q pc hd => fs_getr hC (cN := 0) (j := 16) (ci := 7) (C := R_Md) (T := T_Md) (N := 43) rfl rfl rfl (by decide) (fun w h => List.mem_cons_of_mem _ (in_Md w h)) (hm wd_555) hd
  have g77 : ∀ (Q : State → Prop) (pc : Nat), decode c_Md_unreached pc = .ok (.getfield 77, 3) → fx_Snd (fx_W p κ.1 e rm_Md_unreached s m args below meth c Q (fx_A κ.2.2.2 lyM.length) 0 0 (fx_P κ.2.1 vwCl κ.2.2.1 κ.2.2.2 lyM) κ.2.2.2 4) pc (fm_get 0 0 (pc + 3)) := fun Q pc hd => fs_get hC (cN := 0) (j := 0) (ci := 7) (C := R_Md) (T := T_Md) (N := 43) rfl rfl rfl (by decide) (fun w h => List.mem_cons_of_mem _ (in_Md w h)) (hm wd_539) hd
  refine List.forall_mem_cons.mpr ⟨fs_loada_n hF d_Md_unreached_0 rfl, ?_⟩
  refine List.forall_mem_cons.mpr ⟨fs_callV hC nwl_ok hnw (cN := 0) (ci := 7) (C := R_Md) rfl rfl ⟨callB_of 0 hts (tb_good wd_714) rfl rfl rfl (hm wd_39) (hm wd_711) pd_Md_initials ⟨Nat.le_of_ble_eq_true rfl, Nat.le_of_ble_eq_true rfl⟩, hm wd_713, hm wd_16⟩ d_Md_unreached_1, ?_⟩
  refine List.forall_mem_cons.mpr ⟨fs_store_n hF d_Md_unreached_4 rfl (by decide), ?_⟩
  refine List.forall_mem_cons.mpr ⟨fs_const hF d_Md_unreached_5 (by decide), ?_⟩
  refine List.forall_mem_cons.mpr ⟨fs_store_n hF d_Md_unreached_6 rfl (by decide), ?_⟩
  refine List.forall_mem_cons.mpr ⟨fs_load_n hF d_Md_unreached_7 rfl, ?_⟩
  refine List.forall_mem_cons.mpr ⟨fs_bipush hF d_Md_unreached_8 (by decide), ?_⟩
  refine List.forall_mem_cons.mpr ⟨fs_cmpge hF d_Md_unreached_10 (by decide), ?_⟩
  refine List.forall_mem_cons.mpr ⟨fs_const hF d_Md_unreached_13 (by decide), ?_⟩
  refine List.forall_mem_cons.mpr ⟨fs_store_n hF d_Md_unreached_14 rfl (by decide), ?_⟩
  refine List.forall_mem_cons.mpr ⟨fs_load_n hF d_Md_unreached_15 rfl, ?_⟩
  refine List.forall_mem_cons.mpr ⟨fs_loada_n hF d_Md_unreached_16 rfl, ?_⟩
  refine List.forall_mem_cons.mpr ⟨g100 _ 17 d_Md_unreached_17, ?_⟩
  refine List.forall_mem_cons.mpr ⟨fs_cmpge hF d_Md_unreached_20 (by decide), ?_⟩
  refine List.forall_mem_cons.mpr ⟨fs_loada_n hF d_Md_unreached_23 rfl, ?_⟩
  refine List.forall_mem_cons.mpr ⟨g32 _ 24 d_Md_unreached_24, ?_⟩
  refine List.forall_mem_cons.mpr ⟨fs_load_n hF d_Md_unreached_27 rfl, ?_⟩
  refine List.forall_mem_cons.mpr ⟨fs_ald hC lkMI d_Md_unreached_28, ?_⟩
  refine List.forall_mem_cons.mpr ⟨fs_load_n hF d_Md_unreached_29 rfl, ?_⟩
  refine List.forall_mem_cons.mpr ⟨fs_const hF d_Md_unreached_30 (by decide), ?_⟩
  refine List.forall_mem_cons.mpr ⟨fs_ixor hF d_Md_unreached_31, ?_⟩
  refine List.forall_mem_cons.mpr ⟨fs_iand hF d_Md_unreached_32, ?_⟩
  refine List.forall_mem_cons.mpr ⟨fs_ifne hF d_Md_unreached_33 (by decide), ?_⟩
  refine List.forall_mem_cons.mpr ⟨fs_load_n hF d_Md_unreached_36 rfl, ?_⟩
  refine List.forall_mem_cons.mpr ⟨fs_loada_n hF d_Md_unreached_37 rfl, ?_⟩
  refine List.forall_mem_cons.mpr ⟨g35 _ 38 d_Md_unreached_38, ?_⟩
  refine List.forall_mem_cons.mpr ⟨fs_load_n hF d_Md_unreached_41 rfl, ?_⟩
  refine List.forall_mem_cons.mpr ⟨fs_ald hC lkMI d_Md_unreached_42, ?_⟩
  refine List.forall_mem_cons.mpr ⟨fs_ior hF d_Md_unreached_43, ?_⟩
  refine List.forall_mem_cons.mpr ⟨fs_goto hF d_Md_unreached_44 (by decide), ?_⟩
  refine List.forall_mem_cons.mpr ⟨fs_load_n hF d_Md_unreached_47 rfl, ?_⟩
  refine List.forall_mem_cons.mpr ⟨fs_store_n hF d_Md_unreached_48 rfl (by decide), ?_⟩
  refine List.forall_mem_cons.mpr ⟨fs_inc hF d_Md_unreached_49 (by decide) (by decide), ?_⟩
  refine List.forall_mem_cons.mpr ⟨fs_goto hF d_Md_unreached_52 (by decide), ?_⟩
  refine List.forall_mem_cons.mpr ⟨fs_const hF d_Md_unreached_55 (by decide), ?_⟩
  refine List.forall_mem_cons.mpr ⟨fs_store_n hF d_Md_unreached_56 rfl (by decide), ?_⟩
  refine List.forall_mem_cons.mpr ⟨fs_load_n hF d_Md_unreached_57 rfl, ?_⟩
  refine List.forall_mem_cons.mpr ⟨fs_loada_n hF d_Md_unreached_58 rfl, ?_⟩
  refine List.forall_mem_cons.mpr ⟨g107 _ 59 d_Md_unreached_59, ?_⟩
  refine List.forall_mem_cons.mpr ⟨fs_cmpge hF d_Md_unreached_62 (by decide), ?_⟩
  refine List.forall_mem_cons.mpr ⟨fs_load_n hF d_Md_unreached_65 rfl, ?_⟩
  refine List.forall_mem_cons.mpr ⟨fs_loada_n hF d_Md_unreached_66 rfl, ?_⟩
  refine List.forall_mem_cons.mpr ⟨g41 _ 67 d_Md_unreached_67, ?_⟩
  refine List.forall_mem_cons.mpr ⟨fs_load_n hF d_Md_unreached_70 rfl, ?_⟩
  refine List.forall_mem_cons.mpr ⟨fs_ald hC lkMI d_Md_unreached_71, ?_⟩
  refine List.forall_mem_cons.mpr ⟨fs_callS hC nwl_ok hnw ⟨callB_of 2 hts (tb_good wd_717) rfl rfl rfl (hm wd_39) (hm wd_715) pd_Md_in ⟨Nat.le_of_ble_eq_true rfl, Nat.le_of_ble_eq_true rfl⟩, hm wd_716⟩ d_Md_unreached_72, ?_⟩
  refine List.forall_mem_cons.mpr ⟨fs_ifeq hF d_Md_unreached_75 (by decide), ?_⟩
  refine List.forall_mem_cons.mpr ⟨fs_loada_n hF d_Md_unreached_78 rfl, ?_⟩
  refine List.forall_mem_cons.mpr ⟨g47 _ 79 d_Md_unreached_79, ?_⟩
  refine List.forall_mem_cons.mpr ⟨fs_load_n hF d_Md_unreached_82 rfl, ?_⟩
  refine List.forall_mem_cons.mpr ⟨fs_ald hC lkMI d_Md_unreached_83, ?_⟩
  refine List.forall_mem_cons.mpr ⟨fs_const hF d_Md_unreached_84 (by decide), ?_⟩
  refine List.forall_mem_cons.mpr ⟨fs_cmpeq hF d_Md_unreached_85 (by decide), ?_⟩
  refine List.forall_mem_cons.mpr ⟨fs_load_n hF d_Md_unreached_88 rfl, ?_⟩
  refine List.forall_mem_cons.mpr ⟨fs_loada_n hF d_Md_unreached_89 rfl, ?_⟩
  refine List.forall_mem_cons.mpr ⟨g47 _ 90 d_Md_unreached_90, ?_⟩
  refine List.forall_mem_cons.mpr ⟨fs_load_n hF d_Md_unreached_93 rfl, ?_⟩
  refine List.forall_mem_cons.mpr ⟨fs_ald hC lkMI d_Md_unreached_94, ?_⟩
  refine List.forall_mem_cons.mpr ⟨fs_ior hF d_Md_unreached_95, ?_⟩
  refine List.forall_mem_cons.mpr ⟨fs_goto hF d_Md_unreached_96 (by decide), ?_⟩
  refine List.forall_mem_cons.mpr ⟨fs_load_n hF d_Md_unreached_99 rfl, ?_⟩
  refine List.forall_mem_cons.mpr ⟨fs_store_n hF d_Md_unreached_100 rfl (by decide), ?_⟩
  refine List.forall_mem_cons.mpr ⟨fs_inc hF d_Md_unreached_101 (by decide) (by decide), ?_⟩
  refine List.forall_mem_cons.mpr ⟨fs_goto hF d_Md_unreached_104 (by decide), ?_⟩
  refine List.forall_mem_cons.mpr ⟨fs_inc hF d_Md_unreached_107 (by decide) (by decide), ?_⟩
  refine List.forall_mem_cons.mpr ⟨fs_goto hF d_Md_unreached_110 (by decide), ?_⟩
  refine List.forall_mem_cons.mpr ⟨fs_const hF d_Md_unreached_113 (by decide), ?_⟩
  refine List.forall_mem_cons.mpr ⟨fs_loada_n hF d_Md_unreached_114 rfl, ?_⟩
  refine List.forall_mem_cons.mpr ⟨g77 _ 115 d_Md_unreached_115, ?_⟩
  refine List.forall_mem_cons.mpr ⟨fs_ishl hF d_Md_unreached_118, ?_⟩
  refine List.forall_mem_cons.mpr ⟨fs_const hF d_Md_unreached_119 (by decide), ?_⟩
  refine List.forall_mem_cons.mpr ⟨fs_isub hF d_Md_unreached_120, ?_⟩
  refine List.forall_mem_cons.mpr ⟨fs_load_n hF d_Md_unreached_121 rfl, ?_⟩
  refine List.forall_mem_cons.mpr ⟨fs_const hF d_Md_unreached_122 (by decide), ?_⟩
  refine List.forall_mem_cons.mpr ⟨fs_ixor hF d_Md_unreached_123, ?_⟩
  refine List.forall_mem_cons.mpr ⟨fs_iand hF d_Md_unreached_124, ?_⟩
  refine List.forall_mem_cons.mpr ⟨fs_ret hC hr d_Md_unreached_125, ?_⟩
  exact fun _ h => absurd h List.not_mem_nil
abbrev rm_Md_blank : Room := { frames := 0, cells := 0, slots := 0, locals := 0 }
def ws_Md_blank : List Cond := .code y_Md_blank c_Md_blank 2 none :: TB
abbrev MC_Md_blank (κ : fx_K) : List fx_V → fx_S → (Int32 → fx_S → Prop) → Prop := fx_Met κ.1 κ.2.1 vwCl κ.2.2.1 κ.2.2.2 lyM nwl y_Md_blank ws_Md_blank rm_Md_blank false
def tt_Md_blank (κ : fx_K) (post : Int32 → fx_S → Prop) : List (Nat × fx_M fx_S) := [(0, fm_loada 0 1),
  (1, fm_const 0 2),
  (2, fm_put 0 26 5),
  (5, fm_loada 0 6),
  (6, fm_const 0 7),
  (7, fm_put 0 28 10),
  (10, fm_loada 0 11),
  (11, fm_const 0 12),
  (12, fm_put 0 29 15),
  (15, fm_loada 0 16),
  (16, fm_const 0 17),
  (17, fm_put 0 30 20),
  (20, fm_loada 0 21),
  (21, fm_const 0 22),
  (22, fm_put 0 31 25),
  (25, fm_loada 0 26),
  (26, fm_const 0 27),
  (27, fm_put 0 32 30),
  (30, fm_loada 0 31),
  (31, fm_const 0 32),
  (32, fm_put 0 33 35),
  (35, fm_loada 0 36),
  (36, fm_const 0 37),
  (37, fm_put 0 34 40),
  (40, fm_const 0 41),
  (41, fm_store 1 42),
  (42, fm_load 1 43),
  (43, fm_const 8 45),
  (45, fm_cmpge 61 48),
  (48, fm_loada 0 49),
  (49, fm_getr 0 20 52),
  (52, fm_load 1 53),
  (53, fm_const 0 54),
  (54, fm_ast lnMI 55),
  (55, fm_inc 1 1 58),
  (58, fm_goto 42),
  (61, fm_const 0 62),
  (62, fm_store 1 63),
  (63, fm_load 1 64),
  (64, fm_const 12 66),
  (66, fm_cmpge 89 69),
  (69, fm_loada 0 70),
  (70, fm_getr 0 18 73),
  (73, fm_load 1 74),
  (74, fm_const 0 75),
  (75, fm_zast lnMZ 76),
  (76, fm_loada 0 77),
  (77, fm_getr 0 19 80),
  (80, fm_load 1 81),
  (81, fm_const 0 82),
  (82, fm_ast lnMI 83),
  (83, fm_inc 1 1 86),
  (86, fm_goto 63),
  (89, fm_vret post)]
set_option maxHeartbeats 4000000 in
set_option maxRecDepth 100000 in
theorem mo_Md_blank {κ : fx_K} (hq : fx_I κ lyM.length) {av : List fx_V} {S : fx_S} {post : Int32 → fx_S → Prop} (hlen : av.length ≤ 2) (body : ∀ J : fx_J fx_S, (∀ r ∈ tt_Md_blank κ post, fx_Snd J r.1 r.2) → (∀ pc k ls st S, J pc (ls.take k) st S → J pc ls st S) → J 0 av [] S) : MC_Md_blank κ av S post := by
  refine fx_Met_of (cc := c_Md_blank) (nL := 2) (ret := none) (by decide) rfl hq hlen ?_
  intro p e s m args below meth c hC hr hnw
  refine body _ ?_ fx_W_take
  have hF := hC.1
  have hts := hC.1.2.2.2.2
  have hm : ∀ {w : Cond}, w ∈ TB → w.before args s = true := fun h => hts _ (List.mem_cons_of_mem _ h)
  have g68 : ∀ (Q : State → Prop) (pc : Nat), decode c_Md_blank pc = .ok (.getfield 68, 3) → fx_Snd (fx_W p κ.1 e rm_Md_blank s m args below meth c Q (fx_A κ.2.2.2 lyM.length) 0 0 (fx_P κ.2.1 vwCl κ.2.2.1 κ.2.2.2 lyM) κ.2.2.2 2) pc (fm_getr 0 20 (pc + 3)) := fun Q pc hd => fs_getr hC (cN := 0) (j := 27) (ci := 7) (C := R_Md) (T := T_Md) (N := 43) rfl rfl rfl (by decide) (fun w h => List.mem_cons_of_mem _ (in_Md w h)) (hm wd_566) hd
  have g62 : ∀ (Q : State → Prop) (pc : Nat), decode c_Md_blank pc = .ok (.getfield 62, 3) → fx_Snd (fx_W p κ.1 e rm_Md_blank s m args below meth c Q (fx_A κ.2.2.2 lyM.length) 0 0 (fx_P κ.2.1 vwCl κ.2.2.1 κ.2.2.2 lyM) κ.2.2.2 2) pc (fm_getr 0 18 (pc + 3)) := fun Q pc hd => fs_getr hC (cN := 0) (j := 22) (ci := 7) (C := R_Md) (T := T_Md) (N := 43) rfl rfl rfl (by decide) (fun w h => List.mem_cons_of_mem _ (in_Md w h)) (hm wd_561) hd
  have g65 : ∀ (Q : State → Prop) (pc : Nat), decode c_Md_blank pc = .ok (.getfield 65, 3) → fx_Snd (fx_W p κ.1 e rm_Md_blank s m args below meth c Q (fx_A κ.2.2.2 lyM.length) 0 0 (fx_P κ.2.1 vwCl κ.2.2.1 κ.2.2.2 lyM) κ.2.2.2 2) pc (fm_getr 0 19 (pc + 3)) := fun Q pc hd => fs_getr hC (cN := 0) (j := 23) (ci := 7) (C := R_Md) (T := T_Md) (N := 43) rfl rfl rfl (by decide) (fun w h => List.mem_cons_of_mem _ (in_Md w h)) (hm wd_562) hd
  refine List.forall_mem_cons.mpr ⟨fs_loada_n hF d_Md_blank_0 rfl, ?_⟩
  refine List.forall_mem_cons.mpr ⟨fs_const hF d_Md_blank_1 (by decide), ?_⟩
  refine List.forall_mem_cons.mpr ⟨fs_put hC (cN := 0) (j := 26) (ci := 7) (C := R_Md) (T := T_Md) (N := 43) rfl rfl rfl (by decide) ty_Md tk_Md nm_Md rfl (by decide +kernel) (fun w h => List.mem_cons_of_mem _ (in_Md w h)) (hm wd_565) d_Md_blank_2, ?_⟩
  refine List.forall_mem_cons.mpr ⟨fs_loada_n hF d_Md_blank_5 rfl, ?_⟩
  refine List.forall_mem_cons.mpr ⟨fs_const hF d_Md_blank_6 (by decide), ?_⟩
  refine List.forall_mem_cons.mpr ⟨fs_put hC (cN := 0) (j := 28) (ci := 7) (C := R_Md) (T := T_Md) (N := 43) rfl rfl rfl (by decide) ty_Md tk_Md nm_Md rfl (by decide +kernel) (fun w h => List.mem_cons_of_mem _ (in_Md w h)) (hm wd_567) d_Md_blank_7, ?_⟩
  refine List.forall_mem_cons.mpr ⟨fs_loada_n hF d_Md_blank_10 rfl, ?_⟩
  refine List.forall_mem_cons.mpr ⟨fs_const hF d_Md_blank_11 (by decide), ?_⟩
  refine List.forall_mem_cons.mpr ⟨fs_put hC (cN := 0) (j := 29) (ci := 7) (C := R_Md) (T := T_Md) (N := 43) rfl rfl rfl (by decide) ty_Md tk_Md nm_Md rfl (by decide +kernel) (fun w h => List.mem_cons_of_mem _ (in_Md w h)) (hm wd_568) d_Md_blank_12, ?_⟩
  refine List.forall_mem_cons.mpr ⟨fs_loada_n hF d_Md_blank_15 rfl, ?_⟩
  refine List.forall_mem_cons.mpr ⟨fs_const hF d_Md_blank_16 (by decide), ?_⟩
  refine List.forall_mem_cons.mpr ⟨fs_put hC (cN := 0) (j := 30) (ci := 7) (C := R_Md) (T := T_Md) (N := 43) rfl rfl rfl (by decide) ty_Md tk_Md nm_Md rfl (by decide +kernel) (fun w h => List.mem_cons_of_mem _ (in_Md w h)) (hm wd_569) d_Md_blank_17, ?_⟩
  refine List.forall_mem_cons.mpr ⟨fs_loada_n hF d_Md_blank_20 rfl, ?_⟩
  refine List.forall_mem_cons.mpr ⟨fs_const hF d_Md_blank_21 (by decide), ?_⟩
  refine List.forall_mem_cons.mpr ⟨fs_put hC (cN := 0) (j := 31) (ci := 7) (C := R_Md) (T := T_Md) (N := 43) rfl rfl rfl (by decide) ty_Md tk_Md nm_Md rfl (by decide +kernel) (fun w h => List.mem_cons_of_mem _ (in_Md w h)) (hm wd_570) d_Md_blank_22, ?_⟩
  refine List.forall_mem_cons.mpr ⟨fs_loada_n hF d_Md_blank_25 rfl, ?_⟩
  refine List.forall_mem_cons.mpr ⟨fs_const hF d_Md_blank_26 (by decide), ?_⟩
  refine List.forall_mem_cons.mpr ⟨fs_put hC (cN := 0) (j := 32) (ci := 7) (C := R_Md) (T := T_Md) (N := 43) rfl rfl rfl (by decide) ty_Md tk_Md nm_Md rfl (by decide +kernel) (fun w h => List.mem_cons_of_mem _ (in_Md w h)) (hm wd_571) d_Md_blank_27, ?_⟩
  refine List.forall_mem_cons.mpr ⟨fs_loada_n hF d_Md_blank_30 rfl, ?_⟩
  refine List.forall_mem_cons.mpr ⟨fs_const hF d_Md_blank_31 (by decide), ?_⟩
  refine List.forall_mem_cons.mpr ⟨fs_put hC (cN := 0) (j := 33) (ci := 7) (C := R_Md) (T := T_Md) (N := 43) rfl rfl rfl (by decide) ty_Md tk_Md nm_Md rfl (by decide +kernel) (fun w h => List.mem_cons_of_mem _ (in_Md w h)) (hm wd_572) d_Md_blank_32, ?_⟩
  refine List.forall_mem_cons.mpr ⟨fs_loada_n hF d_Md_blank_35 rfl, ?_⟩
  refine List.forall_mem_cons.mpr ⟨fs_const hF d_Md_blank_36 (by decide), ?_⟩
  refine List.forall_mem_cons.mpr ⟨fs_put hC (cN := 0) (j := 34) (ci := 7) (C := R_Md) (T := T_Md) (N := 43) rfl rfl rfl (by decide) ty_Md tk_Md nm_Md rfl (by decide +kernel) (fun w h => List.mem_cons_of_mem _ (in_Md w h)) (hm wd_573) d_Md_blank_37, ?_⟩
  refine List.forall_mem_cons.mpr ⟨fs_const hF d_Md_blank_40 (by decide), ?_⟩
  refine List.forall_mem_cons.mpr ⟨fs_store_n hF d_Md_blank_41 rfl (by decide), ?_⟩
  refine List.forall_mem_cons.mpr ⟨fs_load_n hF d_Md_blank_42 rfl, ?_⟩
  refine List.forall_mem_cons.mpr ⟨fs_bipush hF d_Md_blank_43 (by decide), ?_⟩
  refine List.forall_mem_cons.mpr ⟨fs_cmpge hF d_Md_blank_45 (by decide), ?_⟩
  refine List.forall_mem_cons.mpr ⟨fs_loada_n hF d_Md_blank_48 rfl, ?_⟩
  refine List.forall_mem_cons.mpr ⟨g68 _ 49 d_Md_blank_49, ?_⟩
  refine List.forall_mem_cons.mpr ⟨fs_load_n hF d_Md_blank_52 rfl, ?_⟩
  refine List.forall_mem_cons.mpr ⟨fs_const hF d_Md_blank_53 (by decide), ?_⟩
  refine List.forall_mem_cons.mpr ⟨fs_ast hC lkMI d_Md_blank_54, ?_⟩
  refine List.forall_mem_cons.mpr ⟨fs_inc hF d_Md_blank_55 (by decide) (by decide), ?_⟩
  refine List.forall_mem_cons.mpr ⟨fs_goto hF d_Md_blank_58 (by decide), ?_⟩
  refine List.forall_mem_cons.mpr ⟨fs_const hF d_Md_blank_61 (by decide), ?_⟩
  refine List.forall_mem_cons.mpr ⟨fs_store_n hF d_Md_blank_62 rfl (by decide), ?_⟩
  refine List.forall_mem_cons.mpr ⟨fs_load_n hF d_Md_blank_63 rfl, ?_⟩
  refine List.forall_mem_cons.mpr ⟨fs_bipush hF d_Md_blank_64 (by decide), ?_⟩
  refine List.forall_mem_cons.mpr ⟨fs_cmpge hF d_Md_blank_66 (by decide), ?_⟩
  refine List.forall_mem_cons.mpr ⟨fs_loada_n hF d_Md_blank_69 rfl, ?_⟩
  refine List.forall_mem_cons.mpr ⟨g62 _ 70 d_Md_blank_70, ?_⟩
  refine List.forall_mem_cons.mpr ⟨fs_load_n hF d_Md_blank_73 rfl, ?_⟩
  refine List.forall_mem_cons.mpr ⟨fs_const hF d_Md_blank_74 (by decide), ?_⟩
  refine List.forall_mem_cons.mpr ⟨fs_zast hC lkMZ d_Md_blank_75, ?_⟩
  refine List.forall_mem_cons.mpr ⟨fs_loada_n hF d_Md_blank_76 rfl, ?_⟩
  refine List.forall_mem_cons.mpr ⟨g65 _ 77 d_Md_blank_77, ?_⟩
  refine List.forall_mem_cons.mpr ⟨fs_load_n hF d_Md_blank_80 rfl, ?_⟩
  refine List.forall_mem_cons.mpr ⟨fs_const hF d_Md_blank_81 (by decide), ?_⟩
  refine List.forall_mem_cons.mpr ⟨fs_ast hC lkMI d_Md_blank_82, ?_⟩
  refine List.forall_mem_cons.mpr ⟨fs_inc hF d_Md_blank_83 (by decide) (by decide), ?_⟩
  refine List.forall_mem_cons.mpr ⟨fs_goto hF d_Md_blank_86 (by decide), ?_⟩
  refine List.forall_mem_cons.mpr ⟨fs_vret hC hr d_Md_blank_89, ?_⟩
  exact fun _ h => absurd h List.not_mem_nil
abbrev rm_Md_start : Room := { frames := 1, cells := 0, slots := 0, locals := 22 }
def ws_Md_start : List Cond := .code y_Md_start c_Md_start 2 (some .boolean) :: TB
abbrev MC_Md_start (κ : fx_K) : List fx_V → fx_S → (Int32 → fx_S → Prop) → Prop := fx_Met κ.1 κ.2.1 vwCl κ.2.2.1 κ.2.2.2 lyM nwl y_Md_start ws_Md_start rm_Md_start true
def tt_Md_start (κ : fx_K) (post : Int32 → fx_S → Prop) : List (Nat × fx_M fx_S) := [(0, fm_loada 0 1),
  (1, fm_get 0 24 4),
  (4, fm_ifne 14 7),
  (7, fm_loada 0 8),
  (8, fm_call true 0 0 (MC_Md_initials κ) 11),
  (11, fm_ifne 16 14),
  (14, fm_const 0 15),
  (15, fm_zret post),
  (16, fm_loada 0 17),
  (17, fm_call false 0 0 (MC_Md_blank κ) 20),
  (20, fm_loada 0 21),
  (21, fm_const 1 22),
  (22, fm_putz 0 24 25),
  (25, fm_loada 0 26),
  (26, fm_load 1 27),
  (27, fm_putz 0 25 30),
  (30, fm_loada 0 31),
  (31, fm_loada 0 32),
  (32, fm_call true 0 0 (MC_Md_initials κ) 35),
  (35, fm_put 0 26 38),
  (38, fm_const 1 39),
  (39, fm_zret post)]
set_option maxHeartbeats 4000000 in
set_option maxRecDepth 100000 in
theorem mo_Md_start {κ : fx_K} (hq : fx_I κ lyM.length) {av : List fx_V} {S : fx_S} {post : Int32 → fx_S → Prop} (hlen : av.length ≤ 2) (body : ∀ J : fx_J fx_S, (∀ r ∈ tt_Md_start κ post, fx_Snd J r.1 r.2) → (∀ pc k ls st S, J pc (ls.take k) st S → J pc ls st S) → J 0 av [] S) : MC_Md_start κ av S post := by
  refine fx_Met_of (cc := c_Md_start) (nL := 2) (ret := (some .boolean)) (by decide) rfl hq hlen ?_
  intro p e s m args below meth c hC hr hnw
  refine body _ ?_ fx_W_take
  have hF := hC.1
  have hts := hC.1.2.2.2.2
  have hm : ∀ {w : Cond}, w ∈ TB → w.before args s = true := fun h => hts _ (List.mem_cons_of_mem _ h)
  have g84 : ∀ (Q : State → Prop) (pc : Nat), decode c_Md_start pc = .ok (.getfield 84, 3) → fx_Snd (fx_W p κ.1 e rm_Md_start s m args below meth c Q (fx_A κ.2.2.2 lyM.length) 0 0 (fx_P κ.2.1 vwCl κ.2.2.1 κ.2.2.2 lyM) κ.2.2.2 2) pc (fm_get 0 24 (pc + 3)) := fun Q pc hd => fs_get hC (cN := 0) (j := 24) (ci := 7) (C := R_Md) (T := T_Md) (N := 43) rfl rfl rfl (by decide) (fun w h => List.mem_cons_of_mem _ (in_Md w h)) (hm wd_563) hd
  refine List.forall_mem_cons.mpr ⟨fs_loada_n hF d_Md_start_0 rfl, ?_⟩
  refine List.forall_mem_cons.mpr ⟨g84 _ 1 d_Md_start_1, ?_⟩
  refine List.forall_mem_cons.mpr ⟨fs_ifne hF d_Md_start_4 (by decide), ?_⟩
  refine List.forall_mem_cons.mpr ⟨fs_loada_n hF d_Md_start_7 rfl, ?_⟩
  refine List.forall_mem_cons.mpr ⟨fs_callV hC nwl_ok hnw (cN := 0) (ci := 7) (C := R_Md) rfl rfl ⟨callB_of 0 hts (tb_good wd_714) rfl rfl rfl (hm wd_39) (hm wd_711) pd_Md_initials ⟨Nat.le_of_ble_eq_true rfl, Nat.le_of_ble_eq_true rfl⟩, hm wd_713, hm wd_16⟩ d_Md_start_8, ?_⟩
  refine List.forall_mem_cons.mpr ⟨fs_ifne hF d_Md_start_11 (by decide), ?_⟩
  refine List.forall_mem_cons.mpr ⟨fs_const hF d_Md_start_14 (by decide), ?_⟩
  refine List.forall_mem_cons.mpr ⟨fs_zret hC hr d_Md_start_15, ?_⟩
  refine List.forall_mem_cons.mpr ⟨fs_loada_n hF d_Md_start_16 rfl, ?_⟩
  refine List.forall_mem_cons.mpr ⟨fs_callV hC nwl_ok hnw (cN := 0) (ci := 7) (C := R_Md) rfl rfl ⟨callB_of 0 hts (tb_good wd_725) rfl rfl rfl (hm wd_39) (hm wd_722) pd_Md_blank ⟨Nat.le_of_ble_eq_true rfl, Nat.le_of_ble_eq_true rfl⟩, hm wd_724, hm wd_17⟩ d_Md_start_17, ?_⟩
  refine List.forall_mem_cons.mpr ⟨fs_loada_n hF d_Md_start_20 rfl, ?_⟩
  refine List.forall_mem_cons.mpr ⟨fs_const hF d_Md_start_21 (by decide), ?_⟩
  refine List.forall_mem_cons.mpr ⟨fs_putz hC (cN := 0) (j := 24) (ci := 7) (C := R_Md) (T := T_Md) (N := 43) rfl rfl rfl (by decide) ty_Md tk_Md nm_Md rfl (by decide +kernel) (fun w h => List.mem_cons_of_mem _ (in_Md w h)) (hm wd_563) d_Md_start_22, ?_⟩
  refine List.forall_mem_cons.mpr ⟨fs_loada_n hF d_Md_start_25 rfl, ?_⟩
  refine List.forall_mem_cons.mpr ⟨fs_load_n hF d_Md_start_26 rfl, ?_⟩
  refine List.forall_mem_cons.mpr ⟨fs_putz hC (cN := 0) (j := 25) (ci := 7) (C := R_Md) (T := T_Md) (N := 43) rfl rfl rfl (by decide) ty_Md tk_Md nm_Md rfl (by decide +kernel) (fun w h => List.mem_cons_of_mem _ (in_Md w h)) (hm wd_564) d_Md_start_27, ?_⟩
  refine List.forall_mem_cons.mpr ⟨fs_loada_n hF d_Md_start_30 rfl, ?_⟩
  refine List.forall_mem_cons.mpr ⟨fs_loada_n hF d_Md_start_31 rfl, ?_⟩
  refine List.forall_mem_cons.mpr ⟨fs_callV hC nwl_ok hnw (cN := 0) (ci := 7) (C := R_Md) rfl rfl ⟨callB_of 0 hts (tb_good wd_714) rfl rfl rfl (hm wd_39) (hm wd_711) pd_Md_initials ⟨Nat.le_of_ble_eq_true rfl, Nat.le_of_ble_eq_true rfl⟩, hm wd_713, hm wd_16⟩ d_Md_start_32, ?_⟩
  refine List.forall_mem_cons.mpr ⟨fs_put hC (cN := 0) (j := 26) (ci := 7) (C := R_Md) (T := T_Md) (N := 43) rfl rfl rfl (by decide) ty_Md tk_Md nm_Md rfl (by decide +kernel) (fun w h => List.mem_cons_of_mem _ (in_Md w h)) (hm wd_565) d_Md_start_35, ?_⟩
  refine List.forall_mem_cons.mpr ⟨fs_const hF d_Md_start_38 (by decide), ?_⟩
  refine List.forall_mem_cons.mpr ⟨fs_zret hC hr d_Md_start_39, ?_⟩
  exact fun _ h => absurd h List.not_mem_nil
abbrev rm_Md_stop : Room := { frames := 1, cells := 0, slots := 0, locals := 21 }
def ws_Md_stop : List Cond := .code y_Md_stop c_Md_stop 1 none :: TB
abbrev MC_Md_stop (κ : fx_K) : List fx_V → fx_S → (Int32 → fx_S → Prop) → Prop := fx_Met κ.1 κ.2.1 vwCl κ.2.2.1 κ.2.2.2 lyM nwl y_Md_stop ws_Md_stop rm_Md_stop false
def tt_Md_stop (κ : fx_K) (post : Int32 → fx_S → Prop) : List (Nat × fx_M fx_S) := [(0, fm_loada 0 1),
  (1, fm_call false 0 0 (MC_Md_blank κ) 4),
  (4, fm_loada 0 5),
  (5, fm_const 0 6),
  (6, fm_putz 0 24 9),
  (9, fm_vret post)]
set_option maxHeartbeats 4000000 in
set_option maxRecDepth 100000 in
theorem mo_Md_stop {κ : fx_K} (hq : fx_I κ lyM.length) {av : List fx_V} {S : fx_S} {post : Int32 → fx_S → Prop} (hlen : av.length ≤ 1) (body : ∀ J : fx_J fx_S, (∀ r ∈ tt_Md_stop κ post, fx_Snd J r.1 r.2) → (∀ pc k ls st S, J pc (ls.take k) st S → J pc ls st S) → J 0 av [] S) : MC_Md_stop κ av S post := by
  refine fx_Met_of (cc := c_Md_stop) (nL := 1) (ret := none) (by decide) rfl hq hlen ?_
  intro p e s m args below meth c hC hr hnw
  refine body _ ?_ fx_W_take
  have hF := hC.1
  have hts := hC.1.2.2.2.2
  have hm : ∀ {w : Cond}, w ∈ TB → w.before args s = true := fun h => hts _ (List.mem_cons_of_mem _ h)
  refine List.forall_mem_cons.mpr ⟨fs_loada_n hF d_Md_stop_0 rfl, ?_⟩
  refine List.forall_mem_cons.mpr ⟨fs_callV hC nwl_ok hnw (cN := 0) (ci := 7) (C := R_Md) rfl rfl ⟨callB_of 0 hts (tb_good wd_725) rfl rfl rfl (hm wd_39) (hm wd_722) pd_Md_blank ⟨Nat.le_of_ble_eq_true rfl, Nat.le_of_ble_eq_true rfl⟩, hm wd_724, hm wd_17⟩ d_Md_stop_1, ?_⟩
  refine List.forall_mem_cons.mpr ⟨fs_loada_n hF d_Md_stop_4 rfl, ?_⟩
  refine List.forall_mem_cons.mpr ⟨fs_const hF d_Md_stop_5 (by decide), ?_⟩
  refine List.forall_mem_cons.mpr ⟨fs_putz hC (cN := 0) (j := 24) (ci := 7) (C := R_Md) (T := T_Md) (N := 43) rfl rfl rfl (by decide) ty_Md tk_Md nm_Md rfl (by decide +kernel) (fun w h => List.mem_cons_of_mem _ (in_Md w h)) (hm wd_563) d_Md_stop_6, ?_⟩
  refine List.forall_mem_cons.mpr ⟨fs_vret hC hr d_Md_stop_9, ?_⟩
  exact fun _ h => absurd h List.not_mem_nil
abbrev rm_Md_judge : Room := { frames := 1, cells := 0, slots := 0, locals := 21 }
def ws_Md_judge : List Cond := .code y_Md_judge c_Md_judge 4 none :: TB
abbrev MC_Md_judge (κ : fx_K) : List fx_V → fx_S → (Int32 → fx_S → Prop) → Prop := fx_Met κ.1 κ.2.1 vwCl κ.2.2.1 κ.2.2.2 lyM nwl y_Md_judge ws_Md_judge rm_Md_judge false
def tt_Md_judge (κ : fx_K) (post : Int32 → fx_S → Prop) : List (Nat × fx_M fx_S) := [(0, fm_const 0 1),
  (1, fm_store 1 2),
  (2, fm_load 1 3),
  (3, fm_loada 0 4),
  (4, fm_get 0 3 7),
  (7, fm_cmpge 287 10),
  (10, fm_loada 0 11),
  (11, fm_getr 0 4 14),
  (14, fm_load 1 15),
  (15, fm_ald lnMI 16),
  (16, fm_store 2 17),
  (17, fm_loada 0 18),
  (18, fm_getr 0 5 21),
  (21, fm_load 1 22),
  (22, fm_ald lnMI 23),
  (23, fm_store 3 24),
  (24, fm_loada 0 25),
  (25, fm_getr 0 3 28),
  (28, fm_load 1 29),
  (29, fm_ald lnMI 30),
  (30, fm_ifne 50 33),
  (33, fm_loada 0 34),
  (34, fm_getr 0 7 37),
  (37, fm_load 1 38),
  (38, fm_loada 0 39),
  (39, fm_get 0 37 42),
  (42, fm_load 2 43),
  (43, fm_calls true 2 (MC_Md_in κ) 46),
  (46, fm_zast lnMZ 47),
  (47, fm_goto 281),
  (50, fm_loada 0 51),
  (51, fm_getr 0 3 54),
  (54, fm_load 1 55),
  (55, fm_ald lnMI 56),
  (56, fm_const 1 57),
  (57, fm_cmpne 77 60),
  (60, fm_loada 0 61),
  (61, fm_getr 0 7 64),
  (64, fm_load 1 65),
  (65, fm_loada 0 66),
  (66, fm_get 0 38 69),
  (69, fm_load 2 70),
  (70, fm_calls true 2 (MC_Md_in κ) 73),
  (73, fm_zast lnMZ 74),
  (74, fm_goto 281),
  (77, fm_loada 0 78),
  (78, fm_getr 0 3 81),
  (81, fm_load 1 82),
  (82, fm_ald lnMI 83),
  (83, fm_const 2 84),
  (84, fm_cmpne 104 87),
  (87, fm_loada 0 88),
  (88, fm_getr 0 7 91),
  (91, fm_load 1 92),
  (92, fm_loada 0 93),
  (93, fm_get 0 39 96),
  (96, fm_load 2 97),
  (97, fm_calls true 2 (MC_Md_in κ) 100),
  (100, fm_zast lnMZ 101),
  (101, fm_goto 281),
  (104, fm_loada 0 105),
  (105, fm_getr 0 3 108),
  (108, fm_load 1 109),
  (109, fm_ald lnMI 110),
  (110, fm_const 3 111),
  (111, fm_cmpne 131 114),
  (114, fm_loada 0 115),
  (115, fm_getr 0 7 118),
  (118, fm_load 1 119),
  (119, fm_loada 0 120),
  (120, fm_get 0 26 123),
  (123, fm_load 2 124),
  (124, fm_calls true 2 (MC_Md_in κ) 127),
  (127, fm_zast lnMZ 128),
  (128, fm_goto 281),
  (131, fm_loada 0 132),
  (132, fm_getr 0 3 135),
  (135, fm_load 1 136),
  (136, fm_ald lnMI 137),
  (137, fm_const 4 138),
  (138, fm_cmpne 176 141),
  (141, fm_loada 0 142),
  (142, fm_getr 0 7 145),
  (145, fm_load 1 146),
  (146, fm_loada 0 147),
  (147, fm_get 0 26 150),
  (150, fm_load 2 151),
  (151, fm_calls true 2 (MC_Md_in κ) 154),
  (154, fm_ifeq 171 157),
  (157, fm_loada 0 158),
  (158, fm_getr 0 20 161),
  (161, fm_load 2 162),
  (162, fm_ald lnMI 163),
  (163, fm_load 3 164),
  (164, fm_cmplt 171 167),
  (167, fm_const 1 168),
  (168, fm_goto 172),
  (171, fm_const 0 172),
  (172, fm_zast lnMZ 173),
  (173, fm_goto 281),
  (176, fm_loada 0 177),
  (177, fm_getr 0 3 180),
  (180, fm_load 1 181),
  (181, fm_ald lnMI 182),
  (182, fm_const 5 183),
  (183, fm_cmpne 209 186),
  (186, fm_loada 0 187),
  (187, fm_getr 0 7 190),
  (190, fm_load 1 191),
  (191, fm_loada 0 192),
  (192, fm_getr 0 7 195),
  (195, fm_load 2 196),
  (196, fm_ald lnMZ 197),
  (197, fm_ifne 204 200),
  (200, fm_const 1 201),
  (201, fm_goto 205),
  (204, fm_const 0 205),
  (205, fm_zast lnMZ 206),
  (206, fm_goto 281),
  (209, fm_loada 0 210),
  (210, fm_getr 0 3 213),
  (213, fm_load 1 214),
  (214, fm_ald lnMI 215),
  (215, fm_const 6 217),
  (217, fm_cmpne 252 220),
  (220, fm_loada 0 221),
  (221, fm_getr 0 7 224),
  (224, fm_load 1 225),
  (225, fm_loada 0 226),
  (226, fm_getr 0 7 229),
  (229, fm_load 2 230),
  (230, fm_ald lnMZ 231),
  (231, fm_ifeq 247 234),
  (234, fm_loada 0 235),
  (235, fm_getr 0 7 238),
  (238, fm_load 3 239),
  (239, fm_ald lnMZ 240),
  (240, fm_ifeq 247 243),
  (243, fm_const 1 244),
  (244, fm_goto 248),
  (247, fm_const 0 248),
  (248, fm_zast lnMZ 249),
  (249, fm_goto 281),
  (252, fm_loada 0 253),
  (253, fm_getr 0 7 256),
  (256, fm_load 1 257),
  (257, fm_loada 0 258),
  (258, fm_getr 0 7 261),
  (261, fm_load 2 262),
  (262, fm_ald lnMZ 263),
  (263, fm_ifne 275 266),
  (266, fm_loada 0 267),
  (267, fm_getr 0 7 270),
  (270, fm_load 3 271),
  (271, fm_ald lnMZ 272),
  (272, fm_ifeq 279 275),
  (275, fm_const 1 276),
  (276, fm_goto 280),
  (279, fm_const 0 280),
  (280, fm_zast lnMZ 281),
  (281, fm_inc 1 1 284),
  (284, fm_goto 2),
  (287, fm_vret post)]
set_option maxHeartbeats 4000000 in
set_option maxRecDepth 100000 in
theorem mo_Md_judge {κ : fx_K} (hq : fx_I κ lyM.length) {av : List fx_V} {S : fx_S} {post : Int32 → fx_S → Prop} (hlen : av.length ≤ 4) (body : ∀ J : fx_J fx_S, (∀ r ∈ tt_Md_judge κ post, fx_Snd J r.1 r.2) → (∀ pc k ls st S, J pc (ls.take k) st S → J pc ls st S) → J 0 av [] S) : MC_Md_judge κ av S post := by
  refine fx_Met_of (cc := c_Md_judge) (nL := 4) (ret := none) (by decide) rfl hq hlen ?_
  intro p e s m args below meth c hC hr hnw
  refine body _ ?_ fx_W_take
  have hF := hC.1
  have hts := hC.1.2.2.2.2
  have hm : ∀ {w : Cond}, w ∈ TB → w.before args s = true := fun h => hts _ (List.mem_cons_of_mem _ h)
  have g81 : ∀ (Q : State → Prop) (pc : Nat), decode c_Md_judge pc = .ok (.getfield 81, 3) → fx_Snd (fx_W p κ.1 e rm_Md_judge s m args below meth c Q (fx_A κ.2.2.2 lyM.length) 0 0 (fx_P κ.2.1 vwCl κ.2.2.1 κ.2.2.2 lyM) κ.2.2.2 4) pc (fm_get 0 3 (pc + 3)) := fun Q pc hd => fs_get hC (cN := 0) (j := 3) (ci := 7) (C := R_Md) (T := T_Md) (N := 43) rfl rfl rfl (by decide) (fun w h => List.mem_cons_of_mem _ (in_Md w h)) (hm wd_542) hd
  have g20 : ∀ (Q : State → Prop) (pc : Nat), decode c_Md_judge pc = .ok (.getfield 20, 3) → fx_Snd (fx_W p κ.1 e rm_Md_judge s m args below meth c Q (fx_A κ.2.2.2 lyM.length) 0 0 (fx_P κ.2.1 vwCl κ.2.2.1 κ.2.2.2 lyM) κ.2.2.2 4) pc (fm_getr 0 4 (pc + 3)) := fun Q pc hd => fs_getr hC (cN := 0) (j := 5) (ci := 7) (C := R_Md) (T := T_Md) (N := 43) rfl rfl rfl (by decide) (fun w h => List.mem_cons_of_mem _ (in_Md w h)) (hm wd_544) hd
  have g23 : ∀ (Q : State → Prop) (pc : Nat), decode c_Md_judge pc = .ok (.getfield 23, 3) → fx_Snd (fx_W p κ.1 e rm_Md_judge s m args below meth c Q (fx_A κ.2.2.2 lyM.length) 0 0 (fx_P κ.2.1 vwCl κ.2.2.1 κ.2.2.2 lyM) κ.2.2.2 4) pc (fm_getr 0 5 (pc + 3)) := fun Q pc hd => fs_getr hC (cN := 0) (j := 6) (ci := 7) (C := R_Md) (T := T_Md) (N := 43) rfl rfl rfl (by decide) (fun w h => List.mem_cons_of_mem _ (in_Md w h)) (hm wd_545) hd
  have g17 : ∀ (Q : State → Prop) (pc : Nat), decode c_Md_judge pc = .ok (.getfield 17, 3) → fx_Snd (fx_W p κ.1 e rm_Md_judge s m args below meth c Q (fx_A κ.2.2.2 lyM.length) 0 0 (fx_P κ.2.1 vwCl κ.2.2.1 κ.2.2.2 lyM) κ.2.2.2 4) pc (fm_getr 0 3 (pc + 3)) := fun Q pc hd => fs_getr hC (cN := 0) (j := 4) (ci := 7) (C := R_Md) (T := T_Md) (N := 43) rfl rfl rfl (by decide) (fun w h => List.mem_cons_of_mem _ (in_Md w h)) (hm wd_543) hd
  have g29 : ∀ (Q : State → Prop) (pc : Nat), decode c_Md_judge pc = .ok (.getfield 29, 3) → fx_Snd (fx_W p κ.1 e rm_Md_judge s m args below meth c Q (fx_A κ.2.2.2 lyM.length) 0 0 (fx_P κ.2.1 vwCl κ.2.2.1 κ.2.2.2 lyM) κ.2.2.2 4) pc (fm_getr 0 7 (pc + 3)) := fun Q pc hd => fs_getr hC (cN := 0) (j := 8) (ci := 7) (C := R_Md) (T := T_Md) (N := 43) rfl rfl rfl (by decide) (fun w h => List.mem_cons_of_mem _ (in_Md w h)) (hm wd_547) hd
  have g151 : ∀ (Q : State → Prop) (pc : Nat), decode c_Md_judge pc = .ok (.getfield 151, 3) → fx_Snd (fx_W p κ.1 e rm_Md_judge s m args below meth c Q (fx_A κ.2.2.2 lyM.length) 0 0 (fx_P κ.2.1 vwCl κ.2.2.1 κ.2.2.2 lyM) κ.2.2.2 4) pc (fm_get 0 37 (pc + 3)) := fun Q pc hd => fs_get hC (cN := 0) (j := 37) (ci := 7) (C := R_Md) (T := T_Md) (N := 43) rfl rfl rfl (by decide) (fun w h => List.mem_cons_of_mem _ (in_Md w h)) (hm wd_576) hd
  have g154 : ∀ (Q : State → Prop) (pc : Nat), decode c_Md_judge pc = .ok (.getfield 154, 3) → fx_Snd (fx_W p κ.1 e rm_Md_judge s m args below meth c Q (fx_A κ.2.2.2 lyM.length) 0 0 (fx_P κ.2.1 vwCl κ.2.2.1 κ.2.2.2 lyM) κ.2.2.2 4) pc (fm_get 0 38 (pc + 3)) := fun Q pc hd => fs_get hC (cN := 0) (j := 38) (ci := 7) (C := R_Md) (T := T_Md) (N := 43) rfl rfl rfl (by decide) (fun w h => List.mem_cons_of_mem _ (in_Md w h)) (hm wd_577) hd
  have g157 : ∀ (Q : State → Prop) (pc : Nat), decode c_Md_judge pc = .ok (.getfield 157, 3) → fx_Snd (fx_W p κ.1 e rm_Md_judge s m args below meth c Q (fx_A κ.2.2.2 lyM.length) 0 0 (fx_P κ.2.1 vwCl κ.2.2.1 κ.2.2.2 lyM) κ.2.2.2 4) pc (fm_get 0 39 (pc + 3)) := fun Q pc hd => fs_get hC (cN := 0) (j := 39) (ci := 7) (C := R_Md) (T := T_Md) (N := 43) rfl rfl rfl (by decide) (fun w h => List.mem_cons_of_mem _ (in_Md w h)) (hm wd_578) hd
  have g121 : ∀ (Q : State → Prop) (pc : Nat), decode c_Md_judge pc = .ok (.getfield 121, 3) → fx_Snd (fx_W p κ.1 e rm_Md_judge s m args below meth c Q (fx_A κ.2.2.2 lyM.length) 0 0 (fx_P κ.2.1 vwCl κ.2.2.1 κ.2.2.2 lyM) κ.2.2.2 4) pc (fm_get 0 26 (pc + 3)) := fun Q pc hd => fs_get hC (cN := 0) (j := 26) (ci := 7) (C := R_Md) (T := T_Md) (N := 43) rfl rfl rfl (by decide) (fun w h => List.mem_cons_of_mem _ (in_Md w h)) (hm wd_565) hd
  have g68 : ∀ (Q : State → Prop) (pc : Nat), decode c_Md_judge pc = .ok (.getfield 68, 3) → fx_Snd (fx_W p κ.1 e rm_Md_judge s m args below meth c Q (fx_A κ.2.2.2 lyM.length) 0 0 (fx_P κ.2.1 vwCl κ.2.2.1 κ.2.2.2 lyM) κ.2.2.2 4) pc (fm_getr 0 20 (pc + 3)) := fun Q pc hd => fs_getr hC (cN := 0) (j := 27) (ci := 7) (C := R_Md) (T := T_Md) (N := 43) rfl rfl rfl (by decide) (fun w h => List.mem_cons_of_mem _ (in_Md w h)) (hm wd_566) hd
  refine List.forall_mem_cons.mpr ⟨fs_const hF d_Md_judge_0 (by decide), ?_⟩
  refine List.forall_mem_cons.mpr ⟨fs_store_n hF d_Md_judge_1 rfl (by decide), ?_⟩
  refine List.forall_mem_cons.mpr ⟨fs_load_n hF d_Md_judge_2 rfl, ?_⟩
  refine List.forall_mem_cons.mpr ⟨fs_loada_n hF d_Md_judge_3 rfl, ?_⟩
  refine List.forall_mem_cons.mpr ⟨g81 _ 4 d_Md_judge_4, ?_⟩
  refine List.forall_mem_cons.mpr ⟨fs_cmpge hF d_Md_judge_7 (by decide), ?_⟩
  refine List.forall_mem_cons.mpr ⟨fs_loada_n hF d_Md_judge_10 rfl, ?_⟩
  refine List.forall_mem_cons.mpr ⟨g20 _ 11 d_Md_judge_11, ?_⟩
  refine List.forall_mem_cons.mpr ⟨fs_load_n hF d_Md_judge_14 rfl, ?_⟩
  refine List.forall_mem_cons.mpr ⟨fs_ald hC lkMI d_Md_judge_15, ?_⟩
  refine List.forall_mem_cons.mpr ⟨fs_store_n hF d_Md_judge_16 rfl (by decide), ?_⟩
  refine List.forall_mem_cons.mpr ⟨fs_loada_n hF d_Md_judge_17 rfl, ?_⟩
  refine List.forall_mem_cons.mpr ⟨g23 _ 18 d_Md_judge_18, ?_⟩
  refine List.forall_mem_cons.mpr ⟨fs_load_n hF d_Md_judge_21 rfl, ?_⟩
  refine List.forall_mem_cons.mpr ⟨fs_ald hC lkMI d_Md_judge_22, ?_⟩
  refine List.forall_mem_cons.mpr ⟨fs_store_n hF d_Md_judge_23 rfl (by decide), ?_⟩
  refine List.forall_mem_cons.mpr ⟨fs_loada_n hF d_Md_judge_24 rfl, ?_⟩
  refine List.forall_mem_cons.mpr ⟨g17 _ 25 d_Md_judge_25, ?_⟩
  refine List.forall_mem_cons.mpr ⟨fs_load_n hF d_Md_judge_28 rfl, ?_⟩
  refine List.forall_mem_cons.mpr ⟨fs_ald hC lkMI d_Md_judge_29, ?_⟩
  refine List.forall_mem_cons.mpr ⟨fs_ifne hF d_Md_judge_30 (by decide), ?_⟩
  refine List.forall_mem_cons.mpr ⟨fs_loada_n hF d_Md_judge_33 rfl, ?_⟩
  refine List.forall_mem_cons.mpr ⟨g29 _ 34 d_Md_judge_34, ?_⟩
  refine List.forall_mem_cons.mpr ⟨fs_load_n hF d_Md_judge_37 rfl, ?_⟩
  refine List.forall_mem_cons.mpr ⟨fs_loada_n hF d_Md_judge_38 rfl, ?_⟩
  refine List.forall_mem_cons.mpr ⟨g151 _ 39 d_Md_judge_39, ?_⟩
  refine List.forall_mem_cons.mpr ⟨fs_load_n hF d_Md_judge_42 rfl, ?_⟩
  refine List.forall_mem_cons.mpr ⟨fs_callS hC nwl_ok hnw ⟨callB_of 2 hts (tb_good wd_717) rfl rfl rfl (hm wd_39) (hm wd_715) pd_Md_in ⟨Nat.le_of_ble_eq_true rfl, Nat.le_of_ble_eq_true rfl⟩, hm wd_716⟩ d_Md_judge_43, ?_⟩
  refine List.forall_mem_cons.mpr ⟨fs_zast hC lkMZ d_Md_judge_46, ?_⟩
  refine List.forall_mem_cons.mpr ⟨fs_goto hF d_Md_judge_47 (by decide), ?_⟩
  refine List.forall_mem_cons.mpr ⟨fs_loada_n hF d_Md_judge_50 rfl, ?_⟩
  refine List.forall_mem_cons.mpr ⟨g17 _ 51 d_Md_judge_51, ?_⟩
  refine List.forall_mem_cons.mpr ⟨fs_load_n hF d_Md_judge_54 rfl, ?_⟩
  refine List.forall_mem_cons.mpr ⟨fs_ald hC lkMI d_Md_judge_55, ?_⟩
  refine List.forall_mem_cons.mpr ⟨fs_const hF d_Md_judge_56 (by decide), ?_⟩
  refine List.forall_mem_cons.mpr ⟨fs_cmpne hF d_Md_judge_57 (by decide), ?_⟩
  refine List.forall_mem_cons.mpr ⟨fs_loada_n hF d_Md_judge_60 rfl, ?_⟩
  refine List.forall_mem_cons.mpr ⟨g29 _ 61 d_Md_judge_61, ?_⟩
  refine List.forall_mem_cons.mpr ⟨fs_load_n hF d_Md_judge_64 rfl, ?_⟩
  refine List.forall_mem_cons.mpr ⟨fs_loada_n hF d_Md_judge_65 rfl, ?_⟩
  refine List.forall_mem_cons.mpr ⟨g154 _ 66 d_Md_judge_66, ?_⟩
  refine List.forall_mem_cons.mpr ⟨fs_load_n hF d_Md_judge_69 rfl, ?_⟩
  refine List.forall_mem_cons.mpr ⟨fs_callS hC nwl_ok hnw ⟨callB_of 2 hts (tb_good wd_717) rfl rfl rfl (hm wd_39) (hm wd_715) pd_Md_in ⟨Nat.le_of_ble_eq_true rfl, Nat.le_of_ble_eq_true rfl⟩, hm wd_716⟩ d_Md_judge_70, ?_⟩
  refine List.forall_mem_cons.mpr ⟨fs_zast hC lkMZ d_Md_judge_73, ?_⟩
  refine List.forall_mem_cons.mpr ⟨fs_goto hF d_Md_judge_74 (by decide), ?_⟩
  refine List.forall_mem_cons.mpr ⟨fs_loada_n hF d_Md_judge_77 rfl, ?_⟩
  refine List.forall_mem_cons.mpr ⟨g17 _ 78 d_Md_judge_78, ?_⟩
  refine List.forall_mem_cons.mpr ⟨fs_load_n hF d_Md_judge_81 rfl, ?_⟩
  refine List.forall_mem_cons.mpr ⟨fs_ald hC lkMI d_Md_judge_82, ?_⟩
  refine List.forall_mem_cons.mpr ⟨fs_const hF d_Md_judge_83 (by decide), ?_⟩
  refine List.forall_mem_cons.mpr ⟨fs_cmpne hF d_Md_judge_84 (by decide), ?_⟩
  refine List.forall_mem_cons.mpr ⟨fs_loada_n hF d_Md_judge_87 rfl, ?_⟩
  refine List.forall_mem_cons.mpr ⟨g29 _ 88 d_Md_judge_88, ?_⟩
  refine List.forall_mem_cons.mpr ⟨fs_load_n hF d_Md_judge_91 rfl, ?_⟩
  refine List.forall_mem_cons.mpr ⟨fs_loada_n hF d_Md_judge_92 rfl, ?_⟩
  refine List.forall_mem_cons.mpr ⟨g157 _ 93 d_Md_judge_93, ?_⟩
  refine List.forall_mem_cons.mpr ⟨fs_load_n hF d_Md_judge_96 rfl, ?_⟩
  refine List.forall_mem_cons.mpr ⟨fs_callS hC nwl_ok hnw ⟨callB_of 2 hts (tb_good wd_717) rfl rfl rfl (hm wd_39) (hm wd_715) pd_Md_in ⟨Nat.le_of_ble_eq_true rfl, Nat.le_of_ble_eq_true rfl⟩, hm wd_716⟩ d_Md_judge_97, ?_⟩
  refine List.forall_mem_cons.mpr ⟨fs_zast hC lkMZ d_Md_judge_100, ?_⟩
  refine List.forall_mem_cons.mpr ⟨fs_goto hF d_Md_judge_101 (by decide), ?_⟩
  refine List.forall_mem_cons.mpr ⟨fs_loada_n hF d_Md_judge_104 rfl, ?_⟩
  refine List.forall_mem_cons.mpr ⟨g17 _ 105 d_Md_judge_105, ?_⟩
  refine List.forall_mem_cons.mpr ⟨fs_load_n hF d_Md_judge_108 rfl, ?_⟩
  refine List.forall_mem_cons.mpr ⟨fs_ald hC lkMI d_Md_judge_109, ?_⟩
  refine List.forall_mem_cons.mpr ⟨fs_const hF d_Md_judge_110 (by decide), ?_⟩
  refine List.forall_mem_cons.mpr ⟨fs_cmpne hF d_Md_judge_111 (by decide), ?_⟩
  refine List.forall_mem_cons.mpr ⟨fs_loada_n hF d_Md_judge_114 rfl, ?_⟩
  refine List.forall_mem_cons.mpr ⟨g29 _ 115 d_Md_judge_115, ?_⟩
  refine List.forall_mem_cons.mpr ⟨fs_load_n hF d_Md_judge_118 rfl, ?_⟩
  refine List.forall_mem_cons.mpr ⟨fs_loada_n hF d_Md_judge_119 rfl, ?_⟩
  refine List.forall_mem_cons.mpr ⟨g121 _ 120 d_Md_judge_120, ?_⟩
  refine List.forall_mem_cons.mpr ⟨fs_load_n hF d_Md_judge_123 rfl, ?_⟩
  refine List.forall_mem_cons.mpr ⟨fs_callS hC nwl_ok hnw ⟨callB_of 2 hts (tb_good wd_717) rfl rfl rfl (hm wd_39) (hm wd_715) pd_Md_in ⟨Nat.le_of_ble_eq_true rfl, Nat.le_of_ble_eq_true rfl⟩, hm wd_716⟩ d_Md_judge_124, ?_⟩
  refine List.forall_mem_cons.mpr ⟨fs_zast hC lkMZ d_Md_judge_127, ?_⟩
  refine List.forall_mem_cons.mpr ⟨fs_goto hF d_Md_judge_128 (by decide), ?_⟩
  refine List.forall_mem_cons.mpr ⟨fs_loada_n hF d_Md_judge_131 rfl, ?_⟩
  refine List.forall_mem_cons.mpr ⟨g17 _ 132 d_Md_judge_132, ?_⟩
  refine List.forall_mem_cons.mpr ⟨fs_load_n hF d_Md_judge_135 rfl, ?_⟩
  refine List.forall_mem_cons.mpr ⟨fs_ald hC lkMI d_Md_judge_136, ?_⟩
  refine List.forall_mem_cons.mpr ⟨fs_const hF d_Md_judge_137 (by decide), ?_⟩
  refine List.forall_mem_cons.mpr ⟨fs_cmpne hF d_Md_judge_138 (by decide), ?_⟩
  refine List.forall_mem_cons.mpr ⟨fs_loada_n hF d_Md_judge_141 rfl, ?_⟩
  refine List.forall_mem_cons.mpr ⟨g29 _ 142 d_Md_judge_142, ?_⟩
  refine List.forall_mem_cons.mpr ⟨fs_load_n hF d_Md_judge_145 rfl, ?_⟩
  refine List.forall_mem_cons.mpr ⟨fs_loada_n hF d_Md_judge_146 rfl, ?_⟩
  refine List.forall_mem_cons.mpr ⟨g121 _ 147 d_Md_judge_147, ?_⟩
  refine List.forall_mem_cons.mpr ⟨fs_load_n hF d_Md_judge_150 rfl, ?_⟩
  refine List.forall_mem_cons.mpr ⟨fs_callS hC nwl_ok hnw ⟨callB_of 2 hts (tb_good wd_717) rfl rfl rfl (hm wd_39) (hm wd_715) pd_Md_in ⟨Nat.le_of_ble_eq_true rfl, Nat.le_of_ble_eq_true rfl⟩, hm wd_716⟩ d_Md_judge_151, ?_⟩
  refine List.forall_mem_cons.mpr ⟨fs_ifeq hF d_Md_judge_154 (by decide), ?_⟩
  refine List.forall_mem_cons.mpr ⟨fs_loada_n hF d_Md_judge_157 rfl, ?_⟩
  refine List.forall_mem_cons.mpr ⟨g68 _ 158 d_Md_judge_158, ?_⟩
  refine List.forall_mem_cons.mpr ⟨fs_load_n hF d_Md_judge_161 rfl, ?_⟩
  refine List.forall_mem_cons.mpr ⟨fs_ald hC lkMI d_Md_judge_162, ?_⟩
  refine List.forall_mem_cons.mpr ⟨fs_load_n hF d_Md_judge_163 rfl, ?_⟩
  refine List.forall_mem_cons.mpr ⟨fs_cmplt hF d_Md_judge_164 (by decide), ?_⟩
  refine List.forall_mem_cons.mpr ⟨fs_const hF d_Md_judge_167 (by decide), ?_⟩
  refine List.forall_mem_cons.mpr ⟨fs_goto hF d_Md_judge_168 (by decide), ?_⟩
  refine List.forall_mem_cons.mpr ⟨fs_const hF d_Md_judge_171 (by decide), ?_⟩
  refine List.forall_mem_cons.mpr ⟨fs_zast hC lkMZ d_Md_judge_172, ?_⟩
  refine List.forall_mem_cons.mpr ⟨fs_goto hF d_Md_judge_173 (by decide), ?_⟩
  refine List.forall_mem_cons.mpr ⟨fs_loada_n hF d_Md_judge_176 rfl, ?_⟩
  refine List.forall_mem_cons.mpr ⟨g17 _ 177 d_Md_judge_177, ?_⟩
  refine List.forall_mem_cons.mpr ⟨fs_load_n hF d_Md_judge_180 rfl, ?_⟩
  refine List.forall_mem_cons.mpr ⟨fs_ald hC lkMI d_Md_judge_181, ?_⟩
  refine List.forall_mem_cons.mpr ⟨fs_const hF d_Md_judge_182 (by decide), ?_⟩
  refine List.forall_mem_cons.mpr ⟨fs_cmpne hF d_Md_judge_183 (by decide), ?_⟩
  refine List.forall_mem_cons.mpr ⟨fs_loada_n hF d_Md_judge_186 rfl, ?_⟩
  refine List.forall_mem_cons.mpr ⟨g29 _ 187 d_Md_judge_187, ?_⟩
  refine List.forall_mem_cons.mpr ⟨fs_load_n hF d_Md_judge_190 rfl, ?_⟩
  refine List.forall_mem_cons.mpr ⟨fs_loada_n hF d_Md_judge_191 rfl, ?_⟩
  refine List.forall_mem_cons.mpr ⟨g29 _ 192 d_Md_judge_192, ?_⟩
  refine List.forall_mem_cons.mpr ⟨fs_load_n hF d_Md_judge_195 rfl, ?_⟩
  refine List.forall_mem_cons.mpr ⟨fs_zald hC lkMZ d_Md_judge_196, ?_⟩
  refine List.forall_mem_cons.mpr ⟨fs_ifne hF d_Md_judge_197 (by decide), ?_⟩
  refine List.forall_mem_cons.mpr ⟨fs_const hF d_Md_judge_200 (by decide), ?_⟩
  refine List.forall_mem_cons.mpr ⟨fs_goto hF d_Md_judge_201 (by decide), ?_⟩
  refine List.forall_mem_cons.mpr ⟨fs_const hF d_Md_judge_204 (by decide), ?_⟩
  refine List.forall_mem_cons.mpr ⟨fs_zast hC lkMZ d_Md_judge_205, ?_⟩
  refine List.forall_mem_cons.mpr ⟨fs_goto hF d_Md_judge_206 (by decide), ?_⟩
  refine List.forall_mem_cons.mpr ⟨fs_loada_n hF d_Md_judge_209 rfl, ?_⟩
  refine List.forall_mem_cons.mpr ⟨g17 _ 210 d_Md_judge_210, ?_⟩
  refine List.forall_mem_cons.mpr ⟨fs_load_n hF d_Md_judge_213 rfl, ?_⟩
  refine List.forall_mem_cons.mpr ⟨fs_ald hC lkMI d_Md_judge_214, ?_⟩
  refine List.forall_mem_cons.mpr ⟨fs_bipush hF d_Md_judge_215 (by decide), ?_⟩
  refine List.forall_mem_cons.mpr ⟨fs_cmpne hF d_Md_judge_217 (by decide), ?_⟩
  refine List.forall_mem_cons.mpr ⟨fs_loada_n hF d_Md_judge_220 rfl, ?_⟩
  refine List.forall_mem_cons.mpr ⟨g29 _ 221 d_Md_judge_221, ?_⟩
  refine List.forall_mem_cons.mpr ⟨fs_load_n hF d_Md_judge_224 rfl, ?_⟩
  refine List.forall_mem_cons.mpr ⟨fs_loada_n hF d_Md_judge_225 rfl, ?_⟩
  refine List.forall_mem_cons.mpr ⟨g29 _ 226 d_Md_judge_226, ?_⟩
  refine List.forall_mem_cons.mpr ⟨fs_load_n hF d_Md_judge_229 rfl, ?_⟩
  refine List.forall_mem_cons.mpr ⟨fs_zald hC lkMZ d_Md_judge_230, ?_⟩
  refine List.forall_mem_cons.mpr ⟨fs_ifeq hF d_Md_judge_231 (by decide), ?_⟩
  refine List.forall_mem_cons.mpr ⟨fs_loada_n hF d_Md_judge_234 rfl, ?_⟩
  refine List.forall_mem_cons.mpr ⟨g29 _ 235 d_Md_judge_235, ?_⟩
  refine List.forall_mem_cons.mpr ⟨fs_load_n hF d_Md_judge_238 rfl, ?_⟩
  refine List.forall_mem_cons.mpr ⟨fs_zald hC lkMZ d_Md_judge_239, ?_⟩
  refine List.forall_mem_cons.mpr ⟨fs_ifeq hF d_Md_judge_240 (by decide), ?_⟩
  refine List.forall_mem_cons.mpr ⟨fs_const hF d_Md_judge_243 (by decide), ?_⟩
  refine List.forall_mem_cons.mpr ⟨fs_goto hF d_Md_judge_244 (by decide), ?_⟩
  refine List.forall_mem_cons.mpr ⟨fs_const hF d_Md_judge_247 (by decide), ?_⟩
  refine List.forall_mem_cons.mpr ⟨fs_zast hC lkMZ d_Md_judge_248, ?_⟩
  refine List.forall_mem_cons.mpr ⟨fs_goto hF d_Md_judge_249 (by decide), ?_⟩
  refine List.forall_mem_cons.mpr ⟨fs_loada_n hF d_Md_judge_252 rfl, ?_⟩
  refine List.forall_mem_cons.mpr ⟨g29 _ 253 d_Md_judge_253, ?_⟩
  refine List.forall_mem_cons.mpr ⟨fs_load_n hF d_Md_judge_256 rfl, ?_⟩
  refine List.forall_mem_cons.mpr ⟨fs_loada_n hF d_Md_judge_257 rfl, ?_⟩
  refine List.forall_mem_cons.mpr ⟨g29 _ 258 d_Md_judge_258, ?_⟩
  refine List.forall_mem_cons.mpr ⟨fs_load_n hF d_Md_judge_261 rfl, ?_⟩
  refine List.forall_mem_cons.mpr ⟨fs_zald hC lkMZ d_Md_judge_262, ?_⟩
  refine List.forall_mem_cons.mpr ⟨fs_ifne hF d_Md_judge_263 (by decide), ?_⟩
  refine List.forall_mem_cons.mpr ⟨fs_loada_n hF d_Md_judge_266 rfl, ?_⟩
  refine List.forall_mem_cons.mpr ⟨g29 _ 267 d_Md_judge_267, ?_⟩
  refine List.forall_mem_cons.mpr ⟨fs_load_n hF d_Md_judge_270 rfl, ?_⟩
  refine List.forall_mem_cons.mpr ⟨fs_zald hC lkMZ d_Md_judge_271, ?_⟩
  refine List.forall_mem_cons.mpr ⟨fs_ifeq hF d_Md_judge_272 (by decide), ?_⟩
  refine List.forall_mem_cons.mpr ⟨fs_const hF d_Md_judge_275 (by decide), ?_⟩
  refine List.forall_mem_cons.mpr ⟨fs_goto hF d_Md_judge_276 (by decide), ?_⟩
  refine List.forall_mem_cons.mpr ⟨fs_const hF d_Md_judge_279 (by decide), ?_⟩
  refine List.forall_mem_cons.mpr ⟨fs_zast hC lkMZ d_Md_judge_280, ?_⟩
  refine List.forall_mem_cons.mpr ⟨fs_inc hF d_Md_judge_281 (by decide) (by decide), ?_⟩
  refine List.forall_mem_cons.mpr ⟨fs_goto hF d_Md_judge_284 (by decide), ?_⟩
  refine List.forall_mem_cons.mpr ⟨fs_vret hC hr d_Md_judge_287, ?_⟩
  exact fun _ h => absurd h List.not_mem_nil
abbrev rm_Md_isEnabled : Room := { frames := 0, cells := 0, slots := 0, locals := 0 }
def ws_Md_isEnabled : List Cond := .code y_Md_isEnabled c_Md_isEnabled 2 (some .boolean) :: TB
abbrev MC_Md_isEnabled (κ : fx_K) : List fx_V → fx_S → (Int32 → fx_S → Prop) → Prop := fx_Met κ.1 κ.2.1 vwCl κ.2.2.1 κ.2.2.2 lyM nwl y_Md_isEnabled ws_Md_isEnabled rm_Md_isEnabled true
def tt_Md_isEnabled (κ : fx_K) (post : Int32 → fx_S → Prop) : List (Nat × fx_M fx_S) := [(0, fm_loada 0 1),
  (1, fm_getr 0 8 4),
  (4, fm_load 1 5),
  (5, fm_ald lnMI 6),
  (6, fm_loada 0 7),
  (7, fm_get 0 26 10),
  (10, fm_const (-1) 11),
  (11, fm_ixor 12),
  (12, fm_iand 13),
  (13, fm_ifne 20 16),
  (16, fm_const 1 17),
  (17, fm_goto 21),
  (20, fm_const 0 21),
  (21, fm_zret post)]
set_option maxHeartbeats 4000000 in
set_option maxRecDepth 100000 in
theorem mo_Md_isEnabled {κ : fx_K} (hq : fx_I κ lyM.length) {av : List fx_V} {S : fx_S} {post : Int32 → fx_S → Prop} (hlen : av.length ≤ 2) (body : ∀ J : fx_J fx_S, (∀ r ∈ tt_Md_isEnabled κ post, fx_Snd J r.1 r.2) → (∀ pc k ls st S, J pc (ls.take k) st S → J pc ls st S) → J 0 av [] S) : MC_Md_isEnabled κ av S post := by
  refine fx_Met_of (cc := c_Md_isEnabled) (nL := 2) (ret := (some .boolean)) (by decide) rfl hq hlen ?_
  intro p e s m args below meth c hC hr hnw
  refine body _ ?_ fx_W_take
  have hF := hC.1
  have hts := hC.1.2.2.2.2
  have hm : ∀ {w : Cond}, w ∈ TB → w.before args s = true := fun h => hts _ (List.mem_cons_of_mem _ h)
  have g32 : ∀ (Q : State → Prop) (pc : Nat), decode c_Md_isEnabled pc = .ok (.getfield 32, 3) → fx_Snd (fx_W p κ.1 e rm_Md_isEnabled s m args below meth c Q (fx_A κ.2.2.2 lyM.length) 0 0 (fx_P κ.2.1 vwCl κ.2.2.1 κ.2.2.2 lyM) κ.2.2.2 2) pc (fm_getr 0 8 (pc + 3)) := fun Q pc hd => fs_getr hC (cN := 0) (j := 10) (ci := 7) (C := R_Md) (T := T_Md) (N := 43) rfl rfl rfl (by decide) (fun w h => List.mem_cons_of_mem _ (in_Md w h)) (hm wd_549) hd
  have g121 : ∀ (Q : State → Prop) (pc : Nat), decode c_Md_isEnabled pc = .ok (.getfield 121, 3) → fx_Snd (fx_W p κ.1 e rm_Md_isEnabled s m args below meth c Q (fx_A κ.2.2.2 lyM.length) 0 0 (fx_P κ.2.1 vwCl κ.2.2.1 κ.2.2.2 lyM) κ.2.2.2 2) pc (fm_get 0 26 (pc + 3)) := fun Q pc hd => fs_get hC (cN := 0) (j := 26) (ci := 7) (C := R_Md) (T := T_Md) (N := 43) rfl rfl rfl (by decide) (fun w h => List.mem_cons_of_mem _ (in_Md w h)) (hm wd_565) hd
  refine List.forall_mem_cons.mpr ⟨fs_loada_n hF d_Md_isEnabled_0 rfl, ?_⟩
  refine List.forall_mem_cons.mpr ⟨g32 _ 1 d_Md_isEnabled_1, ?_⟩
  refine List.forall_mem_cons.mpr ⟨fs_load_n hF d_Md_isEnabled_4 rfl, ?_⟩
  refine List.forall_mem_cons.mpr ⟨fs_ald hC lkMI d_Md_isEnabled_5, ?_⟩
  refine List.forall_mem_cons.mpr ⟨fs_loada_n hF d_Md_isEnabled_6 rfl, ?_⟩
  refine List.forall_mem_cons.mpr ⟨g121 _ 7 d_Md_isEnabled_7, ?_⟩
  refine List.forall_mem_cons.mpr ⟨fs_const hF d_Md_isEnabled_10 (by decide), ?_⟩
  refine List.forall_mem_cons.mpr ⟨fs_ixor hF d_Md_isEnabled_11, ?_⟩
  refine List.forall_mem_cons.mpr ⟨fs_iand hF d_Md_isEnabled_12, ?_⟩
  refine List.forall_mem_cons.mpr ⟨fs_ifne hF d_Md_isEnabled_13 (by decide), ?_⟩
  refine List.forall_mem_cons.mpr ⟨fs_const hF d_Md_isEnabled_16 (by decide), ?_⟩
  refine List.forall_mem_cons.mpr ⟨fs_goto hF d_Md_isEnabled_17 (by decide), ?_⟩
  refine List.forall_mem_cons.mpr ⟨fs_const hF d_Md_isEnabled_20 (by decide), ?_⟩
  refine List.forall_mem_cons.mpr ⟨fs_zret hC hr d_Md_isEnabled_21, ?_⟩
  exact fun _ h => absurd h List.not_mem_nil
abbrev rm_Md_ruling : Room := { frames := 1, cells := 0, slots := 0, locals := 21 }
def ws_Md_ruling : List Cond := .code y_Md_ruling c_Md_ruling 4 (some .int) :: TB
abbrev MC_Md_ruling (κ : fx_K) : List fx_V → fx_S → (Int32 → fx_S → Prop) → Prop := fx_Met κ.1 κ.2.1 vwCl κ.2.2.1 κ.2.2.2 lyM nwl y_Md_ruling ws_Md_ruling rm_Md_ruling true
def tt_Md_ruling (κ : fx_K) (post : Int32 → fx_S → Prop) : List (Nat × fx_M fx_S) := [(0, fm_const (-1) 1),
  (1, fm_store 2 2),
  (2, fm_loada 0 3),
  (3, fm_get 0 13 6),
  (6, fm_const 1 7),
  (7, fm_isub 8),
  (8, fm_store 3 9),
  (9, fm_load 3 10),
  (10, fm_iflt 51 13),
  (13, fm_loada 0 14),
  (14, fm_getr 0 12 17),
  (17, fm_load 3 18),
  (18, fm_ald lnMI 19),
  (19, fm_load 1 20),
  (20, fm_cmpne 43 23),
  (23, fm_loada 0 24),
  (24, fm_get 0 40 27),
  (27, fm_loada 0 28),
  (28, fm_getr 0 11 31),
  (31, fm_load 3 32),
  (32, fm_ald lnMI 33),
  (33, fm_calls true 2 (MC_Md_in κ) 36),
  (36, fm_ifeq 43 39),
  (39, fm_load 3 40),
  (40, fm_goto 44),
  (43, fm_load 2 44),
  (44, fm_store 2 45),
  (45, fm_inc 3 (-1) 48),
  (48, fm_goto 9),
  (51, fm_load 2 52),
  (52, fm_ret post)]
set_option maxHeartbeats 4000000 in
set_option maxRecDepth 100000 in
theorem mo_Md_ruling {κ : fx_K} (hq : fx_I κ lyM.length) {av : List fx_V} {S : fx_S} {post : Int32 → fx_S → Prop} (hlen : av.length ≤ 4) (body : ∀ J : fx_J fx_S, (∀ r ∈ tt_Md_ruling κ post, fx_Snd J r.1 r.2) → (∀ pc k ls st S, J pc (ls.take k) st S → J pc ls st S) → J 0 av [] S) : MC_Md_ruling κ av S post := by
  refine fx_Met_of (cc := c_Md_ruling) (nL := 4) (ret := (some .int)) (by decide) rfl hq hlen ?_
  intro p e s m args below meth c hC hr hnw
  refine body _ ?_ fx_W_take
  have hF := hC.1
  have hts := hC.1.2.2.2.2
  have hm : ∀ {w : Cond}, w ∈ TB → w.before args s = true := fun h => hts _ (List.mem_cons_of_mem _ h)
  have g107 : ∀ (Q : State → Prop) (pc : Nat), decode c_Md_ruling pc = .ok (.getfield 107, 3) → fx_Snd (fx_W p κ.1 e rm_Md_ruling s m args below meth c Q (fx_A κ.2.2.2 lyM.length) 0 0 (fx_P κ.2.1 vwCl κ.2.2.1 κ.2.2.2 lyM) κ.2.2.2 4) pc (fm_get 0 13 (pc + 3)) := fun Q pc hd => fs_get hC (cN := 0) (j := 13) (ci := 7) (C := R_Md) (T := T_Md) (N := 43) rfl rfl rfl (by decide) (fun w h => List.mem_cons_of_mem _ (in_Md w h)) (hm wd_552) hd
  have g44 : ∀ (Q : State → Prop) (pc : Nat), decode c_Md_ruling pc = .ok (.getfield 44, 3) → fx_Snd (fx_W p κ.1 e rm_Md_ruling s m args below meth c Q (fx_A κ.2.2.2 lyM.length) 0 0 (fx_P κ.2.1 vwCl κ.2.2.1 κ.2.2.2 lyM) κ.2.2.2 4) pc (fm_getr 0 12 (pc + 3)) := fun Q pc hd => fs_getr hC (cN := 0) (j := 15) (ci := 7) (C := R_Md) (T := T_Md) (N := 43) rfl rfl rfl (by decide) (fun w h => List.mem_cons_of_mem _ (in_Md w h)) (hm wd_554) hd
  have g160 : ∀ (Q : State → Prop) (pc : Nat), decode c_Md_ruling pc = .ok (.getfield 160, 3) → fx_Snd (fx_W p κ.1 e rm_Md_ruling s m args below meth c Q (fx_A κ.2.2.2 lyM.length) 0 0 (fx_P κ.2.1 vwCl κ.2.2.1 κ.2.2.2 lyM) κ.2.2.2 4) pc (fm_get 0 40 (pc + 3)) := fun Q pc hd => fs_get hC (cN := 0) (j := 40) (ci := 7) (C := R_Md) (T := T_Md) (N := 43) rfl rfl rfl (by decide) (fun w h => List.mem_cons_of_mem _ (in_Md w h)) (hm wd_579) hd
  have g41 : ∀ (Q : State → Prop) (pc : Nat), decode c_Md_ruling pc = .ok (.getfield 41, 3) → fx_Snd (fx_W p κ.1 e rm_Md_ruling s m args below meth c Q (fx_A κ.2.2.2 lyM.length) 0 0 (fx_P κ.2.1 vwCl κ.2.2.1 κ.2.2.2 lyM) κ.2.2.2 4) pc (fm_getr 0 11 (pc + 3)) := fun Q pc hd => fs_getr hC (cN := 0) (j := 14) (ci := 7) (C := R_Md) (T := T_Md) (N := 43) rfl rfl rfl (by decide) (fun w h => List.mem_cons_of_mem _ (in_Md w h)) (hm wd_553) hd
  refine List.forall_mem_cons.mpr ⟨fs_const hF d_Md_ruling_0 (by decide), ?_⟩
  refine List.forall_mem_cons.mpr ⟨fs_store_n hF d_Md_ruling_1 rfl (by decide), ?_⟩
  refine List.forall_mem_cons.mpr ⟨fs_loada_n hF d_Md_ruling_2 rfl, ?_⟩
  refine List.forall_mem_cons.mpr ⟨g107 _ 3 d_Md_ruling_3, ?_⟩
  refine List.forall_mem_cons.mpr ⟨fs_const hF d_Md_ruling_6 (by decide), ?_⟩
  refine List.forall_mem_cons.mpr ⟨fs_isub hF d_Md_ruling_7, ?_⟩
  refine List.forall_mem_cons.mpr ⟨fs_store_n hF d_Md_ruling_8 rfl (by decide), ?_⟩
  refine List.forall_mem_cons.mpr ⟨fs_load_n hF d_Md_ruling_9 rfl, ?_⟩
  refine List.forall_mem_cons.mpr ⟨fs_iflt hF d_Md_ruling_10 (by decide), ?_⟩
  refine List.forall_mem_cons.mpr ⟨fs_loada_n hF d_Md_ruling_13 rfl, ?_⟩
  refine List.forall_mem_cons.mpr ⟨g44 _ 14 d_Md_ruling_14, ?_⟩
  refine List.forall_mem_cons.mpr ⟨fs_load_n hF d_Md_ruling_17 rfl, ?_⟩
  refine List.forall_mem_cons.mpr ⟨fs_ald hC lkMI d_Md_ruling_18, ?_⟩
  refine List.forall_mem_cons.mpr ⟨fs_load_n hF d_Md_ruling_19 rfl, ?_⟩
  refine List.forall_mem_cons.mpr ⟨fs_cmpne hF d_Md_ruling_20 (by decide), ?_⟩
  refine List.forall_mem_cons.mpr ⟨fs_loada_n hF d_Md_ruling_23 rfl, ?_⟩
  refine List.forall_mem_cons.mpr ⟨g160 _ 24 d_Md_ruling_24, ?_⟩
  refine List.forall_mem_cons.mpr ⟨fs_loada_n hF d_Md_ruling_27 rfl, ?_⟩
  refine List.forall_mem_cons.mpr ⟨g41 _ 28 d_Md_ruling_28, ?_⟩
  refine List.forall_mem_cons.mpr ⟨fs_load_n hF d_Md_ruling_31 rfl, ?_⟩
  refine List.forall_mem_cons.mpr ⟨fs_ald hC lkMI d_Md_ruling_32, ?_⟩
  refine List.forall_mem_cons.mpr ⟨fs_callS hC nwl_ok hnw ⟨callB_of 2 hts (tb_good wd_717) rfl rfl rfl (hm wd_39) (hm wd_715) pd_Md_in ⟨Nat.le_of_ble_eq_true rfl, Nat.le_of_ble_eq_true rfl⟩, hm wd_716⟩ d_Md_ruling_33, ?_⟩
  refine List.forall_mem_cons.mpr ⟨fs_ifeq hF d_Md_ruling_36 (by decide), ?_⟩
  refine List.forall_mem_cons.mpr ⟨fs_load_n hF d_Md_ruling_39 rfl, ?_⟩
  refine List.forall_mem_cons.mpr ⟨fs_goto hF d_Md_ruling_40 (by decide), ?_⟩
  refine List.forall_mem_cons.mpr ⟨fs_load_n hF d_Md_ruling_43 rfl, ?_⟩
  refine List.forall_mem_cons.mpr ⟨fs_store_n hF d_Md_ruling_44 rfl (by decide), ?_⟩
  refine List.forall_mem_cons.mpr ⟨fs_inc hF d_Md_ruling_45 (by decide) (by decide), ?_⟩
  refine List.forall_mem_cons.mpr ⟨fs_goto hF d_Md_ruling_48 (by decide), ?_⟩
  refine List.forall_mem_cons.mpr ⟨fs_load_n hF d_Md_ruling_51 rfl, ?_⟩
  refine List.forall_mem_cons.mpr ⟨fs_ret hC hr d_Md_ruling_52, ?_⟩
  exact fun _ h => absurd h List.not_mem_nil
abbrev rm_Md_move : Room := { frames := 1, cells := 0, slots := 0, locals := 21 }
def ws_Md_move : List Cond := .code y_Md_move c_Md_move 6 none :: TB
abbrev MC_Md_move (κ : fx_K) : List fx_V → fx_S → (Int32 → fx_S → Prop) → Prop := fx_Met κ.1 κ.2.1 vwCl κ.2.2.1 κ.2.2.2 lyM nwl y_Md_move ws_Md_move rm_Md_move false
def tt_Md_move (κ : fx_K) (post : Int32 → fx_S → Prop) : List (Nat × fx_M fx_S) := [(0, fm_const 0 1),
  (1, fm_store 2 2),
  (2, fm_const 0 3),
  (3, fm_store 3 4),
  (4, fm_const 0 5),
  (5, fm_store 4 7),
  (7, fm_load 4 9),
  (9, fm_loada 0 10),
  (10, fm_get 0 9 13),
  (13, fm_cmpge 124 16),
  (16, fm_loada 0 17),
  (17, fm_getr 0 8 20),
  (20, fm_load 4 22),
  (22, fm_ald lnMI 23),
  (23, fm_load 1 24),
  (24, fm_const (-1) 25),
  (25, fm_ixor 26),
  (26, fm_iand 27),
  (27, fm_ifne 58 30),
  (30, fm_loada 0 31),
  (31, fm_load 4 33),
  (33, fm_call true 0 1 (MC_Md_isEnabled κ) 36),
  (36, fm_ifeq 58 39),
  (39, fm_loada 0 40),
  (40, fm_getr 0 7 43),
  (43, fm_loada 0 44),
  (44, fm_getr 0 10 47),
  (47, fm_load 4 49),
  (49, fm_ald lnMI 50),
  (50, fm_ald lnMZ 51),
  (51, fm_ifeq 58 54),
  (54, fm_const 1 55),
  (55, fm_goto 59),
  (58, fm_const 0 59),
  (59, fm_store 5 61),
  (61, fm_load 5 63),
  (63, fm_ifeq 118 66),
  (66, fm_loada 0 67),
  (67, fm_get 0 25 70),
  (70, fm_ifne 85 73),
  (73, fm_loada 0 74),
  (74, fm_getr 0 8 77),
  (77, fm_load 4 79),
  (79, fm_ald lnMI 80),
  (80, fm_load 2 81),
  (81, fm_iand 82),
  (82, fm_ifne 118 85),
  (85, fm_load 2 86),
  (86, fm_loada 0 87),
  (87, fm_getr 0 8 90),
  (90, fm_load 4 92),
  (92, fm_ald lnMI 93),
  (93, fm_ior 94),
  (94, fm_store 2 95),
  (95, fm_load 3 96),
  (96, fm_loada 0 97),
  (97, fm_getr 0 9 100),
  (100, fm_load 4 102),
  (102, fm_ald lnMI 103),
  (103, fm_ior 104),
  (104, fm_store 3 105),
  (105, fm_loada 0 106),
  (106, fm_loada 0 107),
  (107, fm_get 0 41 110),
  (110, fm_const 1 111),
  (111, fm_load 4 113),
  (113, fm_ishl 114),
  (114, fm_ior 115),
  (115, fm_put 0 41 118),
  (118, fm_inc 4 1 121),
  (121, fm_goto 7),
  (124, fm_loada 0 125),
  (125, fm_loada 0 126),
  (126, fm_get 0 40 129),
  (129, fm_load 3 130),
  (130, fm_ior 131),
  (131, fm_loada 0 132),
  (132, fm_get 0 26 135),
  (135, fm_load 1 136),
  (136, fm_iand 137),
  (137, fm_load 2 138),
  (138, fm_const (-1) 139),
  (139, fm_ixor 140),
  (140, fm_iand 141),
  (141, fm_ior 142),
  (142, fm_put 0 40 145),
  (145, fm_vret post)]
set_option maxHeartbeats 4000000 in
set_option maxRecDepth 100000 in
theorem mo_Md_move {κ : fx_K} (hq : fx_I κ lyM.length) {av : List fx_V} {S : fx_S} {post : Int32 → fx_S → Prop} (hlen : av.length ≤ 6) (body : ∀ J : fx_J fx_S, (∀ r ∈ tt_Md_move κ post, fx_Snd J r.1 r.2) → (∀ pc k ls st S, J pc (ls.take k) st S → J pc ls st S) → J 0 av [] S) : MC_Md_move κ av S post := by
  refine fx_Met_of (cc := c_Md_move) (nL := 6) (ret := none) (by decide) rfl hq hlen ?_
  intro p e s m args below meth c hC hr hnw
  refine body _ ?_ fx_W_take
  have hF := hC.1
  have hts := hC.1.2.2.2.2
  have hm : ∀ {w : Cond}, w ∈ TB → w.before args s = true := fun h => hts _ (List.mem_cons_of_mem _ h)
  have g100 : ∀ (Q : State → Prop) (pc : Nat), decode c_Md_move pc = .ok (.getfield 100, 3) → fx_Snd (fx_W p κ.1 e rm_Md_move s m args below meth c Q (fx_A κ.2.2.2 lyM.length) 0 0 (fx_P κ.2.1 vwCl κ.2.2.1 κ.2.2.2 lyM) κ.2.2.2 6) pc (fm_get 0 9 (pc + 3)) := fun Q pc hd => fs_get hC (cN := 0) (j := 9) (ci := 7) (C := R_Md) (T := T_Md) (N := 43) rfl rfl rfl (by decide) (fun w h => List.mem_cons_of_mem _ (in_Md w h)) (hm wd_548) hd
  have g32 : ∀ (Q : State → Prop) (pc : Nat), decode c_Md_move pc = .ok (.getfield 32, 3) → fx_Snd (fx_W p κ.1 e rm_Md_move s m args below meth c Q (fx_A κ.2.2.2 lyM.length) 0 0 (fx_P κ.2.1 vwCl κ.2.2.1 κ.2.2.2 lyM) κ.2.2.2 6) pc (fm_getr 0 8 (pc + 3)) := fun Q pc hd => fs_getr hC (cN := 0) (j := 10) (ci := 7) (C := R_Md) (T := T_Md) (N := 43) rfl rfl rfl (by decide) (fun w h => List.mem_cons_of_mem _ (in_Md w h)) (hm wd_549) hd
  have g29 : ∀ (Q : State → Prop) (pc : Nat), decode c_Md_move pc = .ok (.getfield 29, 3) → fx_Snd (fx_W p κ.1 e rm_Md_move s m args below meth c Q (fx_A κ.2.2.2 lyM.length) 0 0 (fx_P κ.2.1 vwCl κ.2.2.1 κ.2.2.2 lyM) κ.2.2.2 6) pc (fm_getr 0 7 (pc + 3)) := fun Q pc hd => fs_getr hC (cN := 0) (j := 8) (ci := 7) (C := R_Md) (T := T_Md) (N := 43) rfl rfl rfl (by decide) (fun w h => List.mem_cons_of_mem _ (in_Md w h)) (hm wd_547) hd
  have g38 : ∀ (Q : State → Prop) (pc : Nat), decode c_Md_move pc = .ok (.getfield 38, 3) → fx_Snd (fx_W p κ.1 e rm_Md_move s m args below meth c Q (fx_A κ.2.2.2 lyM.length) 0 0 (fx_P κ.2.1 vwCl κ.2.2.1 κ.2.2.2 lyM) κ.2.2.2 6) pc (fm_getr 0 10 (pc + 3)) := fun Q pc hd => fs_getr hC (cN := 0) (j := 12) (ci := 7) (C := R_Md) (T := T_Md) (N := 43) rfl rfl rfl (by decide) (fun w h => List.mem_cons_of_mem _ (in_Md w h)) (hm wd_551) hd
  have g148 : ∀ (Q : State → Prop) (pc : Nat), decode c_Md_move pc = .ok (.getfield 148, 3) → fx_Snd (fx_W p κ.1 e rm_Md_move s m args below meth c Q (fx_A κ.2.2.2 lyM.length) 0 0 (fx_P κ.2.1 vwCl κ.2.2.1 κ.2.2.2 lyM) κ.2.2.2 6) pc (fm_get 0 25 (pc + 3)) := fun Q pc hd => fs_get hC (cN := 0) (j := 25) (ci := 7) (C := R_Md) (T := T_Md) (N := 43) rfl rfl rfl (by decide) (fun w h => List.mem_cons_of_mem _ (in_Md w h)) (hm wd_564) hd
  have g35 : ∀ (Q : State → Prop) (pc : Nat), decode c_Md_move pc = .ok (.getfield 35, 3) → fx_Snd (fx_W p κ.1 e rm_Md_move s m args below meth c Q (fx_A κ.2.2.2 lyM.length) 0 0 (fx_P κ.2.1 vwCl κ.2.2.1 κ.2.2.2 lyM) κ.2.2.2 6) pc (fm_getr 0 9 (pc + 3)) := fun Q pc hd => fs_getr hC (cN := 0) (j := 11) (ci := 7) (C := R_Md) (T := T_Md) (N := 43) rfl rfl rfl (by decide) (fun w h => List.mem_cons_of_mem _ (in_Md w h)) (hm wd_550) hd
  have g166 : ∀ (Q : State → Prop) (pc : Nat), decode c_Md_move pc = .ok (.getfield 166, 3) → fx_Snd (fx_W p κ.1 e rm_Md_move s m args below meth c Q (fx_A κ.2.2.2 lyM.length) 0 0 (fx_P κ.2.1 vwCl κ.2.2.1 κ.2.2.2 lyM) κ.2.2.2 6) pc (fm_get 0 41 (pc + 3)) := fun Q pc hd => fs_get hC (cN := 0) (j := 41) (ci := 7) (C := R_Md) (T := T_Md) (N := 43) rfl rfl rfl (by decide) (fun w h => List.mem_cons_of_mem _ (in_Md w h)) (hm wd_580) hd
  have g160 : ∀ (Q : State → Prop) (pc : Nat), decode c_Md_move pc = .ok (.getfield 160, 3) → fx_Snd (fx_W p κ.1 e rm_Md_move s m args below meth c Q (fx_A κ.2.2.2 lyM.length) 0 0 (fx_P κ.2.1 vwCl κ.2.2.1 κ.2.2.2 lyM) κ.2.2.2 6) pc (fm_get 0 40 (pc + 3)) := fun Q pc hd => fs_get hC (cN := 0) (j := 40) (ci := 7) (C := R_Md) (T := T_Md) (N := 43) rfl rfl rfl (by decide) (fun w h => List.mem_cons_of_mem _ (in_Md w h)) (hm wd_579) hd
  have g121 : ∀ (Q : State → Prop) (pc : Nat), decode c_Md_move pc = .ok (.getfield 121, 3) → fx_Snd (fx_W p κ.1 e rm_Md_move s m args below meth c Q (fx_A κ.2.2.2 lyM.length) 0 0 (fx_P κ.2.1 vwCl κ.2.2.1 κ.2.2.2 lyM) κ.2.2.2 6) pc (fm_get 0 26 (pc + 3)) := fun Q pc hd => fs_get hC (cN := 0) (j := 26) (ci := 7) (C := R_Md) (T := T_Md) (N := 43) rfl rfl rfl (by decide) (fun w h => List.mem_cons_of_mem _ (in_Md w h)) (hm wd_565) hd
  refine List.forall_mem_cons.mpr ⟨fs_const hF d_Md_move_0 (by decide), ?_⟩
  refine List.forall_mem_cons.mpr ⟨fs_store_n hF d_Md_move_1 rfl (by decide), ?_⟩
  refine List.forall_mem_cons.mpr ⟨fs_const hF d_Md_move_2 (by decide), ?_⟩
  refine List.forall_mem_cons.mpr ⟨fs_store_n hF d_Md_move_3 rfl (by decide), ?_⟩
  refine List.forall_mem_cons.mpr ⟨fs_const hF d_Md_move_4 (by decide), ?_⟩
  refine List.forall_mem_cons.mpr ⟨fs_store hF d_Md_move_5 (by decide), ?_⟩
  refine List.forall_mem_cons.mpr ⟨fs_load hF d_Md_move_7, ?_⟩
  refine List.forall_mem_cons.mpr ⟨fs_loada_n hF d_Md_move_9 rfl, ?_⟩
  refine List.forall_mem_cons.mpr ⟨g100 _ 10 d_Md_move_10, ?_⟩
  refine List.forall_mem_cons.mpr ⟨fs_cmpge hF d_Md_move_13 (by decide), ?_⟩
  refine List.forall_mem_cons.mpr ⟨fs_loada_n hF d_Md_move_16 rfl, ?_⟩
  refine List.forall_mem_cons.mpr ⟨g32 _ 17 d_Md_move_17, ?_⟩
  refine List.forall_mem_cons.mpr ⟨fs_load hF d_Md_move_20, ?_⟩
  refine List.forall_mem_cons.mpr ⟨fs_ald hC lkMI d_Md_move_22, ?_⟩
  refine List.forall_mem_cons.mpr ⟨fs_load_n hF d_Md_move_23 rfl, ?_⟩
  refine List.forall_mem_cons.mpr ⟨fs_const hF d_Md_move_24 (by decide), ?_⟩
  refine List.forall_mem_cons.mpr ⟨fs_ixor hF d_Md_move_25, ?_⟩
  refine List.forall_mem_cons.mpr ⟨fs_iand hF d_Md_move_26, ?_⟩
  refine List.forall_mem_cons.mpr ⟨fs_ifne hF d_Md_move_27 (by decide), ?_⟩
  refine List.forall_mem_cons.mpr ⟨fs_loada_n hF d_Md_move_30 rfl, ?_⟩
  refine List.forall_mem_cons.mpr ⟨fs_load hF d_Md_move_31, ?_⟩
  refine List.forall_mem_cons.mpr ⟨fs_callV hC nwl_ok hnw (cN := 0) (ci := 7) (C := R_Md) rfl rfl ⟨callB_of 1 hts (tb_good wd_757) rfl rfl rfl (hm wd_39) (hm wd_754) pd_Md_isEnabled ⟨Nat.le_of_ble_eq_true rfl, Nat.le_of_ble_eq_true rfl⟩, hm wd_756, hm wd_23⟩ d_Md_move_33, ?_⟩
  refine List.forall_mem_cons.mpr ⟨fs_ifeq hF d_Md_move_36 (by decide), ?_⟩
  refine List.forall_mem_cons.mpr ⟨fs_loada_n hF d_Md_move_39 rfl, ?_⟩
  refine List.forall_mem_cons.mpr ⟨g29 _ 40 d_Md_move_40, ?_⟩
  refine List.forall_mem_cons.mpr ⟨fs_loada_n hF d_Md_move_43 rfl, ?_⟩
  refine List.forall_mem_cons.mpr ⟨g38 _ 44 d_Md_move_44, ?_⟩
  refine List.forall_mem_cons.mpr ⟨fs_load hF d_Md_move_47, ?_⟩
  refine List.forall_mem_cons.mpr ⟨fs_ald hC lkMI d_Md_move_49, ?_⟩
  refine List.forall_mem_cons.mpr ⟨fs_zald hC lkMZ d_Md_move_50, ?_⟩
  refine List.forall_mem_cons.mpr ⟨fs_ifeq hF d_Md_move_51 (by decide), ?_⟩
  refine List.forall_mem_cons.mpr ⟨fs_const hF d_Md_move_54 (by decide), ?_⟩
  refine List.forall_mem_cons.mpr ⟨fs_goto hF d_Md_move_55 (by decide), ?_⟩
  refine List.forall_mem_cons.mpr ⟨fs_const hF d_Md_move_58 (by decide), ?_⟩
  refine List.forall_mem_cons.mpr ⟨fs_store hF d_Md_move_59 (by decide), ?_⟩
  refine List.forall_mem_cons.mpr ⟨fs_load hF d_Md_move_61, ?_⟩
  refine List.forall_mem_cons.mpr ⟨fs_ifeq hF d_Md_move_63 (by decide), ?_⟩
  refine List.forall_mem_cons.mpr ⟨fs_loada_n hF d_Md_move_66 rfl, ?_⟩
  refine List.forall_mem_cons.mpr ⟨g148 _ 67 d_Md_move_67, ?_⟩
  refine List.forall_mem_cons.mpr ⟨fs_ifne hF d_Md_move_70 (by decide), ?_⟩
  refine List.forall_mem_cons.mpr ⟨fs_loada_n hF d_Md_move_73 rfl, ?_⟩
  refine List.forall_mem_cons.mpr ⟨g32 _ 74 d_Md_move_74, ?_⟩
  refine List.forall_mem_cons.mpr ⟨fs_load hF d_Md_move_77, ?_⟩
  refine List.forall_mem_cons.mpr ⟨fs_ald hC lkMI d_Md_move_79, ?_⟩
  refine List.forall_mem_cons.mpr ⟨fs_load_n hF d_Md_move_80 rfl, ?_⟩
  refine List.forall_mem_cons.mpr ⟨fs_iand hF d_Md_move_81, ?_⟩
  refine List.forall_mem_cons.mpr ⟨fs_ifne hF d_Md_move_82 (by decide), ?_⟩
  refine List.forall_mem_cons.mpr ⟨fs_load_n hF d_Md_move_85 rfl, ?_⟩
  refine List.forall_mem_cons.mpr ⟨fs_loada_n hF d_Md_move_86 rfl, ?_⟩
  refine List.forall_mem_cons.mpr ⟨g32 _ 87 d_Md_move_87, ?_⟩
  refine List.forall_mem_cons.mpr ⟨fs_load hF d_Md_move_90, ?_⟩
  refine List.forall_mem_cons.mpr ⟨fs_ald hC lkMI d_Md_move_92, ?_⟩
  refine List.forall_mem_cons.mpr ⟨fs_ior hF d_Md_move_93, ?_⟩
  refine List.forall_mem_cons.mpr ⟨fs_store_n hF d_Md_move_94 rfl (by decide), ?_⟩
  refine List.forall_mem_cons.mpr ⟨fs_load_n hF d_Md_move_95 rfl, ?_⟩
  refine List.forall_mem_cons.mpr ⟨fs_loada_n hF d_Md_move_96 rfl, ?_⟩
  refine List.forall_mem_cons.mpr ⟨g35 _ 97 d_Md_move_97, ?_⟩
  refine List.forall_mem_cons.mpr ⟨fs_load hF d_Md_move_100, ?_⟩
  refine List.forall_mem_cons.mpr ⟨fs_ald hC lkMI d_Md_move_102, ?_⟩
  refine List.forall_mem_cons.mpr ⟨fs_ior hF d_Md_move_103, ?_⟩
  refine List.forall_mem_cons.mpr ⟨fs_store_n hF d_Md_move_104 rfl (by decide), ?_⟩
  refine List.forall_mem_cons.mpr ⟨fs_loada_n hF d_Md_move_105 rfl, ?_⟩
  refine List.forall_mem_cons.mpr ⟨fs_loada_n hF d_Md_move_106 rfl, ?_⟩
  refine List.forall_mem_cons.mpr ⟨g166 _ 107 d_Md_move_107, ?_⟩
  refine List.forall_mem_cons.mpr ⟨fs_const hF d_Md_move_110 (by decide), ?_⟩
  refine List.forall_mem_cons.mpr ⟨fs_load hF d_Md_move_111, ?_⟩
  refine List.forall_mem_cons.mpr ⟨fs_ishl hF d_Md_move_113, ?_⟩
  refine List.forall_mem_cons.mpr ⟨fs_ior hF d_Md_move_114, ?_⟩
  refine List.forall_mem_cons.mpr ⟨fs_put hC (cN := 0) (j := 41) (ci := 7) (C := R_Md) (T := T_Md) (N := 43) rfl rfl rfl (by decide) ty_Md tk_Md nm_Md rfl (by decide +kernel) (fun w h => List.mem_cons_of_mem _ (in_Md w h)) (hm wd_580) d_Md_move_115, ?_⟩
  refine List.forall_mem_cons.mpr ⟨fs_inc hF d_Md_move_118 (by decide) (by decide), ?_⟩
  refine List.forall_mem_cons.mpr ⟨fs_goto hF d_Md_move_121 (by decide), ?_⟩
  refine List.forall_mem_cons.mpr ⟨fs_loada_n hF d_Md_move_124 rfl, ?_⟩
  refine List.forall_mem_cons.mpr ⟨fs_loada_n hF d_Md_move_125 rfl, ?_⟩
  refine List.forall_mem_cons.mpr ⟨g160 _ 126 d_Md_move_126, ?_⟩
  refine List.forall_mem_cons.mpr ⟨fs_load_n hF d_Md_move_129 rfl, ?_⟩
  refine List.forall_mem_cons.mpr ⟨fs_ior hF d_Md_move_130, ?_⟩
  refine List.forall_mem_cons.mpr ⟨fs_loada_n hF d_Md_move_131 rfl, ?_⟩
  refine List.forall_mem_cons.mpr ⟨g121 _ 132 d_Md_move_132, ?_⟩
  refine List.forall_mem_cons.mpr ⟨fs_load_n hF d_Md_move_135 rfl, ?_⟩
  refine List.forall_mem_cons.mpr ⟨fs_iand hF d_Md_move_136, ?_⟩
  refine List.forall_mem_cons.mpr ⟨fs_load_n hF d_Md_move_137 rfl, ?_⟩
  refine List.forall_mem_cons.mpr ⟨fs_const hF d_Md_move_138 (by decide), ?_⟩
  refine List.forall_mem_cons.mpr ⟨fs_ixor hF d_Md_move_139, ?_⟩
  refine List.forall_mem_cons.mpr ⟨fs_iand hF d_Md_move_140, ?_⟩
  refine List.forall_mem_cons.mpr ⟨fs_ior hF d_Md_move_141, ?_⟩
  refine List.forall_mem_cons.mpr ⟨fs_put hC (cN := 0) (j := 40) (ci := 7) (C := R_Md) (T := T_Md) (N := 43) rfl rfl rfl (by decide) ty_Md tk_Md nm_Md rfl (by decide +kernel) (fun w h => List.mem_cons_of_mem _ (in_Md w h)) (hm wd_579) d_Md_move_142, ?_⟩
  refine List.forall_mem_cons.mpr ⟨fs_vret hC hr d_Md_move_145, ?_⟩
  exact fun _ h => absurd h List.not_mem_nil
abbrev rm_Md_evolve : Room := { frames := 2, cells := 0, slots := 0, locals := 46 }
def ws_Md_evolve : List Cond := .code y_Md_evolve c_Md_evolve 4 none :: TB
abbrev MC_Md_evolve (κ : fx_K) : List fx_V → fx_S → (Int32 → fx_S → Prop) → Prop := fx_Met κ.1 κ.2.1 vwCl κ.2.2.1 κ.2.2.2 lyM nwl y_Md_evolve ws_Md_evolve rm_Md_evolve false
def tt_Md_evolve (κ : fx_K) (post : Int32 → fx_S → Prop) : List (Nat × fx_M fx_S) := [(0, fm_loada 0 1),
  (1, fm_call false 0 0 (MC_Md_judge κ) 4),
  (4, fm_loada 0 5),
  (5, fm_const 0 6),
  (6, fm_put 0 40 9),
  (9, fm_loada 0 10),
  (10, fm_const 0 11),
  (11, fm_put 0 41 14),
  (14, fm_const 0 15),
  (15, fm_store 1 16),
  (16, fm_load 1 17),
  (17, fm_const 3 18),
  (18, fm_cmpge 85 21),
  (21, fm_loada 0 22),
  (22, fm_load 1 23),
  (23, fm_call true 0 1 (MC_Md_stepsOf κ) 26),
  (26, fm_store 2 27),
  (27, fm_loada 0 28),
  (28, fm_load 1 29),
  (29, fm_call true 0 1 (MC_Md_ruling κ) 32),
  (32, fm_store 3 33),
  (33, fm_load 3 34),
  (34, fm_iflt 74 37),
  (37, fm_loada 0 38),
  (38, fm_loada 0 39),
  (39, fm_get 0 40 42),
  (42, fm_loada 0 43),
  (43, fm_getr 0 13 46),
  (46, fm_load 3 47),
  (47, fm_ald lnMI 48),
  (48, fm_const (-1) 49),
  (49, fm_cmpne 61 52),
  (52, fm_loada 0 53),
  (53, fm_get 0 26 56),
  (56, fm_load 2 57),
  (57, fm_iand 58),
  (58, fm_goto 67),
  (61, fm_loada 0 62),
  (62, fm_getr 0 13 65),
  (65, fm_load 3 66),
  (66, fm_ald lnMI 67),
  (67, fm_ior 68),
  (68, fm_put 0 40 71),
  (71, fm_goto 79),
  (74, fm_loada 0 75),
  (75, fm_load 2 76),
  (76, fm_call false 0 1 (MC_Md_move κ) 79),
  (79, fm_inc 1 1 82),
  (82, fm_goto 16),
  (85, fm_vret post)]
set_option maxHeartbeats 4000000 in
set_option maxRecDepth 100000 in
theorem mo_Md_evolve {κ : fx_K} (hq : fx_I κ lyM.length) {av : List fx_V} {S : fx_S} {post : Int32 → fx_S → Prop} (hlen : av.length ≤ 4) (body : ∀ J : fx_J fx_S, (∀ r ∈ tt_Md_evolve κ post, fx_Snd J r.1 r.2) → (∀ pc k ls st S, J pc (ls.take k) st S → J pc ls st S) → J 0 av [] S) : MC_Md_evolve κ av S post := by
  refine fx_Met_of (cc := c_Md_evolve) (nL := 4) (ret := none) (by decide) rfl hq hlen ?_
  intro p e s m args below meth c hC hr hnw
  refine body _ ?_ fx_W_take
  have hF := hC.1
  have hts := hC.1.2.2.2.2
  have hm : ∀ {w : Cond}, w ∈ TB → w.before args s = true := fun h => hts _ (List.mem_cons_of_mem _ h)
  have g160 : ∀ (Q : State → Prop) (pc : Nat), decode c_Md_evolve pc = .ok (.getfield 160, 3) → fx_Snd (fx_W p κ.1 e rm_Md_evolve s m args below meth c Q (fx_A κ.2.2.2 lyM.length) 0 0 (fx_P κ.2.1 vwCl κ.2.2.1 κ.2.2.2 lyM) κ.2.2.2 4) pc (fm_get 0 40 (pc + 3)) := fun Q pc hd => fs_get hC (cN := 0) (j := 40) (ci := 7) (C := R_Md) (T := T_Md) (N := 43) rfl rfl rfl (by decide) (fun w h => List.mem_cons_of_mem _ (in_Md w h)) (hm wd_579) hd
  have g47 : ∀ (Q : State → Prop) (pc : Nat), decode c_Md_evolve pc = .ok (.getfield 47, 3) → fx_Snd (fx_W p κ.1 e rm_Md_evolve s m args below meth c Q (fx_A κ.2.2.2 lyM.length) 0 0 (fx_P κ.2.1 vwCl κ.2.2.1 κ.2.2.2 lyM) κ.2.2.2 4) pc (fm_getr 0 13 (pc + 3)) := fun Q pc hd => fs_getr hC (cN := 0) (j := 16) (ci := 7) (C := R_Md) (T := T_Md) (N := 43) rfl rfl rfl (by decide) (fun w h => List.mem_cons_of_mem _ (in_Md w h)) (hm wd_555) hd
  have g121 : ∀ (Q : State → Prop) (pc : Nat), decode c_Md_evolve pc = .ok (.getfield 121, 3) → fx_Snd (fx_W p κ.1 e rm_Md_evolve s m args below meth c Q (fx_A κ.2.2.2 lyM.length) 0 0 (fx_P κ.2.1 vwCl κ.2.2.1 κ.2.2.2 lyM) κ.2.2.2 4) pc (fm_get 0 26 (pc + 3)) := fun Q pc hd => fs_get hC (cN := 0) (j := 26) (ci := 7) (C := R_Md) (T := T_Md) (N := 43) rfl rfl rfl (by decide) (fun w h => List.mem_cons_of_mem _ (in_Md w h)) (hm wd_565) hd
  refine List.forall_mem_cons.mpr ⟨fs_loada_n hF d_Md_evolve_0 rfl, ?_⟩
  refine List.forall_mem_cons.mpr ⟨fs_callV hC nwl_ok hnw (cN := 0) (ci := 7) (C := R_Md) rfl rfl ⟨callB_of 0 hts (tb_good wd_745) rfl rfl rfl (hm wd_39) (hm wd_742) pd_Md_judge ⟨Nat.le_of_ble_eq_true rfl, Nat.le_of_ble_eq_true rfl⟩, hm wd_744, hm wd_20⟩ d_Md_evolve_1, ?_⟩
  refine List.forall_mem_cons.mpr ⟨fs_loada_n hF d_Md_evolve_4 rfl, ?_⟩
  refine List.forall_mem_cons.mpr ⟨fs_const hF d_Md_evolve_5 (by decide), ?_⟩
  refine List.forall_mem_cons.mpr ⟨fs_put hC (cN := 0) (j := 40) (ci := 7) (C := R_Md) (T := T_Md) (N := 43) rfl rfl rfl (by decide) ty_Md tk_Md nm_Md rfl (by decide +kernel) (fun w h => List.mem_cons_of_mem _ (in_Md w h)) (hm wd_579) d_Md_evolve_6, ?_⟩
  refine List.forall_mem_cons.mpr ⟨fs_loada_n hF d_Md_evolve_9 rfl, ?_⟩
  refine List.forall_mem_cons.mpr ⟨fs_const hF d_Md_evolve_10 (by decide), ?_⟩
  refine List.forall_mem_cons.mpr ⟨fs_put hC (cN := 0) (j := 41) (ci := 7) (C := R_Md) (T := T_Md) (N := 43) rfl rfl rfl (by decide) ty_Md tk_Md nm_Md rfl (by decide +kernel) (fun w h => List.mem_cons_of_mem _ (in_Md w h)) (hm wd_580) d_Md_evolve_11, ?_⟩
  refine List.forall_mem_cons.mpr ⟨fs_const hF d_Md_evolve_14 (by decide), ?_⟩
  refine List.forall_mem_cons.mpr ⟨fs_store_n hF d_Md_evolve_15 rfl (by decide), ?_⟩
  refine List.forall_mem_cons.mpr ⟨fs_load_n hF d_Md_evolve_16 rfl, ?_⟩
  refine List.forall_mem_cons.mpr ⟨fs_const hF d_Md_evolve_17 (by decide), ?_⟩
  refine List.forall_mem_cons.mpr ⟨fs_cmpge hF d_Md_evolve_18 (by decide), ?_⟩
  refine List.forall_mem_cons.mpr ⟨fs_loada_n hF d_Md_evolve_21 rfl, ?_⟩
  refine List.forall_mem_cons.mpr ⟨fs_load_n hF d_Md_evolve_22 rfl, ?_⟩
  refine List.forall_mem_cons.mpr ⟨fs_callV hC nwl_ok hnw (cN := 0) (ci := 7) (C := R_Md) rfl rfl ⟨callB_of 1 hts (tb_good wd_698) rfl rfl rfl (hm wd_39) (hm wd_695) pd_Md_stepsOf ⟨Nat.le_of_ble_eq_true rfl, Nat.le_of_ble_eq_true rfl⟩, hm wd_697, hm wd_15⟩ d_Md_evolve_23, ?_⟩
  refine List.forall_mem_cons.mpr ⟨fs_store_n hF d_Md_evolve_26 rfl (by decide), ?_⟩
  refine List.forall_mem_cons.mpr ⟨fs_loada_n hF d_Md_evolve_27 rfl, ?_⟩
  refine List.forall_mem_cons.mpr ⟨fs_load_n hF d_Md_evolve_28 rfl, ?_⟩
  refine List.forall_mem_cons.mpr ⟨fs_callV hC nwl_ok hnw (cN := 0) (ci := 7) (C := R_Md) rfl rfl ⟨callB_of 1 hts (tb_good wd_749) rfl rfl rfl (hm wd_39) (hm wd_746) pd_Md_ruling ⟨Nat.le_of_ble_eq_true rfl, Nat.le_of_ble_eq_true rfl⟩, hm wd_748, hm wd_21⟩ d_Md_evolve_29, ?_⟩
  refine List.forall_mem_cons.mpr ⟨fs_store_n hF d_Md_evolve_32 rfl (by decide), ?_⟩
  refine List.forall_mem_cons.mpr ⟨fs_load_n hF d_Md_evolve_33 rfl, ?_⟩
  refine List.forall_mem_cons.mpr ⟨fs_iflt hF d_Md_evolve_34 (by decide), ?_⟩
  refine List.forall_mem_cons.mpr ⟨fs_loada_n hF d_Md_evolve_37 rfl, ?_⟩
  refine List.forall_mem_cons.mpr ⟨fs_loada_n hF d_Md_evolve_38 rfl, ?_⟩
  refine List.forall_mem_cons.mpr ⟨g160 _ 39 d_Md_evolve_39, ?_⟩
  refine List.forall_mem_cons.mpr ⟨fs_loada_n hF d_Md_evolve_42 rfl, ?_⟩
  refine List.forall_mem_cons.mpr ⟨g47 _ 43 d_Md_evolve_43, ?_⟩
  refine List.forall_mem_cons.mpr ⟨fs_load_n hF d_Md_evolve_46 rfl, ?_⟩
  refine List.forall_mem_cons.mpr ⟨fs_ald hC lkMI d_Md_evolve_47, ?_⟩
  refine List.forall_mem_cons.mpr ⟨fs_const hF d_Md_evolve_48 (by decide), ?_⟩
  refine List.forall_mem_cons.mpr ⟨fs_cmpne hF d_Md_evolve_49 (by decide), ?_⟩
  refine List.forall_mem_cons.mpr ⟨fs_loada_n hF d_Md_evolve_52 rfl, ?_⟩
  refine List.forall_mem_cons.mpr ⟨g121 _ 53 d_Md_evolve_53, ?_⟩
  refine List.forall_mem_cons.mpr ⟨fs_load_n hF d_Md_evolve_56 rfl, ?_⟩
  refine List.forall_mem_cons.mpr ⟨fs_iand hF d_Md_evolve_57, ?_⟩
  refine List.forall_mem_cons.mpr ⟨fs_goto hF d_Md_evolve_58 (by decide), ?_⟩
  refine List.forall_mem_cons.mpr ⟨fs_loada_n hF d_Md_evolve_61 rfl, ?_⟩
  refine List.forall_mem_cons.mpr ⟨g47 _ 62 d_Md_evolve_62, ?_⟩
  refine List.forall_mem_cons.mpr ⟨fs_load_n hF d_Md_evolve_65 rfl, ?_⟩
  refine List.forall_mem_cons.mpr ⟨fs_ald hC lkMI d_Md_evolve_66, ?_⟩
  refine List.forall_mem_cons.mpr ⟨fs_ior hF d_Md_evolve_67, ?_⟩
  refine List.forall_mem_cons.mpr ⟨fs_put hC (cN := 0) (j := 40) (ci := 7) (C := R_Md) (T := T_Md) (N := 43) rfl rfl rfl (by decide) ty_Md tk_Md nm_Md rfl (by decide +kernel) (fun w h => List.mem_cons_of_mem _ (in_Md w h)) (hm wd_579) d_Md_evolve_68, ?_⟩
  refine List.forall_mem_cons.mpr ⟨fs_goto hF d_Md_evolve_71 (by decide), ?_⟩
  refine List.forall_mem_cons.mpr ⟨fs_loada_n hF d_Md_evolve_74 rfl, ?_⟩
  refine List.forall_mem_cons.mpr ⟨fs_load_n hF d_Md_evolve_75 rfl, ?_⟩
  refine List.forall_mem_cons.mpr ⟨fs_callV hC nwl_ok hnw (cN := 0) (ci := 7) (C := R_Md) rfl rfl ⟨callB_of 1 hts (tb_good wd_753) rfl rfl rfl (hm wd_39) (hm wd_750) pd_Md_move ⟨Nat.le_of_ble_eq_true rfl, Nat.le_of_ble_eq_true rfl⟩, hm wd_752, hm wd_22⟩ d_Md_evolve_76, ?_⟩
  refine List.forall_mem_cons.mpr ⟨fs_inc hF d_Md_evolve_79 (by decide) (by decide), ?_⟩
  refine List.forall_mem_cons.mpr ⟨fs_goto hF d_Md_evolve_82 (by decide), ?_⟩
  refine List.forall_mem_cons.mpr ⟨fs_vret hC hr d_Md_evolve_85, ?_⟩
  exact fun _ h => absurd h List.not_mem_nil
abbrev rm_Md_take : Room := { frames := 1, cells := 0, slots := 0, locals := 21 }
def ws_Md_take : List Cond := .code y_Md_take c_Md_take 3 none :: TB
abbrev MC_Md_take (κ : fx_K) : List fx_V → fx_S → (Int32 → fx_S → Prop) → Prop := fx_Met κ.1 κ.2.1 vwCl κ.2.2.1 κ.2.2.2 lyM nwl y_Md_take ws_Md_take rm_Md_take false
def tt_Md_take (κ : fx_K) (post : Int32 → fx_S → Prop) : List (Nat × fx_M fx_S) := [(0, fm_const 0 1),
  (1, fm_store 1 2),
  (2, fm_load 1 3),
  (3, fm_loada 0 4),
  (4, fm_get 0 0 7),
  (7, fm_cmpge 64 10),
  (10, fm_loada 0 11),
  (11, fm_get 0 26 14),
  (14, fm_load 1 15),
  (15, fm_calls true 2 (MC_Md_in κ) 18),
  (18, fm_ifeq 36 21),
  (21, fm_loada 0 22),
  (22, fm_get 0 40 25),
  (25, fm_load 1 26),
  (26, fm_calls true 2 (MC_Md_in κ) 29),
  (29, fm_ifeq 36 32),
  (32, fm_const 1 33),
  (33, fm_goto 37),
  (36, fm_const 0 37),
  (37, fm_store 2 38),
  (38, fm_loada 0 39),
  (39, fm_getr 0 20 42),
  (42, fm_load 1 43),
  (43, fm_load 2 44),
  (44, fm_ifeq 56 47),
  (47, fm_loada 0 48),
  (48, fm_getr 0 20 51),
  (51, fm_load 1 52),
  (52, fm_ald lnMI 53),
  (53, fm_goto 57),
  (56, fm_const 0 57),
  (57, fm_ast lnMI 58),
  (58, fm_inc 1 1 61),
  (61, fm_goto 2),
  (64, fm_loada 0 65),
  (65, fm_loada 0 66),
  (66, fm_get 0 40 69),
  (69, fm_put 0 26 72),
  (72, fm_vret post)]
set_option maxHeartbeats 4000000 in
set_option maxRecDepth 100000 in
theorem mo_Md_take {κ : fx_K} (hq : fx_I κ lyM.length) {av : List fx_V} {S : fx_S} {post : Int32 → fx_S → Prop} (hlen : av.length ≤ 3) (body : ∀ J : fx_J fx_S, (∀ r ∈ tt_Md_take κ post, fx_Snd J r.1 r.2) → (∀ pc k ls st S, J pc (ls.take k) st S → J pc ls st S) → J 0 av [] S) : MC_Md_take κ av S post := by
  refine fx_Met_of (cc := c_Md_take) (nL := 3) (ret := none) (by decide) rfl hq hlen ?_
  intro p e s m args below meth c hC hr hnw
  refine body _ ?_ fx_W_take
  have hF := hC.1
  have hts := hC.1.2.2.2.2
  have hm : ∀ {w : Cond}, w ∈ TB → w.before args s = true := fun h => hts _ (List.mem_cons_of_mem _ h)
  have g77 : ∀ (Q : State → Prop) (pc : Nat), decode c_Md_take pc = .ok (.getfield 77, 3) → fx_Snd (fx_W p κ.1 e rm_Md_take s m args below meth c Q (fx_A κ.2.2.2 lyM.length) 0 0 (fx_P κ.2.1 vwCl κ.2.2.1 κ.2.2.2 lyM) κ.2.2.2 3) pc (fm_get 0 0 (pc + 3)) := fun Q pc hd => fs_get hC (cN := 0) (j := 0) (ci := 7) (C := R_Md) (T := T_Md) (N := 43) rfl rfl rfl (by decide) (fun w h => List.mem_cons_of_mem _ (in_Md w h)) (hm wd_539) hd
  have g121 : ∀ (Q : State → Prop) (pc : Nat), decode c_Md_take pc = .ok (.getfield 121, 3) → fx_Snd (fx_W p κ.1 e rm_Md_take s m args below meth c Q (fx_A κ.2.2.2 lyM.length) 0 0 (fx_P κ.2.1 vwCl κ.2.2.1 κ.2.2.2 lyM) κ.2.2.2 3) pc (fm_get 0 26 (pc + 3)) := fun Q pc hd => fs_get hC (cN := 0) (j := 26) (ci := 7) (C := R_Md) (T := T_Md) (N := 43) rfl rfl rfl (by decide) (fun w h => List.mem_cons_of_mem _ (in_Md w h)) (hm wd_565) hd
  have g160 : ∀ (Q : State → Prop) (pc : Nat), decode c_Md_take pc = .ok (.getfield 160, 3) → fx_Snd (fx_W p κ.1 e rm_Md_take s m args below meth c Q (fx_A κ.2.2.2 lyM.length) 0 0 (fx_P κ.2.1 vwCl κ.2.2.1 κ.2.2.2 lyM) κ.2.2.2 3) pc (fm_get 0 40 (pc + 3)) := fun Q pc hd => fs_get hC (cN := 0) (j := 40) (ci := 7) (C := R_Md) (T := T_Md) (N := 43) rfl rfl rfl (by decide) (fun w h => List.mem_cons_of_mem _ (in_Md w h)) (hm wd_579) hd
  have g68 : ∀ (Q : State → Prop) (pc : Nat), decode c_Md_take pc = .ok (.getfield 68, 3) → fx_Snd (fx_W p κ.1 e rm_Md_take s m args below meth c Q (fx_A κ.2.2.2 lyM.length) 0 0 (fx_P κ.2.1 vwCl κ.2.2.1 κ.2.2.2 lyM) κ.2.2.2 3) pc (fm_getr 0 20 (pc + 3)) := fun Q pc hd => fs_getr hC (cN := 0) (j := 27) (ci := 7) (C := R_Md) (T := T_Md) (N := 43) rfl rfl rfl (by decide) (fun w h => List.mem_cons_of_mem _ (in_Md w h)) (hm wd_566) hd
  refine List.forall_mem_cons.mpr ⟨fs_const hF d_Md_take_0 (by decide), ?_⟩
  refine List.forall_mem_cons.mpr ⟨fs_store_n hF d_Md_take_1 rfl (by decide), ?_⟩
  refine List.forall_mem_cons.mpr ⟨fs_load_n hF d_Md_take_2 rfl, ?_⟩
  refine List.forall_mem_cons.mpr ⟨fs_loada_n hF d_Md_take_3 rfl, ?_⟩
  refine List.forall_mem_cons.mpr ⟨g77 _ 4 d_Md_take_4, ?_⟩
  refine List.forall_mem_cons.mpr ⟨fs_cmpge hF d_Md_take_7 (by decide), ?_⟩
  refine List.forall_mem_cons.mpr ⟨fs_loada_n hF d_Md_take_10 rfl, ?_⟩
  refine List.forall_mem_cons.mpr ⟨g121 _ 11 d_Md_take_11, ?_⟩
  refine List.forall_mem_cons.mpr ⟨fs_load_n hF d_Md_take_14 rfl, ?_⟩
  refine List.forall_mem_cons.mpr ⟨fs_callS hC nwl_ok hnw ⟨callB_of 2 hts (tb_good wd_717) rfl rfl rfl (hm wd_39) (hm wd_715) pd_Md_in ⟨Nat.le_of_ble_eq_true rfl, Nat.le_of_ble_eq_true rfl⟩, hm wd_716⟩ d_Md_take_15, ?_⟩
  refine List.forall_mem_cons.mpr ⟨fs_ifeq hF d_Md_take_18 (by decide), ?_⟩
  refine List.forall_mem_cons.mpr ⟨fs_loada_n hF d_Md_take_21 rfl, ?_⟩
  refine List.forall_mem_cons.mpr ⟨g160 _ 22 d_Md_take_22, ?_⟩
  refine List.forall_mem_cons.mpr ⟨fs_load_n hF d_Md_take_25 rfl, ?_⟩
  refine List.forall_mem_cons.mpr ⟨fs_callS hC nwl_ok hnw ⟨callB_of 2 hts (tb_good wd_717) rfl rfl rfl (hm wd_39) (hm wd_715) pd_Md_in ⟨Nat.le_of_ble_eq_true rfl, Nat.le_of_ble_eq_true rfl⟩, hm wd_716⟩ d_Md_take_26, ?_⟩
  refine List.forall_mem_cons.mpr ⟨fs_ifeq hF d_Md_take_29 (by decide), ?_⟩
  refine List.forall_mem_cons.mpr ⟨fs_const hF d_Md_take_32 (by decide), ?_⟩
  refine List.forall_mem_cons.mpr ⟨fs_goto hF d_Md_take_33 (by decide), ?_⟩
  refine List.forall_mem_cons.mpr ⟨fs_const hF d_Md_take_36 (by decide), ?_⟩
  refine List.forall_mem_cons.mpr ⟨fs_store_n hF d_Md_take_37 rfl (by decide), ?_⟩
  refine List.forall_mem_cons.mpr ⟨fs_loada_n hF d_Md_take_38 rfl, ?_⟩
  refine List.forall_mem_cons.mpr ⟨g68 _ 39 d_Md_take_39, ?_⟩
  refine List.forall_mem_cons.mpr ⟨fs_load_n hF d_Md_take_42 rfl, ?_⟩
  refine List.forall_mem_cons.mpr ⟨fs_load_n hF d_Md_take_43 rfl, ?_⟩
  refine List.forall_mem_cons.mpr ⟨fs_ifeq hF d_Md_take_44 (by decide), ?_⟩
  refine List.forall_mem_cons.mpr ⟨fs_loada_n hF d_Md_take_47 rfl, ?_⟩
  refine List.forall_mem_cons.mpr ⟨g68 _ 48 d_Md_take_48, ?_⟩
  refine List.forall_mem_cons.mpr ⟨fs_load_n hF d_Md_take_51 rfl, ?_⟩
  refine List.forall_mem_cons.mpr ⟨fs_ald hC lkMI d_Md_take_52, ?_⟩
  refine List.forall_mem_cons.mpr ⟨fs_goto hF d_Md_take_53 (by decide), ?_⟩
  refine List.forall_mem_cons.mpr ⟨fs_const hF d_Md_take_56 (by decide), ?_⟩
  refine List.forall_mem_cons.mpr ⟨fs_ast hC lkMI d_Md_take_57, ?_⟩
  refine List.forall_mem_cons.mpr ⟨fs_inc hF d_Md_take_58 (by decide) (by decide), ?_⟩
  refine List.forall_mem_cons.mpr ⟨fs_goto hF d_Md_take_61 (by decide), ?_⟩
  refine List.forall_mem_cons.mpr ⟨fs_loada_n hF d_Md_take_64 rfl, ?_⟩
  refine List.forall_mem_cons.mpr ⟨fs_loada_n hF d_Md_take_65 rfl, ?_⟩
  refine List.forall_mem_cons.mpr ⟨g160 _ 66 d_Md_take_66, ?_⟩
  refine List.forall_mem_cons.mpr ⟨fs_put hC (cN := 0) (j := 26) (ci := 7) (C := R_Md) (T := T_Md) (N := 43) rfl rfl rfl (by decide) ty_Md tk_Md nm_Md rfl (by decide +kernel) (fun w h => List.mem_cons_of_mem _ (in_Md w h)) (hm wd_565) d_Md_take_69, ?_⟩
  refine List.forall_mem_cons.mpr ⟨fs_vret hC hr d_Md_take_72, ?_⟩
  exact fun _ h => absurd h List.not_mem_nil
abbrev rm_Md_code : Room := { frames := 1, cells := 0, slots := 0, locals := 21 }
def ws_Md_code : List Cond := .code y_Md_code c_Md_code 3 (some .int) :: TB
abbrev MC_Md_code (κ : fx_K) : List fx_V → fx_S → (Int32 → fx_S → Prop) → Prop := fx_Met κ.1 κ.2.1 vwCl κ.2.2.1 κ.2.2.2 lyM nwl y_Md_code ws_Md_code rm_Md_code true
def tt_Md_code (κ : fx_K) (post : Int32 → fx_S → Prop) : List (Nat × fx_M fx_S) := [(0, fm_const 0 1),
  (1, fm_store 1 2),
  (2, fm_const 0 3),
  (3, fm_store 2 4),
  (4, fm_load 2 5),
  (5, fm_loada 0 6),
  (6, fm_get 0 0 9),
  (9, fm_cmpge 52 12),
  (12, fm_const 3 13),
  (13, fm_load 1 14),
  (14, fm_imul 15),
  (15, fm_loada 0 16),
  (16, fm_get 0 26 19),
  (19, fm_load 2 20),
  (20, fm_calls true 2 (MC_Md_in κ) 23),
  (23, fm_ifne 30 26),
  (26, fm_const 0 27),
  (27, fm_goto 44),
  (30, fm_loada 0 31),
  (31, fm_getr 0 20 34),
  (34, fm_load 2 35),
  (35, fm_ald lnMI 36),
  (36, fm_ifne 43 39),
  (39, fm_const 1 40),
  (40, fm_goto 44),
  (43, fm_const 2 44),
  (44, fm_iadd 45),
  (45, fm_store 1 46),
  (46, fm_inc 2 1 49),
  (49, fm_goto 4),
  (52, fm_load 1 53),
  (53, fm_ret post)]
set_option maxHeartbeats 4000000 in
set_option maxRecDepth 100000 in
theorem mo_Md_code {κ : fx_K} (hq : fx_I κ lyM.length) {av : List fx_V} {S : fx_S} {post : Int32 → fx_S → Prop} (hlen : av.length ≤ 3) (body : ∀ J : fx_J fx_S, (∀ r ∈ tt_Md_code κ post, fx_Snd J r.1 r.2) → (∀ pc k ls st S, J pc (ls.take k) st S → J pc ls st S) → J 0 av [] S) : MC_Md_code κ av S post := by
  refine fx_Met_of (cc := c_Md_code) (nL := 3) (ret := (some .int)) (by decide) rfl hq hlen ?_
  intro p e s m args below meth c hC hr hnw
  refine body _ ?_ fx_W_take
  have hF := hC.1
  have hts := hC.1.2.2.2.2
  have hm : ∀ {w : Cond}, w ∈ TB → w.before args s = true := fun h => hts _ (List.mem_cons_of_mem _ h)
  have g77 : ∀ (Q : State → Prop) (pc : Nat), decode c_Md_code pc = .ok (.getfield 77, 3) → fx_Snd (fx_W p κ.1 e rm_Md_code s m args below meth c Q (fx_A κ.2.2.2 lyM.length) 0 0 (fx_P κ.2.1 vwCl κ.2.2.1 κ.2.2.2 lyM) κ.2.2.2 3) pc (fm_get 0 0 (pc + 3)) := fun Q pc hd => fs_get hC (cN := 0) (j := 0) (ci := 7) (C := R_Md) (T := T_Md) (N := 43) rfl rfl rfl (by decide) (fun w h => List.mem_cons_of_mem _ (in_Md w h)) (hm wd_539) hd
  have g121 : ∀ (Q : State → Prop) (pc : Nat), decode c_Md_code pc = .ok (.getfield 121, 3) → fx_Snd (fx_W p κ.1 e rm_Md_code s m args below meth c Q (fx_A κ.2.2.2 lyM.length) 0 0 (fx_P κ.2.1 vwCl κ.2.2.1 κ.2.2.2 lyM) κ.2.2.2 3) pc (fm_get 0 26 (pc + 3)) := fun Q pc hd => fs_get hC (cN := 0) (j := 26) (ci := 7) (C := R_Md) (T := T_Md) (N := 43) rfl rfl rfl (by decide) (fun w h => List.mem_cons_of_mem _ (in_Md w h)) (hm wd_565) hd
  have g68 : ∀ (Q : State → Prop) (pc : Nat), decode c_Md_code pc = .ok (.getfield 68, 3) → fx_Snd (fx_W p κ.1 e rm_Md_code s m args below meth c Q (fx_A κ.2.2.2 lyM.length) 0 0 (fx_P κ.2.1 vwCl κ.2.2.1 κ.2.2.2 lyM) κ.2.2.2 3) pc (fm_getr 0 20 (pc + 3)) := fun Q pc hd => fs_getr hC (cN := 0) (j := 27) (ci := 7) (C := R_Md) (T := T_Md) (N := 43) rfl rfl rfl (by decide) (fun w h => List.mem_cons_of_mem _ (in_Md w h)) (hm wd_566) hd
  refine List.forall_mem_cons.mpr ⟨fs_const hF d_Md_code_0 (by decide), ?_⟩
  refine List.forall_mem_cons.mpr ⟨fs_store_n hF d_Md_code_1 rfl (by decide), ?_⟩
  refine List.forall_mem_cons.mpr ⟨fs_const hF d_Md_code_2 (by decide), ?_⟩
  refine List.forall_mem_cons.mpr ⟨fs_store_n hF d_Md_code_3 rfl (by decide), ?_⟩
  refine List.forall_mem_cons.mpr ⟨fs_load_n hF d_Md_code_4 rfl, ?_⟩
  refine List.forall_mem_cons.mpr ⟨fs_loada_n hF d_Md_code_5 rfl, ?_⟩
  refine List.forall_mem_cons.mpr ⟨g77 _ 6 d_Md_code_6, ?_⟩
  refine List.forall_mem_cons.mpr ⟨fs_cmpge hF d_Md_code_9 (by decide), ?_⟩
  refine List.forall_mem_cons.mpr ⟨fs_const hF d_Md_code_12 (by decide), ?_⟩
  refine List.forall_mem_cons.mpr ⟨fs_load_n hF d_Md_code_13 rfl, ?_⟩
  refine List.forall_mem_cons.mpr ⟨fs_imul hF d_Md_code_14, ?_⟩
  refine List.forall_mem_cons.mpr ⟨fs_loada_n hF d_Md_code_15 rfl, ?_⟩
  refine List.forall_mem_cons.mpr ⟨g121 _ 16 d_Md_code_16, ?_⟩
  refine List.forall_mem_cons.mpr ⟨fs_load_n hF d_Md_code_19 rfl, ?_⟩
  refine List.forall_mem_cons.mpr ⟨fs_callS hC nwl_ok hnw ⟨callB_of 2 hts (tb_good wd_717) rfl rfl rfl (hm wd_39) (hm wd_715) pd_Md_in ⟨Nat.le_of_ble_eq_true rfl, Nat.le_of_ble_eq_true rfl⟩, hm wd_716⟩ d_Md_code_20, ?_⟩
  refine List.forall_mem_cons.mpr ⟨fs_ifne hF d_Md_code_23 (by decide), ?_⟩
  refine List.forall_mem_cons.mpr ⟨fs_const hF d_Md_code_26 (by decide), ?_⟩
  refine List.forall_mem_cons.mpr ⟨fs_goto hF d_Md_code_27 (by decide), ?_⟩
  refine List.forall_mem_cons.mpr ⟨fs_loada_n hF d_Md_code_30 rfl, ?_⟩
  refine List.forall_mem_cons.mpr ⟨g68 _ 31 d_Md_code_31, ?_⟩
  refine List.forall_mem_cons.mpr ⟨fs_load_n hF d_Md_code_34 rfl, ?_⟩
  refine List.forall_mem_cons.mpr ⟨fs_ald hC lkMI d_Md_code_35, ?_⟩
  refine List.forall_mem_cons.mpr ⟨fs_ifne hF d_Md_code_36 (by decide), ?_⟩
  refine List.forall_mem_cons.mpr ⟨fs_const hF d_Md_code_39 (by decide), ?_⟩
  refine List.forall_mem_cons.mpr ⟨fs_goto hF d_Md_code_40 (by decide), ?_⟩
  refine List.forall_mem_cons.mpr ⟨fs_const hF d_Md_code_43 (by decide), ?_⟩
  refine List.forall_mem_cons.mpr ⟨fs_iadd hF d_Md_code_44, ?_⟩
  refine List.forall_mem_cons.mpr ⟨fs_store_n hF d_Md_code_45 rfl (by decide), ?_⟩
  refine List.forall_mem_cons.mpr ⟨fs_inc hF d_Md_code_46 (by decide) (by decide), ?_⟩
  refine List.forall_mem_cons.mpr ⟨fs_goto hF d_Md_code_49 (by decide), ?_⟩
  refine List.forall_mem_cons.mpr ⟨fs_load_n hF d_Md_code_52 rfl, ?_⟩
  refine List.forall_mem_cons.mpr ⟨fs_ret hC hr d_Md_code_53, ?_⟩
  exact fun _ h => absurd h List.not_mem_nil
abbrev rm_Md_settle : Room := { frames := 3, cells := 0, slots := 0, locals := 69 }
def ws_Md_settle : List Cond := .code y_Md_settle c_Md_settle 4 (some .int) :: TB
abbrev MC_Md_settle (κ : fx_K) : List fx_V → fx_S → (Int32 → fx_S → Prop) → Prop := fx_Met κ.1 κ.2.1 vwCl κ.2.2.1 κ.2.2.2 lyM nwl y_Md_settle ws_Md_settle rm_Md_settle true
def tt_Md_settle (κ : fx_K) (post : Int32 → fx_S → Prop) : List (Nat × fx_M fx_S) := [(0, fm_const 0 1),
  (1, fm_store 1 2),
  (2, fm_load 1 3),
  (3, fm_const 6561 6),
  (6, fm_cmpge 22 9),
  (9, fm_loada 0 10),
  (10, fm_getr 0 22 13),
  (13, fm_load 1 14),
  (14, fm_const 0 15),
  (15, fm_ast lnMI 16),
  (16, fm_inc 1 1 19),
  (19, fm_goto 2),
  (22, fm_const 0 23),
  (23, fm_store 1 24),
  (24, fm_const 1 25),
  (25, fm_store 2 26),
  (26, fm_load 2 27),
  (27, fm_const 6562 30),
  (30, fm_cmpgt 136 33),
  (33, fm_loada 0 34),
  (34, fm_call false 0 0 (MC_Md_evolve κ) 37),
  (37, fm_loada 0 38),
  (38, fm_get 0 41 41),
  (41, fm_ifne 64 44),
  (44, fm_loada 0 45),
  (45, fm_get 0 40 48),
  (48, fm_loada 0 49),
  (49, fm_get 0 26 52),
  (52, fm_cmpne 64 55),
  (55, fm_loada 0 56),
  (56, fm_load 1 57),
  (57, fm_put 0 32 60),
  (60, fm_load 2 61),
  (61, fm_const 1 62),
  (62, fm_isub 63),
  (63, fm_ret post),
  (64, fm_load 1 65),
  (65, fm_loada 0 66),
  (66, fm_get 0 41 69),
  (69, fm_ior 70),
  (70, fm_store 1 71),
  (71, fm_loada 0 72),
  (72, fm_call false 0 0 (MC_Md_take κ) 75),
  (75, fm_loada 0 76),
  (76, fm_const 0 77),
  (77, fm_put 0 38 80),
  (80, fm_loada 0 81),
  (81, fm_const 0 82),
  (82, fm_put 0 39 85),
  (85, fm_loada 0 86),
  (86, fm_call true 0 0 (MC_Md_code κ) 89),
  (89, fm_store 3 90),
  (90, fm_loada 0 91),
  (91, fm_getr 0 22 94),
  (94, fm_load 3 95),
  (95, fm_ald lnMI 96),
  (96, fm_ifle 123 99),
  (99, fm_loada 0 100),
  (100, fm_loada 0 101),
  (101, fm_getr 0 22 104),
  (104, fm_load 3 105),
  (105, fm_ald lnMI 106),
  (106, fm_put 0 33 109),
  (109, fm_loada 0 110),
  (110, fm_load 2 111),
  (111, fm_loada 0 112),
  (112, fm_getr 0 22 115),
  (115, fm_load 3 116),
  (116, fm_ald lnMI 117),
  (117, fm_isub 118),
  (118, fm_put 0 34 121),
  (121, fm_const (-1) 122),
  (122, fm_ret post),
  (123, fm_loada 0 124),
  (124, fm_getr 0 22 127),
  (127, fm_load 3 128),
  (128, fm_load 2 129),
  (129, fm_ast lnMI 130),
  (130, fm_inc 2 1 133),
  (133, fm_goto 26),
  (136, fm_const (-1) 137),
  (137, fm_ret post)]
set_option maxHeartbeats 4000000 in
set_option maxRecDepth 100000 in
theorem mo_Md_settle {κ : fx_K} (hq : fx_I κ lyM.length) {av : List fx_V} {S : fx_S} {post : Int32 → fx_S → Prop} (hlen : av.length ≤ 4) (body : ∀ J : fx_J fx_S, (∀ r ∈ tt_Md_settle κ post, fx_Snd J r.1 r.2) → (∀ pc k ls st S, J pc (ls.take k) st S → J pc ls st S) → J 0 av [] S) : MC_Md_settle κ av S post := by
  refine fx_Met_of (cc := c_Md_settle) (nL := 4) (ret := (some .int)) (by decide) rfl hq hlen ?_
  intro p e s m args below meth c hC hr hnw
  refine body _ ?_ fx_W_take
  have hF := hC.1
  have hts := hC.1.2.2.2.2
  have hm : ∀ {w : Cond}, w ∈ TB → w.before args s = true := fun h => hts _ (List.mem_cons_of_mem _ h)
  have g74 : ∀ (Q : State → Prop) (pc : Nat), decode c_Md_settle pc = .ok (.getfield 74, 3) → fx_Snd (fx_W p κ.1 e rm_Md_settle s m args below meth c Q (fx_A κ.2.2.2 lyM.length) 0 0 (fx_P κ.2.1 vwCl κ.2.2.1 κ.2.2.2 lyM) κ.2.2.2 4) pc (fm_getr 0 22 (pc + 3)) := fun Q pc hd => fs_getr hC (cN := 0) (j := 42) (ci := 7) (C := R_Md) (T := T_Md) (N := 43) rfl rfl rfl (by decide) (fun w h => List.mem_cons_of_mem _ (in_Md w h)) (hm wd_581) hd
  have g166 : ∀ (Q : State → Prop) (pc : Nat), decode c_Md_settle pc = .ok (.getfield 166, 3) → fx_Snd (fx_W p κ.1 e rm_Md_settle s m args below meth c Q (fx_A κ.2.2.2 lyM.length) 0 0 (fx_P κ.2.1 vwCl κ.2.2.1 κ.2.2.2 lyM) κ.2.2.2 4) pc (fm_get 0 41 (pc + 3)) := fun Q pc hd => fs_get hC (cN := 0) (j := 41) (ci := 7) (C := R_Md) (T := T_Md) (N := 43) rfl rfl rfl (by decide) (fun w h => List.mem_cons_of_mem _ (in_Md w h)) (hm wd_580) hd
  have g160 : ∀ (Q : State → Prop) (pc : Nat), decode c_Md_settle pc = .ok (.getfield 160, 3) → fx_Snd (fx_W p κ.1 e rm_Md_settle s m args below meth c Q (fx_A κ.2.2.2 lyM.length) 0 0 (fx_P κ.2.1 vwCl κ.2.2.1 κ.2.2.2 lyM) κ.2.2.2 4) pc (fm_get 0 40 (pc + 3)) := fun Q pc hd => fs_get hC (cN := 0) (j := 40) (ci := 7) (C := R_Md) (T := T_Md) (N := 43) rfl rfl rfl (by decide) (fun w h => List.mem_cons_of_mem _ (in_Md w h)) (hm wd_579) hd
  have g121 : ∀ (Q : State → Prop) (pc : Nat), decode c_Md_settle pc = .ok (.getfield 121, 3) → fx_Snd (fx_W p κ.1 e rm_Md_settle s m args below meth c Q (fx_A κ.2.2.2 lyM.length) 0 0 (fx_P κ.2.1 vwCl κ.2.2.1 κ.2.2.2 lyM) κ.2.2.2 4) pc (fm_get 0 26 (pc + 3)) := fun Q pc hd => fs_get hC (cN := 0) (j := 26) (ci := 7) (C := R_Md) (T := T_Md) (N := 43) rfl rfl rfl (by decide) (fun w h => List.mem_cons_of_mem _ (in_Md w h)) (hm wd_565) hd
  refine List.forall_mem_cons.mpr ⟨fs_const hF d_Md_settle_0 (by decide), ?_⟩
  refine List.forall_mem_cons.mpr ⟨fs_store_n hF d_Md_settle_1 rfl (by decide), ?_⟩
  refine List.forall_mem_cons.mpr ⟨fs_load_n hF d_Md_settle_2 rfl, ?_⟩
  refine List.forall_mem_cons.mpr ⟨fs_sipush hF d_Md_settle_3 (by decide), ?_⟩
  refine List.forall_mem_cons.mpr ⟨fs_cmpge hF d_Md_settle_6 (by decide), ?_⟩
  refine List.forall_mem_cons.mpr ⟨fs_loada_n hF d_Md_settle_9 rfl, ?_⟩
  refine List.forall_mem_cons.mpr ⟨g74 _ 10 d_Md_settle_10, ?_⟩
  refine List.forall_mem_cons.mpr ⟨fs_load_n hF d_Md_settle_13 rfl, ?_⟩
  refine List.forall_mem_cons.mpr ⟨fs_const hF d_Md_settle_14 (by decide), ?_⟩
  refine List.forall_mem_cons.mpr ⟨fs_ast hC lkMI d_Md_settle_15, ?_⟩
  refine List.forall_mem_cons.mpr ⟨fs_inc hF d_Md_settle_16 (by decide) (by decide), ?_⟩
  refine List.forall_mem_cons.mpr ⟨fs_goto hF d_Md_settle_19 (by decide), ?_⟩
  refine List.forall_mem_cons.mpr ⟨fs_const hF d_Md_settle_22 (by decide), ?_⟩
  refine List.forall_mem_cons.mpr ⟨fs_store_n hF d_Md_settle_23 rfl (by decide), ?_⟩
  refine List.forall_mem_cons.mpr ⟨fs_const hF d_Md_settle_24 (by decide), ?_⟩
  refine List.forall_mem_cons.mpr ⟨fs_store_n hF d_Md_settle_25 rfl (by decide), ?_⟩
  refine List.forall_mem_cons.mpr ⟨fs_load_n hF d_Md_settle_26 rfl, ?_⟩
  refine List.forall_mem_cons.mpr ⟨fs_sipush hF d_Md_settle_27 (by decide), ?_⟩
  refine List.forall_mem_cons.mpr ⟨fs_cmpgt hF d_Md_settle_30 (by decide), ?_⟩
  refine List.forall_mem_cons.mpr ⟨fs_loada_n hF d_Md_settle_33 rfl, ?_⟩
  refine List.forall_mem_cons.mpr ⟨fs_callV hC nwl_ok hnw (cN := 0) (ci := 7) (C := R_Md) rfl rfl ⟨callB_of 0 hts (tb_good wd_741) rfl rfl rfl (hm wd_39) (hm wd_738) pd_Md_evolve ⟨Nat.le_of_ble_eq_true rfl, Nat.le_of_ble_eq_true rfl⟩, hm wd_740, hm wd_19⟩ d_Md_settle_34, ?_⟩
  refine List.forall_mem_cons.mpr ⟨fs_loada_n hF d_Md_settle_37 rfl, ?_⟩
  refine List.forall_mem_cons.mpr ⟨g166 _ 38 d_Md_settle_38, ?_⟩
  refine List.forall_mem_cons.mpr ⟨fs_ifne hF d_Md_settle_41 (by decide), ?_⟩
  refine List.forall_mem_cons.mpr ⟨fs_loada_n hF d_Md_settle_44 rfl, ?_⟩
  refine List.forall_mem_cons.mpr ⟨g160 _ 45 d_Md_settle_45, ?_⟩
  refine List.forall_mem_cons.mpr ⟨fs_loada_n hF d_Md_settle_48 rfl, ?_⟩
  refine List.forall_mem_cons.mpr ⟨g121 _ 49 d_Md_settle_49, ?_⟩
  refine List.forall_mem_cons.mpr ⟨fs_cmpne hF d_Md_settle_52 (by decide), ?_⟩
  refine List.forall_mem_cons.mpr ⟨fs_loada_n hF d_Md_settle_55 rfl, ?_⟩
  refine List.forall_mem_cons.mpr ⟨fs_load_n hF d_Md_settle_56 rfl, ?_⟩
  refine List.forall_mem_cons.mpr ⟨fs_put hC (cN := 0) (j := 32) (ci := 7) (C := R_Md) (T := T_Md) (N := 43) rfl rfl rfl (by decide) ty_Md tk_Md nm_Md rfl (by decide +kernel) (fun w h => List.mem_cons_of_mem _ (in_Md w h)) (hm wd_571) d_Md_settle_57, ?_⟩
  refine List.forall_mem_cons.mpr ⟨fs_load_n hF d_Md_settle_60 rfl, ?_⟩
  refine List.forall_mem_cons.mpr ⟨fs_const hF d_Md_settle_61 (by decide), ?_⟩
  refine List.forall_mem_cons.mpr ⟨fs_isub hF d_Md_settle_62, ?_⟩
  refine List.forall_mem_cons.mpr ⟨fs_ret hC hr d_Md_settle_63, ?_⟩
  refine List.forall_mem_cons.mpr ⟨fs_load_n hF d_Md_settle_64 rfl, ?_⟩
  refine List.forall_mem_cons.mpr ⟨fs_loada_n hF d_Md_settle_65 rfl, ?_⟩
  refine List.forall_mem_cons.mpr ⟨g166 _ 66 d_Md_settle_66, ?_⟩
  refine List.forall_mem_cons.mpr ⟨fs_ior hF d_Md_settle_69, ?_⟩
  refine List.forall_mem_cons.mpr ⟨fs_store_n hF d_Md_settle_70 rfl (by decide), ?_⟩
  refine List.forall_mem_cons.mpr ⟨fs_loada_n hF d_Md_settle_71 rfl, ?_⟩
  refine List.forall_mem_cons.mpr ⟨fs_callV hC nwl_ok hnw (cN := 0) (ci := 7) (C := R_Md) rfl rfl ⟨callB_of 0 hts (tb_good wd_761) rfl rfl rfl (hm wd_39) (hm wd_758) pd_Md_take ⟨Nat.le_of_ble_eq_true rfl, Nat.le_of_ble_eq_true rfl⟩, hm wd_760, hm wd_24⟩ d_Md_settle_72, ?_⟩
  refine List.forall_mem_cons.mpr ⟨fs_loada_n hF d_Md_settle_75 rfl, ?_⟩
  refine List.forall_mem_cons.mpr ⟨fs_const hF d_Md_settle_76 (by decide), ?_⟩
  refine List.forall_mem_cons.mpr ⟨fs_put hC (cN := 0) (j := 38) (ci := 7) (C := R_Md) (T := T_Md) (N := 43) rfl rfl rfl (by decide) ty_Md tk_Md nm_Md rfl (by decide +kernel) (fun w h => List.mem_cons_of_mem _ (in_Md w h)) (hm wd_577) d_Md_settle_77, ?_⟩
  refine List.forall_mem_cons.mpr ⟨fs_loada_n hF d_Md_settle_80 rfl, ?_⟩
  refine List.forall_mem_cons.mpr ⟨fs_const hF d_Md_settle_81 (by decide), ?_⟩
  refine List.forall_mem_cons.mpr ⟨fs_put hC (cN := 0) (j := 39) (ci := 7) (C := R_Md) (T := T_Md) (N := 43) rfl rfl rfl (by decide) ty_Md tk_Md nm_Md rfl (by decide +kernel) (fun w h => List.mem_cons_of_mem _ (in_Md w h)) (hm wd_578) d_Md_settle_82, ?_⟩
  refine List.forall_mem_cons.mpr ⟨fs_loada_n hF d_Md_settle_85 rfl, ?_⟩
  refine List.forall_mem_cons.mpr ⟨fs_callV hC nwl_ok hnw (cN := 0) (ci := 7) (C := R_Md) rfl rfl ⟨callB_of 0 hts (tb_good wd_765) rfl rfl rfl (hm wd_39) (hm wd_762) pd_Md_code ⟨Nat.le_of_ble_eq_true rfl, Nat.le_of_ble_eq_true rfl⟩, hm wd_764, hm wd_25⟩ d_Md_settle_86, ?_⟩
  refine List.forall_mem_cons.mpr ⟨fs_store_n hF d_Md_settle_89 rfl (by decide), ?_⟩
  refine List.forall_mem_cons.mpr ⟨fs_loada_n hF d_Md_settle_90 rfl, ?_⟩
  refine List.forall_mem_cons.mpr ⟨g74 _ 91 d_Md_settle_91, ?_⟩
  refine List.forall_mem_cons.mpr ⟨fs_load_n hF d_Md_settle_94 rfl, ?_⟩
  refine List.forall_mem_cons.mpr ⟨fs_ald hC lkMI d_Md_settle_95, ?_⟩
  refine List.forall_mem_cons.mpr ⟨fs_ifle hF d_Md_settle_96 (by decide), ?_⟩
  refine List.forall_mem_cons.mpr ⟨fs_loada_n hF d_Md_settle_99 rfl, ?_⟩
  refine List.forall_mem_cons.mpr ⟨fs_loada_n hF d_Md_settle_100 rfl, ?_⟩
  refine List.forall_mem_cons.mpr ⟨g74 _ 101 d_Md_settle_101, ?_⟩
  refine List.forall_mem_cons.mpr ⟨fs_load_n hF d_Md_settle_104 rfl, ?_⟩
  refine List.forall_mem_cons.mpr ⟨fs_ald hC lkMI d_Md_settle_105, ?_⟩
  refine List.forall_mem_cons.mpr ⟨fs_put hC (cN := 0) (j := 33) (ci := 7) (C := R_Md) (T := T_Md) (N := 43) rfl rfl rfl (by decide) ty_Md tk_Md nm_Md rfl (by decide +kernel) (fun w h => List.mem_cons_of_mem _ (in_Md w h)) (hm wd_572) d_Md_settle_106, ?_⟩
  refine List.forall_mem_cons.mpr ⟨fs_loada_n hF d_Md_settle_109 rfl, ?_⟩
  refine List.forall_mem_cons.mpr ⟨fs_load_n hF d_Md_settle_110 rfl, ?_⟩
  refine List.forall_mem_cons.mpr ⟨fs_loada_n hF d_Md_settle_111 rfl, ?_⟩
  refine List.forall_mem_cons.mpr ⟨g74 _ 112 d_Md_settle_112, ?_⟩
  refine List.forall_mem_cons.mpr ⟨fs_load_n hF d_Md_settle_115 rfl, ?_⟩
  refine List.forall_mem_cons.mpr ⟨fs_ald hC lkMI d_Md_settle_116, ?_⟩
  refine List.forall_mem_cons.mpr ⟨fs_isub hF d_Md_settle_117, ?_⟩
  refine List.forall_mem_cons.mpr ⟨fs_put hC (cN := 0) (j := 34) (ci := 7) (C := R_Md) (T := T_Md) (N := 43) rfl rfl rfl (by decide) ty_Md tk_Md nm_Md rfl (by decide +kernel) (fun w h => List.mem_cons_of_mem _ (in_Md w h)) (hm wd_573) d_Md_settle_118, ?_⟩
  refine List.forall_mem_cons.mpr ⟨fs_const hF d_Md_settle_121 (by decide), ?_⟩
  refine List.forall_mem_cons.mpr ⟨fs_ret hC hr d_Md_settle_122, ?_⟩
  refine List.forall_mem_cons.mpr ⟨fs_loada_n hF d_Md_settle_123 rfl, ?_⟩
  refine List.forall_mem_cons.mpr ⟨g74 _ 124 d_Md_settle_124, ?_⟩
  refine List.forall_mem_cons.mpr ⟨fs_load_n hF d_Md_settle_127 rfl, ?_⟩
  refine List.forall_mem_cons.mpr ⟨fs_load_n hF d_Md_settle_128 rfl, ?_⟩
  refine List.forall_mem_cons.mpr ⟨fs_ast hC lkMI d_Md_settle_129, ?_⟩
  refine List.forall_mem_cons.mpr ⟨fs_inc hF d_Md_settle_130 (by decide) (by decide), ?_⟩
  refine List.forall_mem_cons.mpr ⟨fs_goto hF d_Md_settle_133 (by decide), ?_⟩
  refine List.forall_mem_cons.mpr ⟨fs_const hF d_Md_settle_136 (by decide), ?_⟩
  refine List.forall_mem_cons.mpr ⟨fs_ret hC hr d_Md_settle_137, ?_⟩
  exact fun _ h => absurd h List.not_mem_nil
abbrev rm_Md_single : Room := { frames := 3, cells := 0, slots := 0, locals := 69 }
def ws_Md_single : List Cond := .code y_Md_single c_Md_single 2 (some .int) :: TB
abbrev MC_Md_single (κ : fx_K) : List fx_V → fx_S → (Int32 → fx_S → Prop) → Prop := fx_Met κ.1 κ.2.1 vwCl κ.2.2.1 κ.2.2.2 lyM nwl y_Md_single ws_Md_single rm_Md_single true
def tt_Md_single (κ : fx_K) (post : Int32 → fx_S → Prop) : List (Nat × fx_M fx_S) := [(0, fm_loada 0 1),
  (1, fm_call false 0 0 (MC_Md_evolve κ) 4),
  (4, fm_loada 0 5),
  (5, fm_get 0 41 8),
  (8, fm_ifne 22 11),
  (11, fm_loada 0 12),
  (12, fm_get 0 40 15),
  (15, fm_loada 0 16),
  (16, fm_get 0 26 19),
  (19, fm_cmpeq 26 22),
  (22, fm_const 1 23),
  (23, fm_goto 27),
  (26, fm_const 0 27),
  (27, fm_store 1 28),
  (28, fm_loada 0 29),
  (29, fm_loada 0 30),
  (30, fm_get 0 41 33),
  (33, fm_put 0 32 36),
  (36, fm_loada 0 37),
  (37, fm_call false 0 0 (MC_Md_take κ) 40),
  (40, fm_load 1 41),
  (41, fm_ret post)]
set_option maxHeartbeats 4000000 in
set_option maxRecDepth 100000 in
theorem mo_Md_single {κ : fx_K} (hq : fx_I κ lyM.length) {av : List fx_V} {S : fx_S} {post : Int32 → fx_S → Prop} (hlen : av.length ≤ 2) (body : ∀ J : fx_J fx_S, (∀ r ∈ tt_Md_single κ post, fx_Snd J r.1 r.2) → (∀ pc k ls st S, J pc (ls.take k) st S → J pc ls st S) → J 0 av [] S) : MC_Md_single κ av S post := by
  refine fx_Met_of (cc := c_Md_single) (nL := 2) (ret := (some .int)) (by decide) rfl hq hlen ?_
  intro p e s m args below meth c hC hr hnw
  refine body _ ?_ fx_W_take
  have hF := hC.1
  have hts := hC.1.2.2.2.2
  have hm : ∀ {w : Cond}, w ∈ TB → w.before args s = true := fun h => hts _ (List.mem_cons_of_mem _ h)
  have g166 : ∀ (Q : State → Prop) (pc : Nat), decode c_Md_single pc = .ok (.getfield 166, 3) → fx_Snd (fx_W p κ.1 e rm_Md_single s m args below meth c Q (fx_A κ.2.2.2 lyM.length) 0 0 (fx_P κ.2.1 vwCl κ.2.2.1 κ.2.2.2 lyM) κ.2.2.2 2) pc (fm_get 0 41 (pc + 3)) := fun Q pc hd => fs_get hC (cN := 0) (j := 41) (ci := 7) (C := R_Md) (T := T_Md) (N := 43) rfl rfl rfl (by decide) (fun w h => List.mem_cons_of_mem _ (in_Md w h)) (hm wd_580) hd
  have g160 : ∀ (Q : State → Prop) (pc : Nat), decode c_Md_single pc = .ok (.getfield 160, 3) → fx_Snd (fx_W p κ.1 e rm_Md_single s m args below meth c Q (fx_A κ.2.2.2 lyM.length) 0 0 (fx_P κ.2.1 vwCl κ.2.2.1 κ.2.2.2 lyM) κ.2.2.2 2) pc (fm_get 0 40 (pc + 3)) := fun Q pc hd => fs_get hC (cN := 0) (j := 40) (ci := 7) (C := R_Md) (T := T_Md) (N := 43) rfl rfl rfl (by decide) (fun w h => List.mem_cons_of_mem _ (in_Md w h)) (hm wd_579) hd
  have g121 : ∀ (Q : State → Prop) (pc : Nat), decode c_Md_single pc = .ok (.getfield 121, 3) → fx_Snd (fx_W p κ.1 e rm_Md_single s m args below meth c Q (fx_A κ.2.2.2 lyM.length) 0 0 (fx_P κ.2.1 vwCl κ.2.2.1 κ.2.2.2 lyM) κ.2.2.2 2) pc (fm_get 0 26 (pc + 3)) := fun Q pc hd => fs_get hC (cN := 0) (j := 26) (ci := 7) (C := R_Md) (T := T_Md) (N := 43) rfl rfl rfl (by decide) (fun w h => List.mem_cons_of_mem _ (in_Md w h)) (hm wd_565) hd
  refine List.forall_mem_cons.mpr ⟨fs_loada_n hF d_Md_single_0 rfl, ?_⟩
  refine List.forall_mem_cons.mpr ⟨fs_callV hC nwl_ok hnw (cN := 0) (ci := 7) (C := R_Md) rfl rfl ⟨callB_of 0 hts (tb_good wd_741) rfl rfl rfl (hm wd_39) (hm wd_738) pd_Md_evolve ⟨Nat.le_of_ble_eq_true rfl, Nat.le_of_ble_eq_true rfl⟩, hm wd_740, hm wd_19⟩ d_Md_single_1, ?_⟩
  refine List.forall_mem_cons.mpr ⟨fs_loada_n hF d_Md_single_4 rfl, ?_⟩
  refine List.forall_mem_cons.mpr ⟨g166 _ 5 d_Md_single_5, ?_⟩
  refine List.forall_mem_cons.mpr ⟨fs_ifne hF d_Md_single_8 (by decide), ?_⟩
  refine List.forall_mem_cons.mpr ⟨fs_loada_n hF d_Md_single_11 rfl, ?_⟩
  refine List.forall_mem_cons.mpr ⟨g160 _ 12 d_Md_single_12, ?_⟩
  refine List.forall_mem_cons.mpr ⟨fs_loada_n hF d_Md_single_15 rfl, ?_⟩
  refine List.forall_mem_cons.mpr ⟨g121 _ 16 d_Md_single_16, ?_⟩
  refine List.forall_mem_cons.mpr ⟨fs_cmpeq hF d_Md_single_19 (by decide), ?_⟩
  refine List.forall_mem_cons.mpr ⟨fs_const hF d_Md_single_22 (by decide), ?_⟩
  refine List.forall_mem_cons.mpr ⟨fs_goto hF d_Md_single_23 (by decide), ?_⟩
  refine List.forall_mem_cons.mpr ⟨fs_const hF d_Md_single_26 (by decide), ?_⟩
  refine List.forall_mem_cons.mpr ⟨fs_store_n hF d_Md_single_27 rfl (by decide), ?_⟩
  refine List.forall_mem_cons.mpr ⟨fs_loada_n hF d_Md_single_28 rfl, ?_⟩
  refine List.forall_mem_cons.mpr ⟨fs_loada_n hF d_Md_single_29 rfl, ?_⟩
  refine List.forall_mem_cons.mpr ⟨g166 _ 30 d_Md_single_30, ?_⟩
  refine List.forall_mem_cons.mpr ⟨fs_put hC (cN := 0) (j := 32) (ci := 7) (C := R_Md) (T := T_Md) (N := 43) rfl rfl rfl (by decide) ty_Md tk_Md nm_Md rfl (by decide +kernel) (fun w h => List.mem_cons_of_mem _ (in_Md w h)) (hm wd_571) d_Md_single_33, ?_⟩
  refine List.forall_mem_cons.mpr ⟨fs_loada_n hF d_Md_single_36 rfl, ?_⟩
  refine List.forall_mem_cons.mpr ⟨fs_callV hC nwl_ok hnw (cN := 0) (ci := 7) (C := R_Md) rfl rfl ⟨callB_of 0 hts (tb_good wd_761) rfl rfl rfl (hm wd_39) (hm wd_758) pd_Md_take ⟨Nat.le_of_ble_eq_true rfl, Nat.le_of_ble_eq_true rfl⟩, hm wd_760, hm wd_24⟩ d_Md_single_37, ?_⟩
  refine List.forall_mem_cons.mpr ⟨fs_load_n hF d_Md_single_40 rfl, ?_⟩
  refine List.forall_mem_cons.mpr ⟨fs_ret hC hr d_Md_single_41, ?_⟩
  exact fun _ h => absurd h List.not_mem_nil
abbrev rm_Md_reset : Room := { frames := 1, cells := 0, slots := 0, locals := 21 }
def ws_Md_reset : List Cond := .code y_Md_reset c_Md_reset 4 (some .boolean) :: TB
abbrev MC_Md_reset (κ : fx_K) : List fx_V → fx_S → (Int32 → fx_S → Prop) → Prop := fx_Met κ.1 κ.2.1 vwCl κ.2.2.1 κ.2.2.2 lyM nwl y_Md_reset ws_Md_reset rm_Md_reset true
def tt_Md_reset (κ : fx_K) (post : Int32 → fx_S → Prop) : List (Nat × fx_M fx_S) := [(0, fm_const 0 1),
  (1, fm_store 2 2),
  (2, fm_const 0 3),
  (3, fm_store 3 4),
  (4, fm_load 3 5),
  (5, fm_loada 0 6),
  (6, fm_get 0 17 9),
  (9, fm_cmpge 64 12),
  (12, fm_load 2 13),
  (13, fm_ifne 52 16),
  (16, fm_loada 0 17),
  (17, fm_getr 0 15 20),
  (20, fm_load 3 21),
  (21, fm_ald lnMI 22),
  (22, fm_const 1 23),
  (23, fm_cmpne 56 26),
  (26, fm_loada 0 27),
  (27, fm_getr 0 16 30),
  (30, fm_load 3 31),
  (31, fm_ald lnMI 32),
  (32, fm_load 1 33),
  (33, fm_cmpne 56 36),
  (36, fm_loada 0 37),
  (37, fm_get 0 26 40),
  (40, fm_loada 0 41),
  (41, fm_getr 0 14 44),
  (44, fm_load 3 45),
  (45, fm_ald lnMI 46),
  (46, fm_calls true 2 (MC_Md_in κ) 49),
  (49, fm_ifeq 56 52),
  (52, fm_const 1 53),
  (53, fm_goto 57),
  (56, fm_const 0 57),
  (57, fm_store 2 58),
  (58, fm_inc 3 1 61),
  (61, fm_goto 4),
  (64, fm_load 2 65),
  (65, fm_zret post)]
set_option maxHeartbeats 4000000 in
set_option maxRecDepth 100000 in
theorem mo_Md_reset {κ : fx_K} (hq : fx_I κ lyM.length) {av : List fx_V} {S : fx_S} {post : Int32 → fx_S → Prop} (hlen : av.length ≤ 4) (body : ∀ J : fx_J fx_S, (∀ r ∈ tt_Md_reset κ post, fx_Snd J r.1 r.2) → (∀ pc k ls st S, J pc (ls.take k) st S → J pc ls st S) → J 0 av [] S) : MC_Md_reset κ av S post := by
  refine fx_Met_of (cc := c_Md_reset) (nL := 4) (ret := (some .boolean)) (by decide) rfl hq hlen ?_
  intro p e s m args below meth c hC hr hnw
  refine body _ ?_ fx_W_take
  have hF := hC.1
  have hts := hC.1.2.2.2.2
  have hm : ∀ {w : Cond}, w ∈ TB → w.before args s = true := fun h => hts _ (List.mem_cons_of_mem _ h)
  have g110 : ∀ (Q : State → Prop) (pc : Nat), decode c_Md_reset pc = .ok (.getfield 110, 3) → fx_Snd (fx_W p κ.1 e rm_Md_reset s m args below meth c Q (fx_A κ.2.2.2 lyM.length) 0 0 (fx_P κ.2.1 vwCl κ.2.2.1 κ.2.2.2 lyM) κ.2.2.2 4) pc (fm_get 0 17 (pc + 3)) := fun Q pc hd => fs_get hC (cN := 0) (j := 17) (ci := 7) (C := R_Md) (T := T_Md) (N := 43) rfl rfl rfl (by decide) (fun w h => List.mem_cons_of_mem _ (in_Md w h)) (hm wd_556) hd
  have g53 : ∀ (Q : State → Prop) (pc : Nat), decode c_Md_reset pc = .ok (.getfield 53, 3) → fx_Snd (fx_W p κ.1 e rm_Md_reset s m args below meth c Q (fx_A κ.2.2.2 lyM.length) 0 0 (fx_P κ.2.1 vwCl κ.2.2.1 κ.2.2.2 lyM) κ.2.2.2 4) pc (fm_getr 0 15 (pc + 3)) := fun Q pc hd => fs_getr hC (cN := 0) (j := 19) (ci := 7) (C := R_Md) (T := T_Md) (N := 43) rfl rfl rfl (by decide) (fun w h => List.mem_cons_of_mem _ (in_Md w h)) (hm wd_558) hd
  have g56 : ∀ (Q : State → Prop) (pc : Nat), decode c_Md_reset pc = .ok (.getfield 56, 3) → fx_Snd (fx_W p κ.1 e rm_Md_reset s m args below meth c Q (fx_A κ.2.2.2 lyM.length) 0 0 (fx_P κ.2.1 vwCl κ.2.2.1 κ.2.2.2 lyM) κ.2.2.2 4) pc (fm_getr 0 16 (pc + 3)) := fun Q pc hd => fs_getr hC (cN := 0) (j := 20) (ci := 7) (C := R_Md) (T := T_Md) (N := 43) rfl rfl rfl (by decide) (fun w h => List.mem_cons_of_mem _ (in_Md w h)) (hm wd_559) hd
  have g121 : ∀ (Q : State → Prop) (pc : Nat), decode c_Md_reset pc = .ok (.getfield 121, 3) → fx_Snd (fx_W p κ.1 e rm_Md_reset s m args below meth c Q (fx_A κ.2.2.2 lyM.length) 0 0 (fx_P κ.2.1 vwCl κ.2.2.1 κ.2.2.2 lyM) κ.2.2.2 4) pc (fm_get 0 26 (pc + 3)) := fun Q pc hd => fs_get hC (cN := 0) (j := 26) (ci := 7) (C := R_Md) (T := T_Md) (N := 43) rfl rfl rfl (by decide) (fun w h => List.mem_cons_of_mem _ (in_Md w h)) (hm wd_565) hd
  have g50 : ∀ (Q : State → Prop) (pc : Nat), decode c_Md_reset pc = .ok (.getfield 50, 3) → fx_Snd (fx_W p κ.1 e rm_Md_reset s m args below meth c Q (fx_A κ.2.2.2 lyM.length) 0 0 (fx_P κ.2.1 vwCl κ.2.2.1 κ.2.2.2 lyM) κ.2.2.2 4) pc (fm_getr 0 14 (pc + 3)) := fun Q pc hd => fs_getr hC (cN := 0) (j := 18) (ci := 7) (C := R_Md) (T := T_Md) (N := 43) rfl rfl rfl (by decide) (fun w h => List.mem_cons_of_mem _ (in_Md w h)) (hm wd_557) hd
  refine List.forall_mem_cons.mpr ⟨fs_const hF d_Md_reset_0 (by decide), ?_⟩
  refine List.forall_mem_cons.mpr ⟨fs_store_n hF d_Md_reset_1 rfl (by decide), ?_⟩
  refine List.forall_mem_cons.mpr ⟨fs_const hF d_Md_reset_2 (by decide), ?_⟩
  refine List.forall_mem_cons.mpr ⟨fs_store_n hF d_Md_reset_3 rfl (by decide), ?_⟩
  refine List.forall_mem_cons.mpr ⟨fs_load_n hF d_Md_reset_4 rfl, ?_⟩
  refine List.forall_mem_cons.mpr ⟨fs_loada_n hF d_Md_reset_5 rfl, ?_⟩
  refine List.forall_mem_cons.mpr ⟨g110 _ 6 d_Md_reset_6, ?_⟩
  refine List.forall_mem_cons.mpr ⟨fs_cmpge hF d_Md_reset_9 (by decide), ?_⟩
  refine List.forall_mem_cons.mpr ⟨fs_load_n hF d_Md_reset_12 rfl, ?_⟩
  refine List.forall_mem_cons.mpr ⟨fs_ifne hF d_Md_reset_13 (by decide), ?_⟩
  refine List.forall_mem_cons.mpr ⟨fs_loada_n hF d_Md_reset_16 rfl, ?_⟩
  refine List.forall_mem_cons.mpr ⟨g53 _ 17 d_Md_reset_17, ?_⟩
  refine List.forall_mem_cons.mpr ⟨fs_load_n hF d_Md_reset_20 rfl, ?_⟩
  refine List.forall_mem_cons.mpr ⟨fs_ald hC lkMI d_Md_reset_21, ?_⟩
  refine List.forall_mem_cons.mpr ⟨fs_const hF d_Md_reset_22 (by decide), ?_⟩
  refine List.forall_mem_cons.mpr ⟨fs_cmpne hF d_Md_reset_23 (by decide), ?_⟩
  refine List.forall_mem_cons.mpr ⟨fs_loada_n hF d_Md_reset_26 rfl, ?_⟩
  refine List.forall_mem_cons.mpr ⟨g56 _ 27 d_Md_reset_27, ?_⟩
  refine List.forall_mem_cons.mpr ⟨fs_load_n hF d_Md_reset_30 rfl, ?_⟩
  refine List.forall_mem_cons.mpr ⟨fs_ald hC lkMI d_Md_reset_31, ?_⟩
  refine List.forall_mem_cons.mpr ⟨fs_load_n hF d_Md_reset_32 rfl, ?_⟩
  refine List.forall_mem_cons.mpr ⟨fs_cmpne hF d_Md_reset_33 (by decide), ?_⟩
  refine List.forall_mem_cons.mpr ⟨fs_loada_n hF d_Md_reset_36 rfl, ?_⟩
  refine List.forall_mem_cons.mpr ⟨g121 _ 37 d_Md_reset_37, ?_⟩
  refine List.forall_mem_cons.mpr ⟨fs_loada_n hF d_Md_reset_40 rfl, ?_⟩
  refine List.forall_mem_cons.mpr ⟨g50 _ 41 d_Md_reset_41, ?_⟩
  refine List.forall_mem_cons.mpr ⟨fs_load_n hF d_Md_reset_44 rfl, ?_⟩
  refine List.forall_mem_cons.mpr ⟨fs_ald hC lkMI d_Md_reset_45, ?_⟩
  refine List.forall_mem_cons.mpr ⟨fs_callS hC nwl_ok hnw ⟨callB_of 2 hts (tb_good wd_717) rfl rfl rfl (hm wd_39) (hm wd_715) pd_Md_in ⟨Nat.le_of_ble_eq_true rfl, Nat.le_of_ble_eq_true rfl⟩, hm wd_716⟩ d_Md_reset_46, ?_⟩
  refine List.forall_mem_cons.mpr ⟨fs_ifeq hF d_Md_reset_49 (by decide), ?_⟩
  refine List.forall_mem_cons.mpr ⟨fs_const hF d_Md_reset_52 (by decide), ?_⟩
  refine List.forall_mem_cons.mpr ⟨fs_goto hF d_Md_reset_53 (by decide), ?_⟩
  refine List.forall_mem_cons.mpr ⟨fs_const hF d_Md_reset_56 (by decide), ?_⟩
  refine List.forall_mem_cons.mpr ⟨fs_store_n hF d_Md_reset_57 rfl (by decide), ?_⟩
  refine List.forall_mem_cons.mpr ⟨fs_inc hF d_Md_reset_58 (by decide) (by decide), ?_⟩
  refine List.forall_mem_cons.mpr ⟨fs_goto hF d_Md_reset_61 (by decide), ?_⟩
  refine List.forall_mem_cons.mpr ⟨fs_load_n hF d_Md_reset_64 rfl, ?_⟩
  refine List.forall_mem_cons.mpr ⟨fs_zret hC hr d_Md_reset_65, ?_⟩
  exact fun _ h => absurd h List.not_mem_nil
abbrev rm_Md_store : Room := { frames := 1, cells := 0, slots := 0, locals := 21 }
def ws_Md_store : List Cond := .code y_Md_store c_Md_store 5 none :: TB
abbrev MC_Md_store (κ : fx_K) : List fx_V → fx_S → (Int32 → fx_S → Prop) → Prop := fx_Met κ.1 κ.2.1 vwCl κ.2.2.1 κ.2.2.2 lyM nwl y_Md_store ws_Md_store rm_Md_store false
def tt_Md_store (κ : fx_K) (post : Int32 → fx_S → Prop) : List (Nat × fx_M fx_S) := [(0, fm_loada 0 1),
  (1, fm_getr 0 15 4),
  (4, fm_load 1 5),
  (5, fm_ald lnMI 6),
  (6, fm_store 3 7),
  (7, fm_loada 0 8),
  (8, fm_get 0 26 11),
  (11, fm_loada 0 12),
  (12, fm_getr 0 14 15),
  (15, fm_load 1 16),
  (16, fm_ald lnMI 17),
  (17, fm_calls true 2 (MC_Md_in κ) 20),
  (20, fm_store 4 22),
  (22, fm_load 2 23),
  (23, fm_ifeq 36 26),
  (26, fm_loada 0 27),
  (27, fm_getr 0 18 30),
  (30, fm_load 1 31),
  (31, fm_const 0 32),
  (32, fm_zast lnMZ 33),
  (33, fm_goto 135),
  (36, fm_load 3 37),
  (37, fm_const 8 39),
  (39, fm_cmpne 90 42),
  (42, fm_loada 0 43),
  (43, fm_getr 0 18 46),
  (46, fm_load 1 47),
  (47, fm_loada 0 48),
  (48, fm_getr 0 18 51),
  (51, fm_load 1 52),
  (52, fm_ald lnMZ 53),
  (53, fm_ifne 81 56),
  (56, fm_load 4 58),
  (58, fm_ifeq 85 61),
  (61, fm_loada 0 62),
  (62, fm_getr 0 20 65),
  (65, fm_loada 0 66),
  (66, fm_getr 0 14 69),
  (69, fm_load 1 70),
  (70, fm_ald lnMI 71),
  (71, fm_ald lnMI 72),
  (72, fm_loada 0 73),
  (73, fm_getr 0 17 76),
  (76, fm_load 1 77),
  (77, fm_ald lnMI 78),
  (78, fm_cmplt 85 81),
  (81, fm_const 1 82),
  (82, fm_goto 86),
  (85, fm_const 0 86),
  (86, fm_zast lnMZ 87),
  (87, fm_goto 135),
  (90, fm_load 3 91),
  (91, fm_const 2 92),
  (92, fm_cmpeq 107 95),
  (95, fm_load 3 96),
  (96, fm_const 7 98),
  (98, fm_cmpeq 107 101),
  (101, fm_load 3 102),
  (102, fm_const 9 104),
  (104, fm_cmpne 135 107),
  (107, fm_load 4 109),
  (109, fm_ifeq 135 112),
  (112, fm_loada 0 113),
  (113, fm_getr 0 18 116),
  (116, fm_load 1 117),
  (117, fm_ald lnMZ 118),
  (118, fm_ifne 135 121),
  (121, fm_loada 0 122),
  (122, fm_getr 0 18 125),
  (125, fm_load 1 126),
  (126, fm_const 1 127),
  (127, fm_zast lnMZ 128),
  (128, fm_loada 0 129),
  (129, fm_getr 0 19 132),
  (132, fm_load 1 133),
  (133, fm_const 0 134),
  (134, fm_ast lnMI 135),
  (135, fm_vret post)]
set_option maxHeartbeats 4000000 in
set_option maxRecDepth 100000 in
theorem mo_Md_store {κ : fx_K} (hq : fx_I κ lyM.length) {av : List fx_V} {S : fx_S} {post : Int32 → fx_S → Prop} (hlen : av.length ≤ 5) (body : ∀ J : fx_J fx_S, (∀ r ∈ tt_Md_store κ post, fx_Snd J r.1 r.2) → (∀ pc k ls st S, J pc (ls.take k) st S → J pc ls st S) → J 0 av [] S) : MC_Md_store κ av S post := by
  refine fx_Met_of (cc := c_Md_store) (nL := 5) (ret := none) (by decide) rfl hq hlen ?_
  intro p e s m args below meth c hC hr hnw
  refine body _ ?_ fx_W_take
  have hF := hC.1
  have hts := hC.1.2.2.2.2
  have hm : ∀ {w : Cond}, w ∈ TB → w.before args s = true := fun h => hts _ (List.mem_cons_of_mem _ h)
  have g53 : ∀ (Q : State → Prop) (pc : Nat), decode c_Md_store pc = .ok (.getfield 53, 3) → fx_Snd (fx_W p κ.1 e rm_Md_store s m args below meth c Q (fx_A κ.2.2.2 lyM.length) 0 0 (fx_P κ.2.1 vwCl κ.2.2.1 κ.2.2.2 lyM) κ.2.2.2 5) pc (fm_getr 0 15 (pc + 3)) := fun Q pc hd => fs_getr hC (cN := 0) (j := 19) (ci := 7) (C := R_Md) (T := T_Md) (N := 43) rfl rfl rfl (by decide) (fun w h => List.mem_cons_of_mem _ (in_Md w h)) (hm wd_558) hd
  have g121 : ∀ (Q : State → Prop) (pc : Nat), decode c_Md_store pc = .ok (.getfield 121, 3) → fx_Snd (fx_W p κ.1 e rm_Md_store s m args below meth c Q (fx_A κ.2.2.2 lyM.length) 0 0 (fx_P κ.2.1 vwCl κ.2.2.1 κ.2.2.2 lyM) κ.2.2.2 5) pc (fm_get 0 26 (pc + 3)) := fun Q pc hd => fs_get hC (cN := 0) (j := 26) (ci := 7) (C := R_Md) (T := T_Md) (N := 43) rfl rfl rfl (by decide) (fun w h => List.mem_cons_of_mem _ (in_Md w h)) (hm wd_565) hd
  have g50 : ∀ (Q : State → Prop) (pc : Nat), decode c_Md_store pc = .ok (.getfield 50, 3) → fx_Snd (fx_W p κ.1 e rm_Md_store s m args below meth c Q (fx_A κ.2.2.2 lyM.length) 0 0 (fx_P κ.2.1 vwCl κ.2.2.1 κ.2.2.2 lyM) κ.2.2.2 5) pc (fm_getr 0 14 (pc + 3)) := fun Q pc hd => fs_getr hC (cN := 0) (j := 18) (ci := 7) (C := R_Md) (T := T_Md) (N := 43) rfl rfl rfl (by decide) (fun w h => List.mem_cons_of_mem _ (in_Md w h)) (hm wd_557) hd
  have g62 : ∀ (Q : State → Prop) (pc : Nat), decode c_Md_store pc = .ok (.getfield 62, 3) → fx_Snd (fx_W p κ.1 e rm_Md_store s m args below meth c Q (fx_A κ.2.2.2 lyM.length) 0 0 (fx_P κ.2.1 vwCl κ.2.2.1 κ.2.2.2 lyM) κ.2.2.2 5) pc (fm_getr 0 18 (pc + 3)) := fun Q pc hd => fs_getr hC (cN := 0) (j := 22) (ci := 7) (C := R_Md) (T := T_Md) (N := 43) rfl rfl rfl (by decide) (fun w h => List.mem_cons_of_mem _ (in_Md w h)) (hm wd_561) hd
  have g68 : ∀ (Q : State → Prop) (pc : Nat), decode c_Md_store pc = .ok (.getfield 68, 3) → fx_Snd (fx_W p κ.1 e rm_Md_store s m args below meth c Q (fx_A κ.2.2.2 lyM.length) 0 0 (fx_P κ.2.1 vwCl κ.2.2.1 κ.2.2.2 lyM) κ.2.2.2 5) pc (fm_getr 0 20 (pc + 3)) := fun Q pc hd => fs_getr hC (cN := 0) (j := 27) (ci := 7) (C := R_Md) (T := T_Md) (N := 43) rfl rfl rfl (by decide) (fun w h => List.mem_cons_of_mem _ (in_Md w h)) (hm wd_566) hd
  have g59 : ∀ (Q : State → Prop) (pc : Nat), decode c_Md_store pc = .ok (.getfield 59, 3) → fx_Snd (fx_W p κ.1 e rm_Md_store s m args below meth c Q (fx_A κ.2.2.2 lyM.length) 0 0 (fx_P κ.2.1 vwCl κ.2.2.1 κ.2.2.2 lyM) κ.2.2.2 5) pc (fm_getr 0 17 (pc + 3)) := fun Q pc hd => fs_getr hC (cN := 0) (j := 21) (ci := 7) (C := R_Md) (T := T_Md) (N := 43) rfl rfl rfl (by decide) (fun w h => List.mem_cons_of_mem _ (in_Md w h)) (hm wd_560) hd
  have g65 : ∀ (Q : State → Prop) (pc : Nat), decode c_Md_store pc = .ok (.getfield 65, 3) → fx_Snd (fx_W p κ.1 e rm_Md_store s m args below meth c Q (fx_A κ.2.2.2 lyM.length) 0 0 (fx_P κ.2.1 vwCl κ.2.2.1 κ.2.2.2 lyM) κ.2.2.2 5) pc (fm_getr 0 19 (pc + 3)) := fun Q pc hd => fs_getr hC (cN := 0) (j := 23) (ci := 7) (C := R_Md) (T := T_Md) (N := 43) rfl rfl rfl (by decide) (fun w h => List.mem_cons_of_mem _ (in_Md w h)) (hm wd_562) hd
  refine List.forall_mem_cons.mpr ⟨fs_loada_n hF d_Md_store_0 rfl, ?_⟩
  refine List.forall_mem_cons.mpr ⟨g53 _ 1 d_Md_store_1, ?_⟩
  refine List.forall_mem_cons.mpr ⟨fs_load_n hF d_Md_store_4 rfl, ?_⟩
  refine List.forall_mem_cons.mpr ⟨fs_ald hC lkMI d_Md_store_5, ?_⟩
  refine List.forall_mem_cons.mpr ⟨fs_store_n hF d_Md_store_6 rfl (by decide), ?_⟩
  refine List.forall_mem_cons.mpr ⟨fs_loada_n hF d_Md_store_7 rfl, ?_⟩
  refine List.forall_mem_cons.mpr ⟨g121 _ 8 d_Md_store_8, ?_⟩
  refine List.forall_mem_cons.mpr ⟨fs_loada_n hF d_Md_store_11 rfl, ?_⟩
  refine List.forall_mem_cons.mpr ⟨g50 _ 12 d_Md_store_12, ?_⟩
  refine List.forall_mem_cons.mpr ⟨fs_load_n hF d_Md_store_15 rfl, ?_⟩
  refine List.forall_mem_cons.mpr ⟨fs_ald hC lkMI d_Md_store_16, ?_⟩
  refine List.forall_mem_cons.mpr ⟨fs_callS hC nwl_ok hnw ⟨callB_of 2 hts (tb_good wd_717) rfl rfl rfl (hm wd_39) (hm wd_715) pd_Md_in ⟨Nat.le_of_ble_eq_true rfl, Nat.le_of_ble_eq_true rfl⟩, hm wd_716⟩ d_Md_store_17, ?_⟩
  refine List.forall_mem_cons.mpr ⟨fs_store hF d_Md_store_20 (by decide), ?_⟩
  refine List.forall_mem_cons.mpr ⟨fs_load_n hF d_Md_store_22 rfl, ?_⟩
  refine List.forall_mem_cons.mpr ⟨fs_ifeq hF d_Md_store_23 (by decide), ?_⟩
  refine List.forall_mem_cons.mpr ⟨fs_loada_n hF d_Md_store_26 rfl, ?_⟩
  refine List.forall_mem_cons.mpr ⟨g62 _ 27 d_Md_store_27, ?_⟩
  refine List.forall_mem_cons.mpr ⟨fs_load_n hF d_Md_store_30 rfl, ?_⟩
  refine List.forall_mem_cons.mpr ⟨fs_const hF d_Md_store_31 (by decide), ?_⟩
  refine List.forall_mem_cons.mpr ⟨fs_zast hC lkMZ d_Md_store_32, ?_⟩
  refine List.forall_mem_cons.mpr ⟨fs_goto hF d_Md_store_33 (by decide), ?_⟩
  refine List.forall_mem_cons.mpr ⟨fs_load_n hF d_Md_store_36 rfl, ?_⟩
  refine List.forall_mem_cons.mpr ⟨fs_bipush hF d_Md_store_37 (by decide), ?_⟩
  refine List.forall_mem_cons.mpr ⟨fs_cmpne hF d_Md_store_39 (by decide), ?_⟩
  refine List.forall_mem_cons.mpr ⟨fs_loada_n hF d_Md_store_42 rfl, ?_⟩
  refine List.forall_mem_cons.mpr ⟨g62 _ 43 d_Md_store_43, ?_⟩
  refine List.forall_mem_cons.mpr ⟨fs_load_n hF d_Md_store_46 rfl, ?_⟩
  refine List.forall_mem_cons.mpr ⟨fs_loada_n hF d_Md_store_47 rfl, ?_⟩
  refine List.forall_mem_cons.mpr ⟨g62 _ 48 d_Md_store_48, ?_⟩
  refine List.forall_mem_cons.mpr ⟨fs_load_n hF d_Md_store_51 rfl, ?_⟩
  refine List.forall_mem_cons.mpr ⟨fs_zald hC lkMZ d_Md_store_52, ?_⟩
  refine List.forall_mem_cons.mpr ⟨fs_ifne hF d_Md_store_53 (by decide), ?_⟩
  refine List.forall_mem_cons.mpr ⟨fs_load hF d_Md_store_56, ?_⟩
  refine List.forall_mem_cons.mpr ⟨fs_ifeq hF d_Md_store_58 (by decide), ?_⟩
  refine List.forall_mem_cons.mpr ⟨fs_loada_n hF d_Md_store_61 rfl, ?_⟩
  refine List.forall_mem_cons.mpr ⟨g68 _ 62 d_Md_store_62, ?_⟩
  refine List.forall_mem_cons.mpr ⟨fs_loada_n hF d_Md_store_65 rfl, ?_⟩
  refine List.forall_mem_cons.mpr ⟨g50 _ 66 d_Md_store_66, ?_⟩
  refine List.forall_mem_cons.mpr ⟨fs_load_n hF d_Md_store_69 rfl, ?_⟩
  refine List.forall_mem_cons.mpr ⟨fs_ald hC lkMI d_Md_store_70, ?_⟩
  refine List.forall_mem_cons.mpr ⟨fs_ald hC lkMI d_Md_store_71, ?_⟩
  refine List.forall_mem_cons.mpr ⟨fs_loada_n hF d_Md_store_72 rfl, ?_⟩
  refine List.forall_mem_cons.mpr ⟨g59 _ 73 d_Md_store_73, ?_⟩
  refine List.forall_mem_cons.mpr ⟨fs_load_n hF d_Md_store_76 rfl, ?_⟩
  refine List.forall_mem_cons.mpr ⟨fs_ald hC lkMI d_Md_store_77, ?_⟩
  refine List.forall_mem_cons.mpr ⟨fs_cmplt hF d_Md_store_78 (by decide), ?_⟩
  refine List.forall_mem_cons.mpr ⟨fs_const hF d_Md_store_81 (by decide), ?_⟩
  refine List.forall_mem_cons.mpr ⟨fs_goto hF d_Md_store_82 (by decide), ?_⟩
  refine List.forall_mem_cons.mpr ⟨fs_const hF d_Md_store_85 (by decide), ?_⟩
  refine List.forall_mem_cons.mpr ⟨fs_zast hC lkMZ d_Md_store_86, ?_⟩
  refine List.forall_mem_cons.mpr ⟨fs_goto hF d_Md_store_87 (by decide), ?_⟩
  refine List.forall_mem_cons.mpr ⟨fs_load_n hF d_Md_store_90 rfl, ?_⟩
  refine List.forall_mem_cons.mpr ⟨fs_const hF d_Md_store_91 (by decide), ?_⟩
  refine List.forall_mem_cons.mpr ⟨fs_cmpeq hF d_Md_store_92 (by decide), ?_⟩
  refine List.forall_mem_cons.mpr ⟨fs_load_n hF d_Md_store_95 rfl, ?_⟩
  refine List.forall_mem_cons.mpr ⟨fs_bipush hF d_Md_store_96 (by decide), ?_⟩
  refine List.forall_mem_cons.mpr ⟨fs_cmpeq hF d_Md_store_98 (by decide), ?_⟩
  refine List.forall_mem_cons.mpr ⟨fs_load_n hF d_Md_store_101 rfl, ?_⟩
  refine List.forall_mem_cons.mpr ⟨fs_bipush hF d_Md_store_102 (by decide), ?_⟩
  refine List.forall_mem_cons.mpr ⟨fs_cmpne hF d_Md_store_104 (by decide), ?_⟩
  refine List.forall_mem_cons.mpr ⟨fs_load hF d_Md_store_107, ?_⟩
  refine List.forall_mem_cons.mpr ⟨fs_ifeq hF d_Md_store_109 (by decide), ?_⟩
  refine List.forall_mem_cons.mpr ⟨fs_loada_n hF d_Md_store_112 rfl, ?_⟩
  refine List.forall_mem_cons.mpr ⟨g62 _ 113 d_Md_store_113, ?_⟩
  refine List.forall_mem_cons.mpr ⟨fs_load_n hF d_Md_store_116 rfl, ?_⟩
  refine List.forall_mem_cons.mpr ⟨fs_zald hC lkMZ d_Md_store_117, ?_⟩
  refine List.forall_mem_cons.mpr ⟨fs_ifne hF d_Md_store_118 (by decide), ?_⟩
  refine List.forall_mem_cons.mpr ⟨fs_loada_n hF d_Md_store_121 rfl, ?_⟩
  refine List.forall_mem_cons.mpr ⟨g62 _ 122 d_Md_store_122, ?_⟩
  refine List.forall_mem_cons.mpr ⟨fs_load_n hF d_Md_store_125 rfl, ?_⟩
  refine List.forall_mem_cons.mpr ⟨fs_const hF d_Md_store_126 (by decide), ?_⟩
  refine List.forall_mem_cons.mpr ⟨fs_zast hC lkMZ d_Md_store_127, ?_⟩
  refine List.forall_mem_cons.mpr ⟨fs_loada_n hF d_Md_store_128 rfl, ?_⟩
  refine List.forall_mem_cons.mpr ⟨g65 _ 129 d_Md_store_129, ?_⟩
  refine List.forall_mem_cons.mpr ⟨fs_load_n hF d_Md_store_132 rfl, ?_⟩
  refine List.forall_mem_cons.mpr ⟨fs_const hF d_Md_store_133 (by decide), ?_⟩
  refine List.forall_mem_cons.mpr ⟨fs_ast hC lkMI d_Md_store_134, ?_⟩
  refine List.forall_mem_cons.mpr ⟨fs_vret hC hr d_Md_store_135, ?_⟩
  exact fun _ h => absurd h List.not_mem_nil
abbrev rm_Md_acts : Room := { frames := 1, cells := 0, slots := 0, locals := 21 }
def ws_Md_acts : List Cond := .code y_Md_acts c_Md_acts 7 (some .boolean) :: TB
abbrev MC_Md_acts (κ : fx_K) : List fx_V → fx_S → (Int32 → fx_S → Prop) → Prop := fx_Met κ.1 κ.2.1 vwCl κ.2.2.1 κ.2.2.2 lyM nwl y_Md_acts ws_Md_acts rm_Md_acts true
def tt_Md_acts (κ : fx_K) (post : Int32 → fx_S → Prop) : List (Nat × fx_M fx_S) := [(0, fm_loada 0 1),
  (1, fm_getr 0 15 4),
  (4, fm_load 1 5),
  (5, fm_ald lnMI 6),
  (6, fm_store 2 7),
  (7, fm_loada 0 8),
  (8, fm_get 0 26 11),
  (11, fm_loada 0 12),
  (12, fm_getr 0 14 15),
  (15, fm_load 1 16),
  (16, fm_ald lnMI 17),
  (17, fm_calls true 2 (MC_Md_in κ) 20),
  (20, fm_store 3 21),
  (21, fm_loada 0 22),
  (22, fm_get 0 28 25),
  (25, fm_loada 0 26),
  (26, fm_getr 0 14 29),
  (29, fm_load 1 30),
  (30, fm_ald lnMI 31),
  (31, fm_calls true 2 (MC_Md_in κ) 34),
  (34, fm_store 4 36),
  (36, fm_loada 0 37),
  (37, fm_getr 0 20 40),
  (40, fm_loada 0 41),
  (41, fm_getr 0 14 44),
  (44, fm_load 1 45),
  (45, fm_ald lnMI 46),
  (46, fm_ald lnMI 47),
  (47, fm_loada 0 48),
  (48, fm_getr 0 17 51),
  (51, fm_load 1 52),
  (52, fm_ald lnMI 53),
  (53, fm_cmplt 60 56),
  (56, fm_const 1 57),
  (57, fm_goto 61),
  (60, fm_const 0 61),
  (61, fm_store 5 63),
  (63, fm_loada 0 64),
  (64, fm_getr 0 19 67),
  (67, fm_load 1 68),
  (68, fm_ald lnMI 69),
  (69, fm_loada 0 70),
  (70, fm_getr 0 17 73),
  (73, fm_load 1 74),
  (74, fm_ald lnMI 75),
  (75, fm_cmplt 82 78),
  (78, fm_const 1 79),
  (79, fm_goto 83),
  (82, fm_const 0 83),
  (83, fm_store 6 85),
  (85, fm_load 2 86),
  (86, fm_ifne 91 89),
  (89, fm_load 3 90),
  (90, fm_zret post),
  (91, fm_load 2 92),
  (92, fm_const 2 93),
  (93, fm_cmpeq 102 96),
  (96, fm_load 2 97),
  (97, fm_const 8 99),
  (99, fm_cmpne 109 102),
  (102, fm_loada 0 103),
  (103, fm_getr 0 18 106),
  (106, fm_load 1 107),
  (107, fm_ald lnMZ 108),
  (108, fm_zret post),
  (109, fm_load 2 110),
  (110, fm_const 3 111),
  (111, fm_cmpne 129 114),
  (114, fm_load 3 115),
  (115, fm_ifeq 127 118),
  (118, fm_load 5 120),
  (120, fm_ifne 127 123),
  (123, fm_const 1 124),
  (124, fm_goto 128),
  (127, fm_const 0 128),
  (128, fm_zret post),
  (129, fm_load 2 130),
  (130, fm_const 4 131),
  (131, fm_cmpne 149 134),
  (134, fm_load 3 135),
  (135, fm_ifeq 147 138),
  (138, fm_load 5 140),
  (140, fm_ifeq 147 143),
  (143, fm_const 1 144),
  (144, fm_goto 148),
  (147, fm_const 0 148),
  (148, fm_zret post),
  (149, fm_load 2 150),
  (150, fm_const 5 151),
  (151, fm_cmpne 169 154),
  (154, fm_load 3 155),
  (155, fm_ifeq 167 158),
  (158, fm_load 4 160),
  (160, fm_ifne 167 163),
  (163, fm_const 1 164),
  (164, fm_goto 168),
  (167, fm_const 0 168),
  (168, fm_zret post),
  (169, fm_load 2 170),
  (170, fm_const 6 172),
  (172, fm_cmpne 190 175),
  (175, fm_load 4 177),
  (177, fm_ifeq 188 180),
  (180, fm_load 3 181),
  (181, fm_ifne 188 184),
  (184, fm_const 1 185),
  (185, fm_goto 189),
  (188, fm_const 0 189),
  (189, fm_zret post),
  (190, fm_load 2 191),
  (191, fm_const 7 193),
  (193, fm_cmpne 216 196),
  (196, fm_loada 0 197),
  (197, fm_getr 0 18 200),
  (200, fm_load 1 201),
  (201, fm_ald lnMZ 202),
  (202, fm_ifeq 214 205),
  (205, fm_load 6 207),
  (207, fm_ifeq 214 210),
  (210, fm_const 1 211),
  (211, fm_goto 215),
  (214, fm_const 0 215),
  (215, fm_zret post),
  (216, fm_load 2 217),
  (217, fm_const 9 219),
  (219, fm_cmpne 240 222),
  (222, fm_loada 0 223),
  (223, fm_getr 0 18 226),
  (226, fm_load 1 227),
  (227, fm_ald lnMZ 228),
  (228, fm_ifeq 240 231),
  (231, fm_load 6 233),
  (233, fm_ifne 240 236),
  (236, fm_const 1 237),
  (237, fm_goto 241),
  (240, fm_const 0 241),
  (241, fm_zret post)]
set_option maxHeartbeats 4000000 in
set_option maxRecDepth 100000 in
theorem mo_Md_acts {κ : fx_K} (hq : fx_I κ lyM.length) {av : List fx_V} {S : fx_S} {post : Int32 → fx_S → Prop} (hlen : av.length ≤ 7) (body : ∀ J : fx_J fx_S, (∀ r ∈ tt_Md_acts κ post, fx_Snd J r.1 r.2) → (∀ pc k ls st S, J pc (ls.take k) st S → J pc ls st S) → J 0 av [] S) : MC_Md_acts κ av S post := by
  refine fx_Met_of (cc := c_Md_acts) (nL := 7) (ret := (some .boolean)) (by decide) rfl hq hlen ?_
  intro p e s m args below meth c hC hr hnw
  refine body _ ?_ fx_W_take
  have hF := hC.1
  have hts := hC.1.2.2.2.2
  have hm : ∀ {w : Cond}, w ∈ TB → w.before args s = true := fun h => hts _ (List.mem_cons_of_mem _ h)
  have g53 : ∀ (Q : State → Prop) (pc : Nat), decode c_Md_acts pc = .ok (.getfield 53, 3) → fx_Snd (fx_W p κ.1 e rm_Md_acts s m args below meth c Q (fx_A κ.2.2.2 lyM.length) 0 0 (fx_P κ.2.1 vwCl κ.2.2.1 κ.2.2.2 lyM) κ.2.2.2 7) pc (fm_getr 0 15 (pc + 3)) := fun Q pc hd => fs_getr hC (cN := 0) (j := 19) (ci := 7) (C := R_Md) (T := T_Md) (N := 43) rfl rfl rfl (by decide) (fun w h => List.mem_cons_of_mem _ (in_Md w h)) (hm wd_558) hd
  have g121 : ∀ (Q : State → Prop) (pc : Nat), decode c_Md_acts pc = .ok (.getfield 121, 3) → fx_Snd (fx_W p κ.1 e rm_Md_acts s m args below meth c Q (fx_A κ.2.2.2 lyM.length) 0 0 (fx_P κ.2.1 vwCl κ.2.2.1 κ.2.2.2 lyM) κ.2.2.2 7) pc (fm_get 0 26 (pc + 3)) := fun Q pc hd => fs_get hC (cN := 0) (j := 26) (ci := 7) (C := R_Md) (T := T_Md) (N := 43) rfl rfl rfl (by decide) (fun w h => List.mem_cons_of_mem _ (in_Md w h)) (hm wd_565) hd
  have g50 : ∀ (Q : State → Prop) (pc : Nat), decode c_Md_acts pc = .ok (.getfield 50, 3) → fx_Snd (fx_W p κ.1 e rm_Md_acts s m args below meth c Q (fx_A κ.2.2.2 lyM.length) 0 0 (fx_P κ.2.1 vwCl κ.2.2.1 κ.2.2.2 lyM) κ.2.2.2 7) pc (fm_getr 0 14 (pc + 3)) := fun Q pc hd => fs_getr hC (cN := 0) (j := 18) (ci := 7) (C := R_Md) (T := T_Md) (N := 43) rfl rfl rfl (by decide) (fun w h => List.mem_cons_of_mem _ (in_Md w h)) (hm wd_557) hd
  have g124 : ∀ (Q : State → Prop) (pc : Nat), decode c_Md_acts pc = .ok (.getfield 124, 3) → fx_Snd (fx_W p κ.1 e rm_Md_acts s m args below meth c Q (fx_A κ.2.2.2 lyM.length) 0 0 (fx_P κ.2.1 vwCl κ.2.2.1 κ.2.2.2 lyM) κ.2.2.2 7) pc (fm_get 0 28 (pc + 3)) := fun Q pc hd => fs_get hC (cN := 0) (j := 28) (ci := 7) (C := R_Md) (T := T_Md) (N := 43) rfl rfl rfl (by decide) (fun w h => List.mem_cons_of_mem _ (in_Md w h)) (hm wd_567) hd
  have g68 : ∀ (Q : State → Prop) (pc : Nat), decode c_Md_acts pc = .ok (.getfield 68, 3) → fx_Snd (fx_W p κ.1 e rm_Md_acts s m args below meth c Q (fx_A κ.2.2.2 lyM.length) 0 0 (fx_P κ.2.1 vwCl κ.2.2.1 κ.2.2.2 lyM) κ.2.2.2 7) pc (fm_getr 0 20 (pc + 3)) := fun Q pc hd => fs_getr hC (cN := 0) (j := 27) (ci := 7) (C := R_Md) (T := T_Md) (N := 43) rfl rfl rfl (by decide) (fun w h => List.mem_cons_of_mem _ (in_Md w h)) (hm wd_566) hd
  have g59 : ∀ (Q : State → Prop) (pc : Nat), decode c_Md_acts pc = .ok (.getfield 59, 3) → fx_Snd (fx_W p κ.1 e rm_Md_acts s m args below meth c Q (fx_A κ.2.2.2 lyM.length) 0 0 (fx_P κ.2.1 vwCl κ.2.2.1 κ.2.2.2 lyM) κ.2.2.2 7) pc (fm_getr 0 17 (pc + 3)) := fun Q pc hd => fs_getr hC (cN := 0) (j := 21) (ci := 7) (C := R_Md) (T := T_Md) (N := 43) rfl rfl rfl (by decide) (fun w h => List.mem_cons_of_mem _ (in_Md w h)) (hm wd_560) hd
  have g65 : ∀ (Q : State → Prop) (pc : Nat), decode c_Md_acts pc = .ok (.getfield 65, 3) → fx_Snd (fx_W p κ.1 e rm_Md_acts s m args below meth c Q (fx_A κ.2.2.2 lyM.length) 0 0 (fx_P κ.2.1 vwCl κ.2.2.1 κ.2.2.2 lyM) κ.2.2.2 7) pc (fm_getr 0 19 (pc + 3)) := fun Q pc hd => fs_getr hC (cN := 0) (j := 23) (ci := 7) (C := R_Md) (T := T_Md) (N := 43) rfl rfl rfl (by decide) (fun w h => List.mem_cons_of_mem _ (in_Md w h)) (hm wd_562) hd
  have g62 : ∀ (Q : State → Prop) (pc : Nat), decode c_Md_acts pc = .ok (.getfield 62, 3) → fx_Snd (fx_W p κ.1 e rm_Md_acts s m args below meth c Q (fx_A κ.2.2.2 lyM.length) 0 0 (fx_P κ.2.1 vwCl κ.2.2.1 κ.2.2.2 lyM) κ.2.2.2 7) pc (fm_getr 0 18 (pc + 3)) := fun Q pc hd => fs_getr hC (cN := 0) (j := 22) (ci := 7) (C := R_Md) (T := T_Md) (N := 43) rfl rfl rfl (by decide) (fun w h => List.mem_cons_of_mem _ (in_Md w h)) (hm wd_561) hd
  refine List.forall_mem_cons.mpr ⟨fs_loada_n hF d_Md_acts_0 rfl, ?_⟩
  refine List.forall_mem_cons.mpr ⟨g53 _ 1 d_Md_acts_1, ?_⟩
  refine List.forall_mem_cons.mpr ⟨fs_load_n hF d_Md_acts_4 rfl, ?_⟩
  refine List.forall_mem_cons.mpr ⟨fs_ald hC lkMI d_Md_acts_5, ?_⟩
  refine List.forall_mem_cons.mpr ⟨fs_store_n hF d_Md_acts_6 rfl (by decide), ?_⟩
  refine List.forall_mem_cons.mpr ⟨fs_loada_n hF d_Md_acts_7 rfl, ?_⟩
  refine List.forall_mem_cons.mpr ⟨g121 _ 8 d_Md_acts_8, ?_⟩
  refine List.forall_mem_cons.mpr ⟨fs_loada_n hF d_Md_acts_11 rfl, ?_⟩
  refine List.forall_mem_cons.mpr ⟨g50 _ 12 d_Md_acts_12, ?_⟩
  refine List.forall_mem_cons.mpr ⟨fs_load_n hF d_Md_acts_15 rfl, ?_⟩
  refine List.forall_mem_cons.mpr ⟨fs_ald hC lkMI d_Md_acts_16, ?_⟩
  refine List.forall_mem_cons.mpr ⟨fs_callS hC nwl_ok hnw ⟨callB_of 2 hts (tb_good wd_717) rfl rfl rfl (hm wd_39) (hm wd_715) pd_Md_in ⟨Nat.le_of_ble_eq_true rfl, Nat.le_of_ble_eq_true rfl⟩, hm wd_716⟩ d_Md_acts_17, ?_⟩
  refine List.forall_mem_cons.mpr ⟨fs_store_n hF d_Md_acts_20 rfl (by decide), ?_⟩
  refine List.forall_mem_cons.mpr ⟨fs_loada_n hF d_Md_acts_21 rfl, ?_⟩
  refine List.forall_mem_cons.mpr ⟨g124 _ 22 d_Md_acts_22, ?_⟩
  refine List.forall_mem_cons.mpr ⟨fs_loada_n hF d_Md_acts_25 rfl, ?_⟩
  refine List.forall_mem_cons.mpr ⟨g50 _ 26 d_Md_acts_26, ?_⟩
  refine List.forall_mem_cons.mpr ⟨fs_load_n hF d_Md_acts_29 rfl, ?_⟩
  refine List.forall_mem_cons.mpr ⟨fs_ald hC lkMI d_Md_acts_30, ?_⟩
  refine List.forall_mem_cons.mpr ⟨fs_callS hC nwl_ok hnw ⟨callB_of 2 hts (tb_good wd_717) rfl rfl rfl (hm wd_39) (hm wd_715) pd_Md_in ⟨Nat.le_of_ble_eq_true rfl, Nat.le_of_ble_eq_true rfl⟩, hm wd_716⟩ d_Md_acts_31, ?_⟩
  refine List.forall_mem_cons.mpr ⟨fs_store hF d_Md_acts_34 (by decide), ?_⟩
  refine List.forall_mem_cons.mpr ⟨fs_loada_n hF d_Md_acts_36 rfl, ?_⟩
  refine List.forall_mem_cons.mpr ⟨g68 _ 37 d_Md_acts_37, ?_⟩
  refine List.forall_mem_cons.mpr ⟨fs_loada_n hF d_Md_acts_40 rfl, ?_⟩
  refine List.forall_mem_cons.mpr ⟨g50 _ 41 d_Md_acts_41, ?_⟩
  refine List.forall_mem_cons.mpr ⟨fs_load_n hF d_Md_acts_44 rfl, ?_⟩
  refine List.forall_mem_cons.mpr ⟨fs_ald hC lkMI d_Md_acts_45, ?_⟩
  refine List.forall_mem_cons.mpr ⟨fs_ald hC lkMI d_Md_acts_46, ?_⟩
  refine List.forall_mem_cons.mpr ⟨fs_loada_n hF d_Md_acts_47 rfl, ?_⟩
  refine List.forall_mem_cons.mpr ⟨g59 _ 48 d_Md_acts_48, ?_⟩
  refine List.forall_mem_cons.mpr ⟨fs_load_n hF d_Md_acts_51 rfl, ?_⟩
  refine List.forall_mem_cons.mpr ⟨fs_ald hC lkMI d_Md_acts_52, ?_⟩
  refine List.forall_mem_cons.mpr ⟨fs_cmplt hF d_Md_acts_53 (by decide), ?_⟩
  refine List.forall_mem_cons.mpr ⟨fs_const hF d_Md_acts_56 (by decide), ?_⟩
  refine List.forall_mem_cons.mpr ⟨fs_goto hF d_Md_acts_57 (by decide), ?_⟩
  refine List.forall_mem_cons.mpr ⟨fs_const hF d_Md_acts_60 (by decide), ?_⟩
  refine List.forall_mem_cons.mpr ⟨fs_store hF d_Md_acts_61 (by decide), ?_⟩
  refine List.forall_mem_cons.mpr ⟨fs_loada_n hF d_Md_acts_63 rfl, ?_⟩
  refine List.forall_mem_cons.mpr ⟨g65 _ 64 d_Md_acts_64, ?_⟩
  refine List.forall_mem_cons.mpr ⟨fs_load_n hF d_Md_acts_67 rfl, ?_⟩
  refine List.forall_mem_cons.mpr ⟨fs_ald hC lkMI d_Md_acts_68, ?_⟩
  refine List.forall_mem_cons.mpr ⟨fs_loada_n hF d_Md_acts_69 rfl, ?_⟩
  refine List.forall_mem_cons.mpr ⟨g59 _ 70 d_Md_acts_70, ?_⟩
  refine List.forall_mem_cons.mpr ⟨fs_load_n hF d_Md_acts_73 rfl, ?_⟩
  refine List.forall_mem_cons.mpr ⟨fs_ald hC lkMI d_Md_acts_74, ?_⟩
  refine List.forall_mem_cons.mpr ⟨fs_cmplt hF d_Md_acts_75 (by decide), ?_⟩
  refine List.forall_mem_cons.mpr ⟨fs_const hF d_Md_acts_78 (by decide), ?_⟩
  refine List.forall_mem_cons.mpr ⟨fs_goto hF d_Md_acts_79 (by decide), ?_⟩
  refine List.forall_mem_cons.mpr ⟨fs_const hF d_Md_acts_82 (by decide), ?_⟩
  refine List.forall_mem_cons.mpr ⟨fs_store hF d_Md_acts_83 (by decide), ?_⟩
  refine List.forall_mem_cons.mpr ⟨fs_load_n hF d_Md_acts_85 rfl, ?_⟩
  refine List.forall_mem_cons.mpr ⟨fs_ifne hF d_Md_acts_86 (by decide), ?_⟩
  refine List.forall_mem_cons.mpr ⟨fs_load_n hF d_Md_acts_89 rfl, ?_⟩
  refine List.forall_mem_cons.mpr ⟨fs_zret hC hr d_Md_acts_90, ?_⟩
  refine List.forall_mem_cons.mpr ⟨fs_load_n hF d_Md_acts_91 rfl, ?_⟩
  refine List.forall_mem_cons.mpr ⟨fs_const hF d_Md_acts_92 (by decide), ?_⟩
  refine List.forall_mem_cons.mpr ⟨fs_cmpeq hF d_Md_acts_93 (by decide), ?_⟩
  refine List.forall_mem_cons.mpr ⟨fs_load_n hF d_Md_acts_96 rfl, ?_⟩
  refine List.forall_mem_cons.mpr ⟨fs_bipush hF d_Md_acts_97 (by decide), ?_⟩
  refine List.forall_mem_cons.mpr ⟨fs_cmpne hF d_Md_acts_99 (by decide), ?_⟩
  refine List.forall_mem_cons.mpr ⟨fs_loada_n hF d_Md_acts_102 rfl, ?_⟩
  refine List.forall_mem_cons.mpr ⟨g62 _ 103 d_Md_acts_103, ?_⟩
  refine List.forall_mem_cons.mpr ⟨fs_load_n hF d_Md_acts_106 rfl, ?_⟩
  refine List.forall_mem_cons.mpr ⟨fs_zald hC lkMZ d_Md_acts_107, ?_⟩
  refine List.forall_mem_cons.mpr ⟨fs_zret hC hr d_Md_acts_108, ?_⟩
  refine List.forall_mem_cons.mpr ⟨fs_load_n hF d_Md_acts_109 rfl, ?_⟩
  refine List.forall_mem_cons.mpr ⟨fs_const hF d_Md_acts_110 (by decide), ?_⟩
  refine List.forall_mem_cons.mpr ⟨fs_cmpne hF d_Md_acts_111 (by decide), ?_⟩
  refine List.forall_mem_cons.mpr ⟨fs_load_n hF d_Md_acts_114 rfl, ?_⟩
  refine List.forall_mem_cons.mpr ⟨fs_ifeq hF d_Md_acts_115 (by decide), ?_⟩
  refine List.forall_mem_cons.mpr ⟨fs_load hF d_Md_acts_118, ?_⟩
  refine List.forall_mem_cons.mpr ⟨fs_ifne hF d_Md_acts_120 (by decide), ?_⟩
  refine List.forall_mem_cons.mpr ⟨fs_const hF d_Md_acts_123 (by decide), ?_⟩
  refine List.forall_mem_cons.mpr ⟨fs_goto hF d_Md_acts_124 (by decide), ?_⟩
  refine List.forall_mem_cons.mpr ⟨fs_const hF d_Md_acts_127 (by decide), ?_⟩
  refine List.forall_mem_cons.mpr ⟨fs_zret hC hr d_Md_acts_128, ?_⟩
  refine List.forall_mem_cons.mpr ⟨fs_load_n hF d_Md_acts_129 rfl, ?_⟩
  refine List.forall_mem_cons.mpr ⟨fs_const hF d_Md_acts_130 (by decide), ?_⟩
  refine List.forall_mem_cons.mpr ⟨fs_cmpne hF d_Md_acts_131 (by decide), ?_⟩
  refine List.forall_mem_cons.mpr ⟨fs_load_n hF d_Md_acts_134 rfl, ?_⟩
  refine List.forall_mem_cons.mpr ⟨fs_ifeq hF d_Md_acts_135 (by decide), ?_⟩
  refine List.forall_mem_cons.mpr ⟨fs_load hF d_Md_acts_138, ?_⟩
  refine List.forall_mem_cons.mpr ⟨fs_ifeq hF d_Md_acts_140 (by decide), ?_⟩
  refine List.forall_mem_cons.mpr ⟨fs_const hF d_Md_acts_143 (by decide), ?_⟩
  refine List.forall_mem_cons.mpr ⟨fs_goto hF d_Md_acts_144 (by decide), ?_⟩
  refine List.forall_mem_cons.mpr ⟨fs_const hF d_Md_acts_147 (by decide), ?_⟩
  refine List.forall_mem_cons.mpr ⟨fs_zret hC hr d_Md_acts_148, ?_⟩
  refine List.forall_mem_cons.mpr ⟨fs_load_n hF d_Md_acts_149 rfl, ?_⟩
  refine List.forall_mem_cons.mpr ⟨fs_const hF d_Md_acts_150 (by decide), ?_⟩
  refine List.forall_mem_cons.mpr ⟨fs_cmpne hF d_Md_acts_151 (by decide), ?_⟩
  refine List.forall_mem_cons.mpr ⟨fs_load_n hF d_Md_acts_154 rfl, ?_⟩
  refine List.forall_mem_cons.mpr ⟨fs_ifeq hF d_Md_acts_155 (by decide), ?_⟩
  refine List.forall_mem_cons.mpr ⟨fs_load hF d_Md_acts_158, ?_⟩
  refine List.forall_mem_cons.mpr ⟨fs_ifne hF d_Md_acts_160 (by decide), ?_⟩
  refine List.forall_mem_cons.mpr ⟨fs_const hF d_Md_acts_163 (by decide), ?_⟩
  refine List.forall_mem_cons.mpr ⟨fs_goto hF d_Md_acts_164 (by decide), ?_⟩
  refine List.forall_mem_cons.mpr ⟨fs_const hF d_Md_acts_167 (by decide), ?_⟩
  refine List.forall_mem_cons.mpr ⟨fs_zret hC hr d_Md_acts_168, ?_⟩
  refine List.forall_mem_cons.mpr ⟨fs_load_n hF d_Md_acts_169 rfl, ?_⟩
  refine List.forall_mem_cons.mpr ⟨fs_bipush hF d_Md_acts_170 (by decide), ?_⟩
  refine List.forall_mem_cons.mpr ⟨fs_cmpne hF d_Md_acts_172 (by decide), ?_⟩
  refine List.forall_mem_cons.mpr ⟨fs_load hF d_Md_acts_175, ?_⟩
  refine List.forall_mem_cons.mpr ⟨fs_ifeq hF d_Md_acts_177 (by decide), ?_⟩
  refine List.forall_mem_cons.mpr ⟨fs_load_n hF d_Md_acts_180 rfl, ?_⟩
  refine List.forall_mem_cons.mpr ⟨fs_ifne hF d_Md_acts_181 (by decide), ?_⟩
  refine List.forall_mem_cons.mpr ⟨fs_const hF d_Md_acts_184 (by decide), ?_⟩
  refine List.forall_mem_cons.mpr ⟨fs_goto hF d_Md_acts_185 (by decide), ?_⟩
  refine List.forall_mem_cons.mpr ⟨fs_const hF d_Md_acts_188 (by decide), ?_⟩
  refine List.forall_mem_cons.mpr ⟨fs_zret hC hr d_Md_acts_189, ?_⟩
  refine List.forall_mem_cons.mpr ⟨fs_load_n hF d_Md_acts_190 rfl, ?_⟩
  refine List.forall_mem_cons.mpr ⟨fs_bipush hF d_Md_acts_191 (by decide), ?_⟩
  refine List.forall_mem_cons.mpr ⟨fs_cmpne hF d_Md_acts_193 (by decide), ?_⟩
  refine List.forall_mem_cons.mpr ⟨fs_loada_n hF d_Md_acts_196 rfl, ?_⟩
  refine List.forall_mem_cons.mpr ⟨g62 _ 197 d_Md_acts_197, ?_⟩
  refine List.forall_mem_cons.mpr ⟨fs_load_n hF d_Md_acts_200 rfl, ?_⟩
  refine List.forall_mem_cons.mpr ⟨fs_zald hC lkMZ d_Md_acts_201, ?_⟩
  refine List.forall_mem_cons.mpr ⟨fs_ifeq hF d_Md_acts_202 (by decide), ?_⟩
  refine List.forall_mem_cons.mpr ⟨fs_load hF d_Md_acts_205, ?_⟩
  refine List.forall_mem_cons.mpr ⟨fs_ifeq hF d_Md_acts_207 (by decide), ?_⟩
  refine List.forall_mem_cons.mpr ⟨fs_const hF d_Md_acts_210 (by decide), ?_⟩
  refine List.forall_mem_cons.mpr ⟨fs_goto hF d_Md_acts_211 (by decide), ?_⟩
  refine List.forall_mem_cons.mpr ⟨fs_const hF d_Md_acts_214 (by decide), ?_⟩
  refine List.forall_mem_cons.mpr ⟨fs_zret hC hr d_Md_acts_215, ?_⟩
  refine List.forall_mem_cons.mpr ⟨fs_load_n hF d_Md_acts_216 rfl, ?_⟩
  refine List.forall_mem_cons.mpr ⟨fs_bipush hF d_Md_acts_217 (by decide), ?_⟩
  refine List.forall_mem_cons.mpr ⟨fs_cmpne hF d_Md_acts_219 (by decide), ?_⟩
  refine List.forall_mem_cons.mpr ⟨fs_loada_n hF d_Md_acts_222 rfl, ?_⟩
  refine List.forall_mem_cons.mpr ⟨g62 _ 223 d_Md_acts_223, ?_⟩
  refine List.forall_mem_cons.mpr ⟨fs_load_n hF d_Md_acts_226 rfl, ?_⟩
  refine List.forall_mem_cons.mpr ⟨fs_zald hC lkMZ d_Md_acts_227, ?_⟩
  refine List.forall_mem_cons.mpr ⟨fs_ifeq hF d_Md_acts_228 (by decide), ?_⟩
  refine List.forall_mem_cons.mpr ⟨fs_load hF d_Md_acts_231, ?_⟩
  refine List.forall_mem_cons.mpr ⟨fs_ifne hF d_Md_acts_233 (by decide), ?_⟩
  refine List.forall_mem_cons.mpr ⟨fs_const hF d_Md_acts_236 (by decide), ?_⟩
  refine List.forall_mem_cons.mpr ⟨fs_goto hF d_Md_acts_237 (by decide), ?_⟩
  refine List.forall_mem_cons.mpr ⟨fs_const hF d_Md_acts_240 (by decide), ?_⟩
  refine List.forall_mem_cons.mpr ⟨fs_zret hC hr d_Md_acts_241, ?_⟩
  exact fun _ h => absurd h List.not_mem_nil
abbrev rm_Md_act : Room := { frames := 2, cells := 0, slots := 0, locals := 47 }
def ws_Md_act : List Cond := .code y_Md_act c_Md_act 4 none :: TB
abbrev MC_Md_act (κ : fx_K) : List fx_V → fx_S → (Int32 → fx_S → Prop) → Prop := fx_Met κ.1 κ.2.1 vwCl κ.2.2.1 κ.2.2.2 lyM nwl y_Md_act ws_Md_act rm_Md_act false
def tt_Md_act (κ : fx_K) (post : Int32 → fx_S → Prop) : List (Nat × fx_M fx_S) := [(0, fm_loada 0 1),
  (1, fm_const 0 2),
  (2, fm_put 0 30 5),
  (5, fm_const 0 6),
  (6, fm_store 2 7),
  (7, fm_load 2 8),
  (8, fm_loada 0 9),
  (9, fm_get 0 17 12),
  (12, fm_cmpge 101 15),
  (15, fm_loada 0 16),
  (16, fm_getr 0 19 19),
  (19, fm_load 2 20),
  (20, fm_loada 0 21),
  (21, fm_getr 0 18 24),
  (24, fm_load 2 25),
  (25, fm_ald lnMZ 26),
  (26, fm_ifeq 40 29),
  (29, fm_loada 0 30),
  (30, fm_getr 0 19 33),
  (33, fm_load 2 34),
  (34, fm_ald lnMI 35),
  (35, fm_load 1 36),
  (36, fm_iadd 37),
  (37, fm_goto 41),
  (40, fm_const 0 41),
  (41, fm_ast lnMI 42),
  (42, fm_loada 0 43),
  (43, fm_loada 0 44),
  (44, fm_getr 0 16 47),
  (47, fm_load 2 48),
  (48, fm_ald lnMI 49),
  (49, fm_call true 0 1 (MC_Md_reset κ) 52),
  (52, fm_store 3 53),
  (53, fm_loada 0 54),
  (54, fm_load 2 55),
  (55, fm_load 3 56),
  (56, fm_call false 0 2 (MC_Md_store κ) 59),
  (59, fm_loada 0 60),
  (60, fm_load 3 61),
  (61, fm_ifne 88 64),
  (64, fm_loada 0 65),
  (65, fm_load 2 66),
  (66, fm_call true 0 1 (MC_Md_acts κ) 69),
  (69, fm_ifeq 88 72),
  (72, fm_loada 0 73),
  (73, fm_get 0 30 76),
  (76, fm_const 1 77),
  (77, fm_loada 0 78),
  (78, fm_getr 0 16 81),
  (81, fm_load 2 82),
  (82, fm_ald lnMI 83),
  (83, fm_ishl 84),
  (84, fm_ior 85),
  (85, fm_goto 92),
  (88, fm_loada 0 89),
  (89, fm_get 0 30 92),
  (92, fm_put 0 30 95),
  (95, fm_inc 2 1 98),
  (98, fm_goto 7),
  (101, fm_vret post)]
set_option maxHeartbeats 4000000 in
set_option maxRecDepth 100000 in
theorem mo_Md_act {κ : fx_K} (hq : fx_I κ lyM.length) {av : List fx_V} {S : fx_S} {post : Int32 → fx_S → Prop} (hlen : av.length ≤ 4) (body : ∀ J : fx_J fx_S, (∀ r ∈ tt_Md_act κ post, fx_Snd J r.1 r.2) → (∀ pc k ls st S, J pc (ls.take k) st S → J pc ls st S) → J 0 av [] S) : MC_Md_act κ av S post := by
  refine fx_Met_of (cc := c_Md_act) (nL := 4) (ret := none) (by decide) rfl hq hlen ?_
  intro p e s m args below meth c hC hr hnw
  refine body _ ?_ fx_W_take
  have hF := hC.1
  have hts := hC.1.2.2.2.2
  have hm : ∀ {w : Cond}, w ∈ TB → w.before args s = true := fun h => hts _ (List.mem_cons_of_mem _ h)
  have g110 : ∀ (Q : State → Prop) (pc : Nat), decode c_Md_act pc = .ok (.getfield 110, 3) → fx_Snd (fx_W p κ.1 e rm_Md_act s m args below meth c Q (fx_A κ.2.2.2 lyM.length) 0 0 (fx_P κ.2.1 vwCl κ.2.2.1 κ.2.2.2 lyM) κ.2.2.2 4) pc (fm_get 0 17 (pc + 3)) := fun Q pc hd => fs_get hC (cN := 0) (j := 17) (ci := 7) (C := R_Md) (T := T_Md) (N := 43) rfl rfl rfl (by decide) (fun w h => List.mem_cons_of_mem _ (in_Md w h)) (hm wd_556) hd
  have g65 : ∀ (Q : State → Prop) (pc : Nat), decode c_Md_act pc = .ok (.getfield 65, 3) → fx_Snd (fx_W p κ.1 e rm_Md_act s m args below meth c Q (fx_A κ.2.2.2 lyM.length) 0 0 (fx_P κ.2.1 vwCl κ.2.2.1 κ.2.2.2 lyM) κ.2.2.2 4) pc (fm_getr 0 19 (pc + 3)) := fun Q pc hd => fs_getr hC (cN := 0) (j := 23) (ci := 7) (C := R_Md) (T := T_Md) (N := 43) rfl rfl rfl (by decide) (fun w h => List.mem_cons_of_mem _ (in_Md w h)) (hm wd_562) hd
  have g62 : ∀ (Q : State → Prop) (pc : Nat), decode c_Md_act pc = .ok (.getfield 62, 3) → fx_Snd (fx_W p κ.1 e rm_Md_act s m args below meth c Q (fx_A κ.2.2.2 lyM.length) 0 0 (fx_P κ.2.1 vwCl κ.2.2.1 κ.2.2.2 lyM) κ.2.2.2 4) pc (fm_getr 0 18 (pc + 3)) := fun Q pc hd => fs_getr hC (cN := 0) (j := 22) (ci := 7) (C := R_Md) (T := T_Md) (N := 43) rfl rfl rfl (by decide) (fun w h => List.mem_cons_of_mem _ (in_Md w h)) (hm wd_561) hd
  have g56 : ∀ (Q : State → Prop) (pc : Nat), decode c_Md_act pc = .ok (.getfield 56, 3) → fx_Snd (fx_W p κ.1 e rm_Md_act s m args below meth c Q (fx_A κ.2.2.2 lyM.length) 0 0 (fx_P κ.2.1 vwCl κ.2.2.1 κ.2.2.2 lyM) κ.2.2.2 4) pc (fm_getr 0 16 (pc + 3)) := fun Q pc hd => fs_getr hC (cN := 0) (j := 20) (ci := 7) (C := R_Md) (T := T_Md) (N := 43) rfl rfl rfl (by decide) (fun w h => List.mem_cons_of_mem _ (in_Md w h)) (hm wd_559) hd
  have g130 : ∀ (Q : State → Prop) (pc : Nat), decode c_Md_act pc = .ok (.getfield 130, 3) → fx_Snd (fx_W p κ.1 e rm_Md_act s m args below meth c Q (fx_A κ.2.2.2 lyM.length) 0 0 (fx_P κ.2.1 vwCl κ.2.2.1 κ.2.2.2 lyM) κ.2.2.2 4) pc (fm_get 0 30 (pc + 3)) := fun Q pc hd => fs_get hC (cN := 0) (j := 30) (ci := 7) (C := R_Md) (T := T_Md) (N := 43) rfl rfl rfl (by decide) (fun w h => List.mem_cons_of_mem _ (in_Md w h)) (hm wd_569) hd
  refine List.forall_mem_cons.mpr ⟨fs_loada_n hF d_Md_act_0 rfl, ?_⟩
  refine List.forall_mem_cons.mpr ⟨fs_const hF d_Md_act_1 (by decide), ?_⟩
  refine List.forall_mem_cons.mpr ⟨fs_put hC (cN := 0) (j := 30) (ci := 7) (C := R_Md) (T := T_Md) (N := 43) rfl rfl rfl (by decide) ty_Md tk_Md nm_Md rfl (by decide +kernel) (fun w h => List.mem_cons_of_mem _ (in_Md w h)) (hm wd_569) d_Md_act_2, ?_⟩
  refine List.forall_mem_cons.mpr ⟨fs_const hF d_Md_act_5 (by decide), ?_⟩
  refine List.forall_mem_cons.mpr ⟨fs_store_n hF d_Md_act_6 rfl (by decide), ?_⟩
  refine List.forall_mem_cons.mpr ⟨fs_load_n hF d_Md_act_7 rfl, ?_⟩
  refine List.forall_mem_cons.mpr ⟨fs_loada_n hF d_Md_act_8 rfl, ?_⟩
  refine List.forall_mem_cons.mpr ⟨g110 _ 9 d_Md_act_9, ?_⟩
  refine List.forall_mem_cons.mpr ⟨fs_cmpge hF d_Md_act_12 (by decide), ?_⟩
  refine List.forall_mem_cons.mpr ⟨fs_loada_n hF d_Md_act_15 rfl, ?_⟩
  refine List.forall_mem_cons.mpr ⟨g65 _ 16 d_Md_act_16, ?_⟩
  refine List.forall_mem_cons.mpr ⟨fs_load_n hF d_Md_act_19 rfl, ?_⟩
  refine List.forall_mem_cons.mpr ⟨fs_loada_n hF d_Md_act_20 rfl, ?_⟩
  refine List.forall_mem_cons.mpr ⟨g62 _ 21 d_Md_act_21, ?_⟩
  refine List.forall_mem_cons.mpr ⟨fs_load_n hF d_Md_act_24 rfl, ?_⟩
  refine List.forall_mem_cons.mpr ⟨fs_zald hC lkMZ d_Md_act_25, ?_⟩
  refine List.forall_mem_cons.mpr ⟨fs_ifeq hF d_Md_act_26 (by decide), ?_⟩
  refine List.forall_mem_cons.mpr ⟨fs_loada_n hF d_Md_act_29 rfl, ?_⟩
  refine List.forall_mem_cons.mpr ⟨g65 _ 30 d_Md_act_30, ?_⟩
  refine List.forall_mem_cons.mpr ⟨fs_load_n hF d_Md_act_33 rfl, ?_⟩
  refine List.forall_mem_cons.mpr ⟨fs_ald hC lkMI d_Md_act_34, ?_⟩
  refine List.forall_mem_cons.mpr ⟨fs_load_n hF d_Md_act_35 rfl, ?_⟩
  refine List.forall_mem_cons.mpr ⟨fs_iadd hF d_Md_act_36, ?_⟩
  refine List.forall_mem_cons.mpr ⟨fs_goto hF d_Md_act_37 (by decide), ?_⟩
  refine List.forall_mem_cons.mpr ⟨fs_const hF d_Md_act_40 (by decide), ?_⟩
  refine List.forall_mem_cons.mpr ⟨fs_ast hC lkMI d_Md_act_41, ?_⟩
  refine List.forall_mem_cons.mpr ⟨fs_loada_n hF d_Md_act_42 rfl, ?_⟩
  refine List.forall_mem_cons.mpr ⟨fs_loada_n hF d_Md_act_43 rfl, ?_⟩
  refine List.forall_mem_cons.mpr ⟨g56 _ 44 d_Md_act_44, ?_⟩
  refine List.forall_mem_cons.mpr ⟨fs_load_n hF d_Md_act_47 rfl, ?_⟩
  refine List.forall_mem_cons.mpr ⟨fs_ald hC lkMI d_Md_act_48, ?_⟩
  refine List.forall_mem_cons.mpr ⟨fs_callV hC nwl_ok hnw (cN := 0) (ci := 7) (C := R_Md) rfl rfl ⟨callB_of 1 hts (tb_good wd_777) rfl rfl rfl (hm wd_39) (hm wd_774) pd_Md_reset ⟨Nat.le_of_ble_eq_true rfl, Nat.le_of_ble_eq_true rfl⟩, hm wd_776, hm wd_28⟩ d_Md_act_49, ?_⟩
  refine List.forall_mem_cons.mpr ⟨fs_store_n hF d_Md_act_52 rfl (by decide), ?_⟩
  refine List.forall_mem_cons.mpr ⟨fs_loada_n hF d_Md_act_53 rfl, ?_⟩
  refine List.forall_mem_cons.mpr ⟨fs_load_n hF d_Md_act_54 rfl, ?_⟩
  refine List.forall_mem_cons.mpr ⟨fs_load_n hF d_Md_act_55 rfl, ?_⟩
  refine List.forall_mem_cons.mpr ⟨fs_callV hC nwl_ok hnw (cN := 0) (ci := 7) (C := R_Md) rfl rfl ⟨callB_of 2 hts (tb_good wd_781) rfl rfl rfl (hm wd_39) (hm wd_778) pd_Md_store ⟨Nat.le_of_ble_eq_true rfl, Nat.le_of_ble_eq_true rfl⟩, hm wd_780, hm wd_29⟩ d_Md_act_56, ?_⟩
  refine List.forall_mem_cons.mpr ⟨fs_loada_n hF d_Md_act_59 rfl, ?_⟩
  refine List.forall_mem_cons.mpr ⟨fs_load_n hF d_Md_act_60 rfl, ?_⟩
  refine List.forall_mem_cons.mpr ⟨fs_ifne hF d_Md_act_61 (by decide), ?_⟩
  refine List.forall_mem_cons.mpr ⟨fs_loada_n hF d_Md_act_64 rfl, ?_⟩
  refine List.forall_mem_cons.mpr ⟨fs_load_n hF d_Md_act_65 rfl, ?_⟩
  refine List.forall_mem_cons.mpr ⟨fs_callV hC nwl_ok hnw (cN := 0) (ci := 7) (C := R_Md) rfl rfl ⟨callB_of 1 hts (tb_good wd_785) rfl rfl rfl (hm wd_39) (hm wd_782) pd_Md_acts ⟨Nat.le_of_ble_eq_true rfl, Nat.le_of_ble_eq_true rfl⟩, hm wd_784, hm wd_30⟩ d_Md_act_66, ?_⟩
  refine List.forall_mem_cons.mpr ⟨fs_ifeq hF d_Md_act_69 (by decide), ?_⟩
  refine List.forall_mem_cons.mpr ⟨fs_loada_n hF d_Md_act_72 rfl, ?_⟩
  refine List.forall_mem_cons.mpr ⟨g130 _ 73 d_Md_act_73, ?_⟩
  refine List.forall_mem_cons.mpr ⟨fs_const hF d_Md_act_76 (by decide), ?_⟩
  refine List.forall_mem_cons.mpr ⟨fs_loada_n hF d_Md_act_77 rfl, ?_⟩
  refine List.forall_mem_cons.mpr ⟨g56 _ 78 d_Md_act_78, ?_⟩
  refine List.forall_mem_cons.mpr ⟨fs_load_n hF d_Md_act_81 rfl, ?_⟩
  refine List.forall_mem_cons.mpr ⟨fs_ald hC lkMI d_Md_act_82, ?_⟩
  refine List.forall_mem_cons.mpr ⟨fs_ishl hF d_Md_act_83, ?_⟩
  refine List.forall_mem_cons.mpr ⟨fs_ior hF d_Md_act_84, ?_⟩
  refine List.forall_mem_cons.mpr ⟨fs_goto hF d_Md_act_85 (by decide), ?_⟩
  refine List.forall_mem_cons.mpr ⟨fs_loada_n hF d_Md_act_88 rfl, ?_⟩
  refine List.forall_mem_cons.mpr ⟨g130 _ 89 d_Md_act_89, ?_⟩
  refine List.forall_mem_cons.mpr ⟨fs_put hC (cN := 0) (j := 30) (ci := 7) (C := R_Md) (T := T_Md) (N := 43) rfl rfl rfl (by decide) ty_Md tk_Md nm_Md rfl (by decide +kernel) (fun w h => List.mem_cons_of_mem _ (in_Md w h)) (hm wd_569) d_Md_act_92, ?_⟩
  refine List.forall_mem_cons.mpr ⟨fs_inc hF d_Md_act_95 (by decide) (by decide), ?_⟩
  refine List.forall_mem_cons.mpr ⟨fs_goto hF d_Md_act_98 (by decide), ?_⟩
  refine List.forall_mem_cons.mpr ⟨fs_vret hC hr d_Md_act_101, ?_⟩
  exact fun _ h => absurd h List.not_mem_nil
abbrev rm_Md_scan : Room := { frames := 4, cells := 0, slots := 0, locals := 92 }
def ws_Md_scan : List Cond := .code y_Md_scan c_Md_scan 5 (some .int) :: TB
abbrev MC_Md_scan (κ : fx_K) : List fx_V → fx_S → (Int32 → fx_S → Prop) → Prop := fx_Met κ.1 κ.2.1 vwCl κ.2.2.1 κ.2.2.2 lyM nwl y_Md_scan ws_Md_scan rm_Md_scan true
def tt_Md_scan (κ : fx_K) (post : Int32 → fx_S → Prop) : List (Nat × fx_M fx_S) := [(0, fm_loada 0 1),
  (1, fm_get 0 24 4),
  (4, fm_ifeq 17 7),
  (7, fm_load 2 8),
  (8, fm_iflt 17 11),
  (11, fm_load 2 12),
  (12, fm_const 1000000 14),
  (14, fm_cmple 20 17),
  (17, fm_const (-2) 19),
  (19, fm_ret post),
  (20, fm_loada 0 21),
  (21, fm_loada 0 22),
  (22, fm_get 0 26 25),
  (25, fm_put 0 35 28),
  (28, fm_const 0 29),
  (29, fm_store 3 30),
  (30, fm_load 3 31),
  (31, fm_const 8 33),
  (33, fm_cmpge 83 36),
  (36, fm_loada 0 37),
  (37, fm_getr 0 21 40),
  (40, fm_load 3 41),
  (41, fm_loada 0 42),
  (42, fm_getr 0 20 45),
  (45, fm_load 3 46),
  (46, fm_ald lnMI 47),
  (47, fm_ast lnMI 48),
  (48, fm_loada 0 49),
  (49, fm_getr 0 20 52),
  (52, fm_load 3 53),
  (53, fm_loada 0 54),
  (54, fm_get 0 26 57),
  (57, fm_load 3 58),
  (58, fm_calls true 2 (MC_Md_in κ) 61),
  (61, fm_ifeq 75 64),
  (64, fm_loada 0 65),
  (65, fm_getr 0 20 68),
  (68, fm_load 3 69),
  (69, fm_ald lnMI 70),
  (70, fm_load 2 71),
  (71, fm_iadd 72),
  (72, fm_goto 76),
  (75, fm_const 0 76),
  (76, fm_ast lnMI 77),
  (77, fm_inc 3 1 80),
  (80, fm_goto 30),
  (83, fm_loada 0 84),
  (84, fm_load 1 85),
  (85, fm_const 255 88),
  (88, fm_iand 89),
  (89, fm_put 0 37 92),
  (92, fm_loada 0 93),
  (93, fm_loada 0 94),
  (94, fm_get 0 37 97),
  (97, fm_loada 0 98),
  (98, fm_get 0 29 101),
  (101, fm_const (-1) 102),
  (102, fm_ixor 103),
  (103, fm_iand 104),
  (104, fm_put 0 38 107),
  (107, fm_loada 0 108),
  (108, fm_loada 0 109),
  (109, fm_get 0 29 112),
  (112, fm_loada 0 113),
  (113, fm_get 0 37 116),
  (116, fm_const (-1) 117),
  (117, fm_ixor 118),
  (118, fm_iand 119),
  (119, fm_put 0 39 122),
  (122, fm_loada 0 123),
  (123, fm_get 0 25 126),
  (126, fm_ifeq 136 129),
  (129, fm_loada 0 130),
  (130, fm_call true 0 0 (MC_Md_settle κ) 133),
  (133, fm_goto 140),
  (136, fm_loada 0 137),
  (137, fm_call true 0 0 (MC_Md_single κ) 140),
  (140, fm_store 3 141),
  (141, fm_load 3 142),
  (142, fm_const (-1) 143),
  (143, fm_cmpne 186 146),
  (146, fm_loada 0 147),
  (147, fm_loada 0 148),
  (148, fm_get 0 35 151),
  (151, fm_put 0 26 154),
  (154, fm_const 0 155),
  (155, fm_store 4 157),
  (157, fm_load 4 159),
  (159, fm_const 8 161),
  (161, fm_cmpge 184 164),
  (164, fm_loada 0 165),
  (165, fm_getr 0 20 168),
  (168, fm_load 4 170),
  (170, fm_loada 0 171),
  (171, fm_getr 0 21 174),
  (174, fm_load 4 176),
  (176, fm_ald lnMI 177),
  (177, fm_ast lnMI 178),
  (178, fm_inc 4 1 181),
  (181, fm_goto 157),
  (184, fm_const (-1) 185),
  (185, fm_ret post),
  (186, fm_loada 0 187),
  (187, fm_loada 0 188),
  (188, fm_get 0 37 191),
  (191, fm_put 0 29 194),
  (194, fm_loada 0 195),
  (195, fm_const 0 196),
  (196, fm_put 0 33 199),
  (199, fm_loada 0 200),
  (200, fm_const 0 201),
  (201, fm_put 0 34 204),
  (204, fm_loada 0 205),
  (205, fm_load 3 206),
  (206, fm_put 0 31 209),
  (209, fm_loada 0 210),
  (210, fm_load 2 211),
  (211, fm_call false 0 1 (MC_Md_act κ) 214),
  (214, fm_loada 0 215),
  (215, fm_loada 0 216),
  (216, fm_get 0 26 219),
  (219, fm_put 0 28 222),
  (222, fm_load 3 223),
  (223, fm_ret post)]
set_option maxHeartbeats 4000000 in
set_option maxRecDepth 100000 in
theorem mo_Md_scan {κ : fx_K} (hq : fx_I κ lyM.length) {av : List fx_V} {S : fx_S} {post : Int32 → fx_S → Prop} (hlen : av.length ≤ 5) (body : ∀ J : fx_J fx_S, (∀ r ∈ tt_Md_scan κ post, fx_Snd J r.1 r.2) → (∀ pc k ls st S, J pc (ls.take k) st S → J pc ls st S) → J 0 av [] S) : MC_Md_scan κ av S post := by
  refine fx_Met_of (cc := c_Md_scan) (nL := 5) (ret := (some .int)) (by decide) rfl hq hlen ?_
  intro p e s m args below meth c hC hr hnw
  refine body _ ?_ fx_W_take
  have hF := hC.1
  have hts := hC.1.2.2.2.2
  have hm : ∀ {w : Cond}, w ∈ TB → w.before args s = true := fun h => hts _ (List.mem_cons_of_mem _ h)
  have g84 : ∀ (Q : State → Prop) (pc : Nat), decode c_Md_scan pc = .ok (.getfield 84, 3) → fx_Snd (fx_W p κ.1 e rm_Md_scan s m args below meth c Q (fx_A κ.2.2.2 lyM.length) 0 0 (fx_P κ.2.1 vwCl κ.2.2.1 κ.2.2.2 lyM) κ.2.2.2 5) pc (fm_get 0 24 (pc + 3)) := fun Q pc hd => fs_get hC (cN := 0) (j := 24) (ci := 7) (C := R_Md) (T := T_Md) (N := 43) rfl rfl rfl (by decide) (fun w h => List.mem_cons_of_mem _ (in_Md w h)) (hm wd_563) hd
  have g121 : ∀ (Q : State → Prop) (pc : Nat), decode c_Md_scan pc = .ok (.getfield 121, 3) → fx_Snd (fx_W p κ.1 e rm_Md_scan s m args below meth c Q (fx_A κ.2.2.2 lyM.length) 0 0 (fx_P κ.2.1 vwCl κ.2.2.1 κ.2.2.2 lyM) κ.2.2.2 5) pc (fm_get 0 26 (pc + 3)) := fun Q pc hd => fs_get hC (cN := 0) (j := 26) (ci := 7) (C := R_Md) (T := T_Md) (N := 43) rfl rfl rfl (by decide) (fun w h => List.mem_cons_of_mem _ (in_Md w h)) (hm wd_565) hd
  have g71 : ∀ (Q : State → Prop) (pc : Nat), decode c_Md_scan pc = .ok (.getfield 71, 3) → fx_Snd (fx_W p κ.1 e rm_Md_scan s m args below meth c Q (fx_A κ.2.2.2 lyM.length) 0 0 (fx_P κ.2.1 vwCl κ.2.2.1 κ.2.2.2 lyM) κ.2.2.2 5) pc (fm_getr 0 21 (pc + 3)) := fun Q pc hd => fs_getr hC (cN := 0) (j := 36) (ci := 7) (C := R_Md) (T := T_Md) (N := 43) rfl rfl rfl (by decide) (fun w h => List.mem_cons_of_mem _ (in_Md w h)) (hm wd_575) hd
  have g68 : ∀ (Q : State → Prop) (pc : Nat), decode c_Md_scan pc = .ok (.getfield 68, 3) → fx_Snd (fx_W p κ.1 e rm_Md_scan s m args below meth c Q (fx_A κ.2.2.2 lyM.length) 0 0 (fx_P κ.2.1 vwCl κ.2.2.1 κ.2.2.2 lyM) κ.2.2.2 5) pc (fm_getr 0 20 (pc + 3)) := fun Q pc hd => fs_getr hC (cN := 0) (j := 27) (ci := 7) (C := R_Md) (T := T_Md) (N := 43) rfl rfl rfl (by decide) (fun w h => List.mem_cons_of_mem _ (in_Md w h)) (hm wd_566) hd
  have g151 : ∀ (Q : State → Prop) (pc : Nat), decode c_Md_scan pc = .ok (.getfield 151, 3) → fx_Snd (fx_W p κ.1 e rm_Md_scan s m args below meth c Q (fx_A κ.2.2.2 lyM.length) 0 0 (fx_P κ.2.1 vwCl κ.2.2.1 κ.2.2.2 lyM) κ.2.2.2 5) pc (fm_get 0 37 (pc + 3)) := fun Q pc hd => fs_get hC (cN := 0) (j := 37) (ci := 7) (C := R_Md) (T := T_Md) (N := 43) rfl rfl rfl (by decide) (fun w h => List.mem_cons_of_mem _ (in_Md w h)) (hm wd_576) hd
  have g127 : ∀ (Q : State → Prop) (pc : Nat), decode c_Md_scan pc = .ok (.getfield 127, 3) → fx_Snd (fx_W p κ.1 e rm_Md_scan s m args below meth c Q (fx_A κ.2.2.2 lyM.length) 0 0 (fx_P κ.2.1 vwCl κ.2.2.1 κ.2.2.2 lyM) κ.2.2.2 5) pc (fm_get 0 29 (pc + 3)) := fun Q pc hd => fs_get hC (cN := 0) (j := 29) (ci := 7) (C := R_Md) (T := T_Md) (N := 43) rfl rfl rfl (by decide) (fun w h => List.mem_cons_of_mem _ (in_Md w h)) (hm wd_568) hd
  have g148 : ∀ (Q : State → Prop) (pc : Nat), decode c_Md_scan pc = .ok (.getfield 148, 3) → fx_Snd (fx_W p κ.1 e rm_Md_scan s m args below meth c Q (fx_A κ.2.2.2 lyM.length) 0 0 (fx_P κ.2.1 vwCl κ.2.2.1 κ.2.2.2 lyM) κ.2.2.2 5) pc (fm_get 0 25 (pc + 3)) := fun Q pc hd => fs_get hC (cN := 0) (j := 25) (ci := 7) (C := R_Md) (T := T_Md) (N := 43) rfl rfl rfl (by decide) (fun w h => List.mem_cons_of_mem _ (in_Md w h)) (hm wd_564) hd
  have g179 : ∀ (Q : State → Prop) (pc : Nat), decode c_Md_scan pc = .ok (.getfield 179, 3) → fx_Snd (fx_W p κ.1 e rm_Md_scan s m args below meth c Q (fx_A κ.2.2.2 lyM.length) 0 0 (fx_P κ.2.1 vwCl κ.2.2.1 κ.2.2.2 lyM) κ.2.2.2 5) pc (fm_get 0 35 (pc + 3)) := fun Q pc hd => fs_get hC (cN := 0) (j := 35) (ci := 7) (C := R_Md) (T := T_Md) (N := 43) rfl rfl rfl (by decide) (fun w h => List.mem_cons_of_mem _ (in_Md w h)) (hm wd_574) hd
  refine List.forall_mem_cons.mpr ⟨fs_loada_n hF d_Md_scan_0 rfl, ?_⟩
  refine List.forall_mem_cons.mpr ⟨g84 _ 1 d_Md_scan_1, ?_⟩
  refine List.forall_mem_cons.mpr ⟨fs_ifeq hF d_Md_scan_4 (by decide), ?_⟩
  refine List.forall_mem_cons.mpr ⟨fs_load_n hF d_Md_scan_7 rfl, ?_⟩
  refine List.forall_mem_cons.mpr ⟨fs_iflt hF d_Md_scan_8 (by decide), ?_⟩
  refine List.forall_mem_cons.mpr ⟨fs_load_n hF d_Md_scan_11 rfl, ?_⟩
  refine List.forall_mem_cons.mpr ⟨fs_ldc hF (hm wd_686) d_Md_scan_12, ?_⟩
  refine List.forall_mem_cons.mpr ⟨fs_cmple hF d_Md_scan_14 (by decide), ?_⟩
  refine List.forall_mem_cons.mpr ⟨fs_bipush hF d_Md_scan_17 (by decide), ?_⟩
  refine List.forall_mem_cons.mpr ⟨fs_ret hC hr d_Md_scan_19, ?_⟩
  refine List.forall_mem_cons.mpr ⟨fs_loada_n hF d_Md_scan_20 rfl, ?_⟩
  refine List.forall_mem_cons.mpr ⟨fs_loada_n hF d_Md_scan_21 rfl, ?_⟩
  refine List.forall_mem_cons.mpr ⟨g121 _ 22 d_Md_scan_22, ?_⟩
  refine List.forall_mem_cons.mpr ⟨fs_put hC (cN := 0) (j := 35) (ci := 7) (C := R_Md) (T := T_Md) (N := 43) rfl rfl rfl (by decide) ty_Md tk_Md nm_Md rfl (by decide +kernel) (fun w h => List.mem_cons_of_mem _ (in_Md w h)) (hm wd_574) d_Md_scan_25, ?_⟩
  refine List.forall_mem_cons.mpr ⟨fs_const hF d_Md_scan_28 (by decide), ?_⟩
  refine List.forall_mem_cons.mpr ⟨fs_store_n hF d_Md_scan_29 rfl (by decide), ?_⟩
  refine List.forall_mem_cons.mpr ⟨fs_load_n hF d_Md_scan_30 rfl, ?_⟩
  refine List.forall_mem_cons.mpr ⟨fs_bipush hF d_Md_scan_31 (by decide), ?_⟩
  refine List.forall_mem_cons.mpr ⟨fs_cmpge hF d_Md_scan_33 (by decide), ?_⟩
  refine List.forall_mem_cons.mpr ⟨fs_loada_n hF d_Md_scan_36 rfl, ?_⟩
  refine List.forall_mem_cons.mpr ⟨g71 _ 37 d_Md_scan_37, ?_⟩
  refine List.forall_mem_cons.mpr ⟨fs_load_n hF d_Md_scan_40 rfl, ?_⟩
  refine List.forall_mem_cons.mpr ⟨fs_loada_n hF d_Md_scan_41 rfl, ?_⟩
  refine List.forall_mem_cons.mpr ⟨g68 _ 42 d_Md_scan_42, ?_⟩
  refine List.forall_mem_cons.mpr ⟨fs_load_n hF d_Md_scan_45 rfl, ?_⟩
  refine List.forall_mem_cons.mpr ⟨fs_ald hC lkMI d_Md_scan_46, ?_⟩
  refine List.forall_mem_cons.mpr ⟨fs_ast hC lkMI d_Md_scan_47, ?_⟩
  refine List.forall_mem_cons.mpr ⟨fs_loada_n hF d_Md_scan_48 rfl, ?_⟩
  refine List.forall_mem_cons.mpr ⟨g68 _ 49 d_Md_scan_49, ?_⟩
  refine List.forall_mem_cons.mpr ⟨fs_load_n hF d_Md_scan_52 rfl, ?_⟩
  refine List.forall_mem_cons.mpr ⟨fs_loada_n hF d_Md_scan_53 rfl, ?_⟩
  refine List.forall_mem_cons.mpr ⟨g121 _ 54 d_Md_scan_54, ?_⟩
  refine List.forall_mem_cons.mpr ⟨fs_load_n hF d_Md_scan_57 rfl, ?_⟩
  refine List.forall_mem_cons.mpr ⟨fs_callS hC nwl_ok hnw ⟨callB_of 2 hts (tb_good wd_717) rfl rfl rfl (hm wd_39) (hm wd_715) pd_Md_in ⟨Nat.le_of_ble_eq_true rfl, Nat.le_of_ble_eq_true rfl⟩, hm wd_716⟩ d_Md_scan_58, ?_⟩
  refine List.forall_mem_cons.mpr ⟨fs_ifeq hF d_Md_scan_61 (by decide), ?_⟩
  refine List.forall_mem_cons.mpr ⟨fs_loada_n hF d_Md_scan_64 rfl, ?_⟩
  refine List.forall_mem_cons.mpr ⟨g68 _ 65 d_Md_scan_65, ?_⟩
  refine List.forall_mem_cons.mpr ⟨fs_load_n hF d_Md_scan_68 rfl, ?_⟩
  refine List.forall_mem_cons.mpr ⟨fs_ald hC lkMI d_Md_scan_69, ?_⟩
  refine List.forall_mem_cons.mpr ⟨fs_load_n hF d_Md_scan_70 rfl, ?_⟩
  refine List.forall_mem_cons.mpr ⟨fs_iadd hF d_Md_scan_71, ?_⟩
  refine List.forall_mem_cons.mpr ⟨fs_goto hF d_Md_scan_72 (by decide), ?_⟩
  refine List.forall_mem_cons.mpr ⟨fs_const hF d_Md_scan_75 (by decide), ?_⟩
  refine List.forall_mem_cons.mpr ⟨fs_ast hC lkMI d_Md_scan_76, ?_⟩
  refine List.forall_mem_cons.mpr ⟨fs_inc hF d_Md_scan_77 (by decide) (by decide), ?_⟩
  refine List.forall_mem_cons.mpr ⟨fs_goto hF d_Md_scan_80 (by decide), ?_⟩
  refine List.forall_mem_cons.mpr ⟨fs_loada_n hF d_Md_scan_83 rfl, ?_⟩
  refine List.forall_mem_cons.mpr ⟨fs_load_n hF d_Md_scan_84 rfl, ?_⟩
  refine List.forall_mem_cons.mpr ⟨fs_sipush hF d_Md_scan_85 (by decide), ?_⟩
  refine List.forall_mem_cons.mpr ⟨fs_iand hF d_Md_scan_88, ?_⟩
  refine List.forall_mem_cons.mpr ⟨fs_put hC (cN := 0) (j := 37) (ci := 7) (C := R_Md) (T := T_Md) (N := 43) rfl rfl rfl (by decide) ty_Md tk_Md nm_Md rfl (by decide +kernel) (fun w h => List.mem_cons_of_mem _ (in_Md w h)) (hm wd_576) d_Md_scan_89, ?_⟩
  refine List.forall_mem_cons.mpr ⟨fs_loada_n hF d_Md_scan_92 rfl, ?_⟩
  refine List.forall_mem_cons.mpr ⟨fs_loada_n hF d_Md_scan_93 rfl, ?_⟩
  refine List.forall_mem_cons.mpr ⟨g151 _ 94 d_Md_scan_94, ?_⟩
  refine List.forall_mem_cons.mpr ⟨fs_loada_n hF d_Md_scan_97 rfl, ?_⟩
  refine List.forall_mem_cons.mpr ⟨g127 _ 98 d_Md_scan_98, ?_⟩
  refine List.forall_mem_cons.mpr ⟨fs_const hF d_Md_scan_101 (by decide), ?_⟩
  refine List.forall_mem_cons.mpr ⟨fs_ixor hF d_Md_scan_102, ?_⟩
  refine List.forall_mem_cons.mpr ⟨fs_iand hF d_Md_scan_103, ?_⟩
  refine List.forall_mem_cons.mpr ⟨fs_put hC (cN := 0) (j := 38) (ci := 7) (C := R_Md) (T := T_Md) (N := 43) rfl rfl rfl (by decide) ty_Md tk_Md nm_Md rfl (by decide +kernel) (fun w h => List.mem_cons_of_mem _ (in_Md w h)) (hm wd_577) d_Md_scan_104, ?_⟩
  refine List.forall_mem_cons.mpr ⟨fs_loada_n hF d_Md_scan_107 rfl, ?_⟩
  refine List.forall_mem_cons.mpr ⟨fs_loada_n hF d_Md_scan_108 rfl, ?_⟩
  refine List.forall_mem_cons.mpr ⟨g127 _ 109 d_Md_scan_109, ?_⟩
  refine List.forall_mem_cons.mpr ⟨fs_loada_n hF d_Md_scan_112 rfl, ?_⟩
  refine List.forall_mem_cons.mpr ⟨g151 _ 113 d_Md_scan_113, ?_⟩
  refine List.forall_mem_cons.mpr ⟨fs_const hF d_Md_scan_116 (by decide), ?_⟩
  refine List.forall_mem_cons.mpr ⟨fs_ixor hF d_Md_scan_117, ?_⟩
  refine List.forall_mem_cons.mpr ⟨fs_iand hF d_Md_scan_118, ?_⟩
  refine List.forall_mem_cons.mpr ⟨fs_put hC (cN := 0) (j := 39) (ci := 7) (C := R_Md) (T := T_Md) (N := 43) rfl rfl rfl (by decide) ty_Md tk_Md nm_Md rfl (by decide +kernel) (fun w h => List.mem_cons_of_mem _ (in_Md w h)) (hm wd_578) d_Md_scan_119, ?_⟩
  refine List.forall_mem_cons.mpr ⟨fs_loada_n hF d_Md_scan_122 rfl, ?_⟩
  refine List.forall_mem_cons.mpr ⟨g148 _ 123 d_Md_scan_123, ?_⟩
  refine List.forall_mem_cons.mpr ⟨fs_ifeq hF d_Md_scan_126 (by decide), ?_⟩
  refine List.forall_mem_cons.mpr ⟨fs_loada_n hF d_Md_scan_129 rfl, ?_⟩
  refine List.forall_mem_cons.mpr ⟨fs_callV hC nwl_ok hnw (cN := 0) (ci := 7) (C := R_Md) rfl rfl ⟨callB_of 0 hts (tb_good wd_737) rfl rfl rfl (hm wd_39) (hm wd_734) pd_Md_settle ⟨Nat.le_of_ble_eq_true rfl, Nat.le_of_ble_eq_true rfl⟩, hm wd_736, hm wd_18⟩ d_Md_scan_130, ?_⟩
  refine List.forall_mem_cons.mpr ⟨fs_goto hF d_Md_scan_133 (by decide), ?_⟩
  refine List.forall_mem_cons.mpr ⟨fs_loada_n hF d_Md_scan_136 rfl, ?_⟩
  refine List.forall_mem_cons.mpr ⟨fs_callV hC nwl_ok hnw (cN := 0) (ci := 7) (C := R_Md) rfl rfl ⟨callB_of 0 hts (tb_good wd_769) rfl rfl rfl (hm wd_39) (hm wd_766) pd_Md_single ⟨Nat.le_of_ble_eq_true rfl, Nat.le_of_ble_eq_true rfl⟩, hm wd_768, hm wd_26⟩ d_Md_scan_137, ?_⟩
  refine List.forall_mem_cons.mpr ⟨fs_store_n hF d_Md_scan_140 rfl (by decide), ?_⟩
  refine List.forall_mem_cons.mpr ⟨fs_load_n hF d_Md_scan_141 rfl, ?_⟩
  refine List.forall_mem_cons.mpr ⟨fs_const hF d_Md_scan_142 (by decide), ?_⟩
  refine List.forall_mem_cons.mpr ⟨fs_cmpne hF d_Md_scan_143 (by decide), ?_⟩
  refine List.forall_mem_cons.mpr ⟨fs_loada_n hF d_Md_scan_146 rfl, ?_⟩
  refine List.forall_mem_cons.mpr ⟨fs_loada_n hF d_Md_scan_147 rfl, ?_⟩
  refine List.forall_mem_cons.mpr ⟨g179 _ 148 d_Md_scan_148, ?_⟩
  refine List.forall_mem_cons.mpr ⟨fs_put hC (cN := 0) (j := 26) (ci := 7) (C := R_Md) (T := T_Md) (N := 43) rfl rfl rfl (by decide) ty_Md tk_Md nm_Md rfl (by decide +kernel) (fun w h => List.mem_cons_of_mem _ (in_Md w h)) (hm wd_565) d_Md_scan_151, ?_⟩
  refine List.forall_mem_cons.mpr ⟨fs_const hF d_Md_scan_154 (by decide), ?_⟩
  refine List.forall_mem_cons.mpr ⟨fs_store hF d_Md_scan_155 (by decide), ?_⟩
  refine List.forall_mem_cons.mpr ⟨fs_load hF d_Md_scan_157, ?_⟩
  refine List.forall_mem_cons.mpr ⟨fs_bipush hF d_Md_scan_159 (by decide), ?_⟩
  refine List.forall_mem_cons.mpr ⟨fs_cmpge hF d_Md_scan_161 (by decide), ?_⟩
  refine List.forall_mem_cons.mpr ⟨fs_loada_n hF d_Md_scan_164 rfl, ?_⟩
  refine List.forall_mem_cons.mpr ⟨g68 _ 165 d_Md_scan_165, ?_⟩
  refine List.forall_mem_cons.mpr ⟨fs_load hF d_Md_scan_168, ?_⟩
  refine List.forall_mem_cons.mpr ⟨fs_loada_n hF d_Md_scan_170 rfl, ?_⟩
  refine List.forall_mem_cons.mpr ⟨g71 _ 171 d_Md_scan_171, ?_⟩
  refine List.forall_mem_cons.mpr ⟨fs_load hF d_Md_scan_174, ?_⟩
  refine List.forall_mem_cons.mpr ⟨fs_ald hC lkMI d_Md_scan_176, ?_⟩
  refine List.forall_mem_cons.mpr ⟨fs_ast hC lkMI d_Md_scan_177, ?_⟩
  refine List.forall_mem_cons.mpr ⟨fs_inc hF d_Md_scan_178 (by decide) (by decide), ?_⟩
  refine List.forall_mem_cons.mpr ⟨fs_goto hF d_Md_scan_181 (by decide), ?_⟩
  refine List.forall_mem_cons.mpr ⟨fs_const hF d_Md_scan_184 (by decide), ?_⟩
  refine List.forall_mem_cons.mpr ⟨fs_ret hC hr d_Md_scan_185, ?_⟩
  refine List.forall_mem_cons.mpr ⟨fs_loada_n hF d_Md_scan_186 rfl, ?_⟩
  refine List.forall_mem_cons.mpr ⟨fs_loada_n hF d_Md_scan_187 rfl, ?_⟩
  refine List.forall_mem_cons.mpr ⟨g151 _ 188 d_Md_scan_188, ?_⟩
  refine List.forall_mem_cons.mpr ⟨fs_put hC (cN := 0) (j := 29) (ci := 7) (C := R_Md) (T := T_Md) (N := 43) rfl rfl rfl (by decide) ty_Md tk_Md nm_Md rfl (by decide +kernel) (fun w h => List.mem_cons_of_mem _ (in_Md w h)) (hm wd_568) d_Md_scan_191, ?_⟩
  refine List.forall_mem_cons.mpr ⟨fs_loada_n hF d_Md_scan_194 rfl, ?_⟩
  refine List.forall_mem_cons.mpr ⟨fs_const hF d_Md_scan_195 (by decide), ?_⟩
  refine List.forall_mem_cons.mpr ⟨fs_put hC (cN := 0) (j := 33) (ci := 7) (C := R_Md) (T := T_Md) (N := 43) rfl rfl rfl (by decide) ty_Md tk_Md nm_Md rfl (by decide +kernel) (fun w h => List.mem_cons_of_mem _ (in_Md w h)) (hm wd_572) d_Md_scan_196, ?_⟩
  refine List.forall_mem_cons.mpr ⟨fs_loada_n hF d_Md_scan_199 rfl, ?_⟩
  refine List.forall_mem_cons.mpr ⟨fs_const hF d_Md_scan_200 (by decide), ?_⟩
  refine List.forall_mem_cons.mpr ⟨fs_put hC (cN := 0) (j := 34) (ci := 7) (C := R_Md) (T := T_Md) (N := 43) rfl rfl rfl (by decide) ty_Md tk_Md nm_Md rfl (by decide +kernel) (fun w h => List.mem_cons_of_mem _ (in_Md w h)) (hm wd_573) d_Md_scan_201, ?_⟩
  refine List.forall_mem_cons.mpr ⟨fs_loada_n hF d_Md_scan_204 rfl, ?_⟩
  refine List.forall_mem_cons.mpr ⟨fs_load_n hF d_Md_scan_205 rfl, ?_⟩
  refine List.forall_mem_cons.mpr ⟨fs_put hC (cN := 0) (j := 31) (ci := 7) (C := R_Md) (T := T_Md) (N := 43) rfl rfl rfl (by decide) ty_Md tk_Md nm_Md rfl (by decide +kernel) (fun w h => List.mem_cons_of_mem _ (in_Md w h)) (hm wd_570) d_Md_scan_206, ?_⟩
  refine List.forall_mem_cons.mpr ⟨fs_loada_n hF d_Md_scan_209 rfl, ?_⟩
  refine List.forall_mem_cons.mpr ⟨fs_load_n hF d_Md_scan_210 rfl, ?_⟩
  refine List.forall_mem_cons.mpr ⟨fs_callV hC nwl_ok hnw (cN := 0) (ci := 7) (C := R_Md) rfl rfl ⟨callB_of 1 hts (tb_good wd_773) rfl rfl rfl (hm wd_39) (hm wd_770) pd_Md_act ⟨Nat.le_of_ble_eq_true rfl, Nat.le_of_ble_eq_true rfl⟩, hm wd_772, hm wd_27⟩ d_Md_scan_211, ?_⟩
  refine List.forall_mem_cons.mpr ⟨fs_loada_n hF d_Md_scan_214 rfl, ?_⟩
  refine List.forall_mem_cons.mpr ⟨fs_loada_n hF d_Md_scan_215 rfl, ?_⟩
  refine List.forall_mem_cons.mpr ⟨g121 _ 216 d_Md_scan_216, ?_⟩
  refine List.forall_mem_cons.mpr ⟨fs_put hC (cN := 0) (j := 28) (ci := 7) (C := R_Md) (T := T_Md) (N := 43) rfl rfl rfl (by decide) ty_Md tk_Md nm_Md rfl (by decide +kernel) (fun w h => List.mem_cons_of_mem _ (in_Md w h)) (hm wd_567) d_Md_scan_219, ?_⟩
  refine List.forall_mem_cons.mpr ⟨fs_load_n hF d_Md_scan_222 rfl, ?_⟩
  refine List.forall_mem_cons.mpr ⟨fs_ret hC hr d_Md_scan_223, ?_⟩
  exact fun _ h => absurd h List.not_mem_nil
abbrev rm_Md_active : Room := { frames := 0, cells := 0, slots := 0, locals := 0 }
def ws_Md_active : List Cond := .code y_Md_active c_Md_active 1 (some .int) :: TB
abbrev MC_Md_active (κ : fx_K) : List fx_V → fx_S → (Int32 → fx_S → Prop) → Prop := fx_Met κ.1 κ.2.1 vwCl κ.2.2.1 κ.2.2.2 lyM nwl y_Md_active ws_Md_active rm_Md_active true
def tt_Md_active (κ : fx_K) (post : Int32 → fx_S → Prop) : List (Nat × fx_M fx_S) := [(0, fm_loada 0 1),
  (1, fm_get 0 26 4),
  (4, fm_ret post)]
set_option maxHeartbeats 4000000 in
set_option maxRecDepth 100000 in
theorem mo_Md_active {κ : fx_K} (hq : fx_I κ lyM.length) {av : List fx_V} {S : fx_S} {post : Int32 → fx_S → Prop} (hlen : av.length ≤ 1) (body : ∀ J : fx_J fx_S, (∀ r ∈ tt_Md_active κ post, fx_Snd J r.1 r.2) → (∀ pc k ls st S, J pc (ls.take k) st S → J pc ls st S) → J 0 av [] S) : MC_Md_active κ av S post := by
  refine fx_Met_of (cc := c_Md_active) (nL := 1) (ret := (some .int)) (by decide) rfl hq hlen ?_
  intro p e s m args below meth c hC hr hnw
  refine body _ ?_ fx_W_take
  have hF := hC.1
  have hts := hC.1.2.2.2.2
  have hm : ∀ {w : Cond}, w ∈ TB → w.before args s = true := fun h => hts _ (List.mem_cons_of_mem _ h)
  have g121 : ∀ (Q : State → Prop) (pc : Nat), decode c_Md_active pc = .ok (.getfield 121, 3) → fx_Snd (fx_W p κ.1 e rm_Md_active s m args below meth c Q (fx_A κ.2.2.2 lyM.length) 0 0 (fx_P κ.2.1 vwCl κ.2.2.1 κ.2.2.2 lyM) κ.2.2.2 1) pc (fm_get 0 26 (pc + 3)) := fun Q pc hd => fs_get hC (cN := 0) (j := 26) (ci := 7) (C := R_Md) (T := T_Md) (N := 43) rfl rfl rfl (by decide) (fun w h => List.mem_cons_of_mem _ (in_Md w h)) (hm wd_565) hd
  refine List.forall_mem_cons.mpr ⟨fs_loada_n hF d_Md_active_0 rfl, ?_⟩
  refine List.forall_mem_cons.mpr ⟨g121 _ 1 d_Md_active_1, ?_⟩
  refine List.forall_mem_cons.mpr ⟨fs_ret hC hr d_Md_active_4, ?_⟩
  exact fun _ h => absurd h List.not_mem_nil
abbrev rm_Md_time : Room := { frames := 1, cells := 0, slots := 0, locals := 21 }
def ws_Md_time : List Cond := .code y_Md_time c_Md_time 2 (some .int) :: TB
abbrev MC_Md_time (κ : fx_K) : List fx_V → fx_S → (Int32 → fx_S → Prop) → Prop := fx_Met κ.1 κ.2.1 vwCl κ.2.2.1 κ.2.2.2 lyM nwl y_Md_time ws_Md_time rm_Md_time true
def tt_Md_time (κ : fx_K) (post : Int32 → fx_S → Prop) : List (Nat × fx_M fx_S) := [(0, fm_loada 0 1),
  (1, fm_load 1 2),
  (2, fm_call true 0 1 (MC_Md_isStep κ) 5),
  (5, fm_ifeq 17 8),
  (8, fm_loada 0 9),
  (9, fm_getr 0 20 12),
  (12, fm_load 1 13),
  (13, fm_ald lnMI 14),
  (14, fm_goto 18),
  (17, fm_const 0 18),
  (18, fm_ret post)]
set_option maxHeartbeats 4000000 in
set_option maxRecDepth 100000 in
theorem mo_Md_time {κ : fx_K} (hq : fx_I κ lyM.length) {av : List fx_V} {S : fx_S} {post : Int32 → fx_S → Prop} (hlen : av.length ≤ 2) (body : ∀ J : fx_J fx_S, (∀ r ∈ tt_Md_time κ post, fx_Snd J r.1 r.2) → (∀ pc k ls st S, J pc (ls.take k) st S → J pc ls st S) → J 0 av [] S) : MC_Md_time κ av S post := by
  refine fx_Met_of (cc := c_Md_time) (nL := 2) (ret := (some .int)) (by decide) rfl hq hlen ?_
  intro p e s m args below meth c hC hr hnw
  refine body _ ?_ fx_W_take
  have hF := hC.1
  have hts := hC.1.2.2.2.2
  have hm : ∀ {w : Cond}, w ∈ TB → w.before args s = true := fun h => hts _ (List.mem_cons_of_mem _ h)
  have g68 : ∀ (Q : State → Prop) (pc : Nat), decode c_Md_time pc = .ok (.getfield 68, 3) → fx_Snd (fx_W p κ.1 e rm_Md_time s m args below meth c Q (fx_A κ.2.2.2 lyM.length) 0 0 (fx_P κ.2.1 vwCl κ.2.2.1 κ.2.2.2 lyM) κ.2.2.2 2) pc (fm_getr 0 20 (pc + 3)) := fun Q pc hd => fs_getr hC (cN := 0) (j := 27) (ci := 7) (C := R_Md) (T := T_Md) (N := 43) rfl rfl rfl (by decide) (fun w h => List.mem_cons_of_mem _ (in_Md w h)) (hm wd_566) hd
  refine List.forall_mem_cons.mpr ⟨fs_loada_n hF d_Md_time_0 rfl, ?_⟩
  refine List.forall_mem_cons.mpr ⟨fs_load_n hF d_Md_time_1 rfl, ?_⟩
  refine List.forall_mem_cons.mpr ⟨fs_callV hC nwl_ok hnw (cN := 0) (ci := 7) (C := R_Md) rfl rfl ⟨callB_of 1 hts (tb_good wd_685) rfl rfl rfl (hm wd_39) (hm wd_682) pd_Md_isStep ⟨Nat.le_of_ble_eq_true rfl, Nat.le_of_ble_eq_true rfl⟩, hm wd_684, hm wd_13⟩ d_Md_time_2, ?_⟩
  refine List.forall_mem_cons.mpr ⟨fs_ifeq hF d_Md_time_5 (by decide), ?_⟩
  refine List.forall_mem_cons.mpr ⟨fs_loada_n hF d_Md_time_8 rfl, ?_⟩
  refine List.forall_mem_cons.mpr ⟨g68 _ 9 d_Md_time_9, ?_⟩
  refine List.forall_mem_cons.mpr ⟨fs_load_n hF d_Md_time_12 rfl, ?_⟩
  refine List.forall_mem_cons.mpr ⟨fs_ald hC lkMI d_Md_time_13, ?_⟩
  refine List.forall_mem_cons.mpr ⟨fs_goto hF d_Md_time_14 (by decide), ?_⟩
  refine List.forall_mem_cons.mpr ⟨fs_const hF d_Md_time_17 (by decide), ?_⟩
  refine List.forall_mem_cons.mpr ⟨fs_ret hC hr d_Md_time_18, ?_⟩
  exact fun _ h => absurd h List.not_mem_nil
abbrev rm_Md_enabled : Room := { frames := 1, cells := 0, slots := 0, locals := 21 }
def ws_Md_enabled : List Cond := .code y_Md_enabled c_Md_enabled 3 (some .int) :: TB
abbrev MC_Md_enabled (κ : fx_K) : List fx_V → fx_S → (Int32 → fx_S → Prop) → Prop := fx_Met κ.1 κ.2.1 vwCl κ.2.2.1 κ.2.2.2 lyM nwl y_Md_enabled ws_Md_enabled rm_Md_enabled true
def tt_Md_enabled (κ : fx_K) (post : Int32 → fx_S → Prop) : List (Nat × fx_M fx_S) := [(0, fm_const 0 1),
  (1, fm_store 1 2),
  (2, fm_const 0 3),
  (3, fm_store 2 4),
  (4, fm_load 2 5),
  (5, fm_loada 0 6),
  (6, fm_get 0 9 9),
  (9, fm_cmpge 36 12),
  (12, fm_loada 0 13),
  (13, fm_load 2 14),
  (14, fm_call true 0 1 (MC_Md_isEnabled κ) 17),
  (17, fm_ifeq 28 20),
  (20, fm_load 1 21),
  (21, fm_const 1 22),
  (22, fm_load 2 23),
  (23, fm_ishl 24),
  (24, fm_ior 25),
  (25, fm_goto 29),
  (28, fm_load 1 29),
  (29, fm_store 1 30),
  (30, fm_inc 2 1 33),
  (33, fm_goto 4),
  (36, fm_load 1 37),
  (37, fm_ret post)]
set_option maxHeartbeats 4000000 in
set_option maxRecDepth 100000 in
theorem mo_Md_enabled {κ : fx_K} (hq : fx_I κ lyM.length) {av : List fx_V} {S : fx_S} {post : Int32 → fx_S → Prop} (hlen : av.length ≤ 3) (body : ∀ J : fx_J fx_S, (∀ r ∈ tt_Md_enabled κ post, fx_Snd J r.1 r.2) → (∀ pc k ls st S, J pc (ls.take k) st S → J pc ls st S) → J 0 av [] S) : MC_Md_enabled κ av S post := by
  refine fx_Met_of (cc := c_Md_enabled) (nL := 3) (ret := (some .int)) (by decide) rfl hq hlen ?_
  intro p e s m args below meth c hC hr hnw
  refine body _ ?_ fx_W_take
  have hF := hC.1
  have hts := hC.1.2.2.2.2
  have hm : ∀ {w : Cond}, w ∈ TB → w.before args s = true := fun h => hts _ (List.mem_cons_of_mem _ h)
  have g100 : ∀ (Q : State → Prop) (pc : Nat), decode c_Md_enabled pc = .ok (.getfield 100, 3) → fx_Snd (fx_W p κ.1 e rm_Md_enabled s m args below meth c Q (fx_A κ.2.2.2 lyM.length) 0 0 (fx_P κ.2.1 vwCl κ.2.2.1 κ.2.2.2 lyM) κ.2.2.2 3) pc (fm_get 0 9 (pc + 3)) := fun Q pc hd => fs_get hC (cN := 0) (j := 9) (ci := 7) (C := R_Md) (T := T_Md) (N := 43) rfl rfl rfl (by decide) (fun w h => List.mem_cons_of_mem _ (in_Md w h)) (hm wd_548) hd
  refine List.forall_mem_cons.mpr ⟨fs_const hF d_Md_enabled_0 (by decide), ?_⟩
  refine List.forall_mem_cons.mpr ⟨fs_store_n hF d_Md_enabled_1 rfl (by decide), ?_⟩
  refine List.forall_mem_cons.mpr ⟨fs_const hF d_Md_enabled_2 (by decide), ?_⟩
  refine List.forall_mem_cons.mpr ⟨fs_store_n hF d_Md_enabled_3 rfl (by decide), ?_⟩
  refine List.forall_mem_cons.mpr ⟨fs_load_n hF d_Md_enabled_4 rfl, ?_⟩
  refine List.forall_mem_cons.mpr ⟨fs_loada_n hF d_Md_enabled_5 rfl, ?_⟩
  refine List.forall_mem_cons.mpr ⟨g100 _ 6 d_Md_enabled_6, ?_⟩
  refine List.forall_mem_cons.mpr ⟨fs_cmpge hF d_Md_enabled_9 (by decide), ?_⟩
  refine List.forall_mem_cons.mpr ⟨fs_loada_n hF d_Md_enabled_12 rfl, ?_⟩
  refine List.forall_mem_cons.mpr ⟨fs_load_n hF d_Md_enabled_13 rfl, ?_⟩
  refine List.forall_mem_cons.mpr ⟨fs_callV hC nwl_ok hnw (cN := 0) (ci := 7) (C := R_Md) rfl rfl ⟨callB_of 1 hts (tb_good wd_757) rfl rfl rfl (hm wd_39) (hm wd_754) pd_Md_isEnabled ⟨Nat.le_of_ble_eq_true rfl, Nat.le_of_ble_eq_true rfl⟩, hm wd_756, hm wd_23⟩ d_Md_enabled_14, ?_⟩
  refine List.forall_mem_cons.mpr ⟨fs_ifeq hF d_Md_enabled_17 (by decide), ?_⟩
  refine List.forall_mem_cons.mpr ⟨fs_load_n hF d_Md_enabled_20 rfl, ?_⟩
  refine List.forall_mem_cons.mpr ⟨fs_const hF d_Md_enabled_21 (by decide), ?_⟩
  refine List.forall_mem_cons.mpr ⟨fs_load_n hF d_Md_enabled_22 rfl, ?_⟩
  refine List.forall_mem_cons.mpr ⟨fs_ishl hF d_Md_enabled_23, ?_⟩
  refine List.forall_mem_cons.mpr ⟨fs_ior hF d_Md_enabled_24, ?_⟩
  refine List.forall_mem_cons.mpr ⟨fs_goto hF d_Md_enabled_25 (by decide), ?_⟩
  refine List.forall_mem_cons.mpr ⟨fs_load_n hF d_Md_enabled_28 rfl, ?_⟩
  refine List.forall_mem_cons.mpr ⟨fs_store_n hF d_Md_enabled_29 rfl (by decide), ?_⟩
  refine List.forall_mem_cons.mpr ⟨fs_inc hF d_Md_enabled_30 (by decide) (by decide), ?_⟩
  refine List.forall_mem_cons.mpr ⟨fs_goto hF d_Md_enabled_33 (by decide), ?_⟩
  refine List.forall_mem_cons.mpr ⟨fs_load_n hF d_Md_enabled_36 rfl, ?_⟩
  refine List.forall_mem_cons.mpr ⟨fs_ret hC hr d_Md_enabled_37, ?_⟩
  exact fun _ h => absurd h List.not_mem_nil
abbrev rm_Md_outputs : Room := { frames := 0, cells := 0, slots := 0, locals := 0 }
def ws_Md_outputs : List Cond := .code y_Md_outputs c_Md_outputs 1 (some .int) :: TB
abbrev MC_Md_outputs (κ : fx_K) : List fx_V → fx_S → (Int32 → fx_S → Prop) → Prop := fx_Met κ.1 κ.2.1 vwCl κ.2.2.1 κ.2.2.2 lyM nwl y_Md_outputs ws_Md_outputs rm_Md_outputs true
def tt_Md_outputs (κ : fx_K) (post : Int32 → fx_S → Prop) : List (Nat × fx_M fx_S) := [(0, fm_loada 0 1),
  (1, fm_get 0 30 4),
  (4, fm_ret post)]
set_option maxHeartbeats 4000000 in
set_option maxRecDepth 100000 in
theorem mo_Md_outputs {κ : fx_K} (hq : fx_I κ lyM.length) {av : List fx_V} {S : fx_S} {post : Int32 → fx_S → Prop} (hlen : av.length ≤ 1) (body : ∀ J : fx_J fx_S, (∀ r ∈ tt_Md_outputs κ post, fx_Snd J r.1 r.2) → (∀ pc k ls st S, J pc (ls.take k) st S → J pc ls st S) → J 0 av [] S) : MC_Md_outputs κ av S post := by
  refine fx_Met_of (cc := c_Md_outputs) (nL := 1) (ret := (some .int)) (by decide) rfl hq hlen ?_
  intro p e s m args below meth c hC hr hnw
  refine body _ ?_ fx_W_take
  have hF := hC.1
  have hts := hC.1.2.2.2.2
  have hm : ∀ {w : Cond}, w ∈ TB → w.before args s = true := fun h => hts _ (List.mem_cons_of_mem _ h)
  have g130 : ∀ (Q : State → Prop) (pc : Nat), decode c_Md_outputs pc = .ok (.getfield 130, 3) → fx_Snd (fx_W p κ.1 e rm_Md_outputs s m args below meth c Q (fx_A κ.2.2.2 lyM.length) 0 0 (fx_P κ.2.1 vwCl κ.2.2.1 κ.2.2.2 lyM) κ.2.2.2 1) pc (fm_get 0 30 (pc + 3)) := fun Q pc hd => fs_get hC (cN := 0) (j := 30) (ci := 7) (C := R_Md) (T := T_Md) (N := 43) rfl rfl rfl (by decide) (fun w h => List.mem_cons_of_mem _ (in_Md w h)) (hm wd_569) hd
  refine List.forall_mem_cons.mpr ⟨fs_loada_n hF d_Md_outputs_0 rfl, ?_⟩
  refine List.forall_mem_cons.mpr ⟨g130 _ 1 d_Md_outputs_1, ?_⟩
  refine List.forall_mem_cons.mpr ⟨fs_ret hC hr d_Md_outputs_4, ?_⟩
  exact fun _ h => absurd h List.not_mem_nil
abbrev rm_Md_stored : Room := { frames := 0, cells := 0, slots := 0, locals := 0 }
def ws_Md_stored : List Cond := .code y_Md_stored c_Md_stored 2 (some .boolean) :: TB
abbrev MC_Md_stored (κ : fx_K) : List fx_V → fx_S → (Int32 → fx_S → Prop) → Prop := fx_Met κ.1 κ.2.1 vwCl κ.2.2.1 κ.2.2.2 lyM nwl y_Md_stored ws_Md_stored rm_Md_stored true
def tt_Md_stored (κ : fx_K) (post : Int32 → fx_S → Prop) : List (Nat × fx_M fx_S) := [(0, fm_load 1 1),
  (1, fm_iflt 25 4),
  (4, fm_load 1 5),
  (5, fm_loada 0 6),
  (6, fm_get 0 17 9),
  (9, fm_cmpge 25 12),
  (12, fm_loada 0 13),
  (13, fm_getr 0 18 16),
  (16, fm_load 1 17),
  (17, fm_ald lnMZ 18),
  (18, fm_ifeq 25 21),
  (21, fm_const 1 22),
  (22, fm_goto 26),
  (25, fm_const 0 26),
  (26, fm_zret post)]
set_option maxHeartbeats 4000000 in
set_option maxRecDepth 100000 in
theorem mo_Md_stored {κ : fx_K} (hq : fx_I κ lyM.length) {av : List fx_V} {S : fx_S} {post : Int32 → fx_S → Prop} (hlen : av.length ≤ 2) (body : ∀ J : fx_J fx_S, (∀ r ∈ tt_Md_stored κ post, fx_Snd J r.1 r.2) → (∀ pc k ls st S, J pc (ls.take k) st S → J pc ls st S) → J 0 av [] S) : MC_Md_stored κ av S post := by
  refine fx_Met_of (cc := c_Md_stored) (nL := 2) (ret := (some .boolean)) (by decide) rfl hq hlen ?_
  intro p e s m args below meth c hC hr hnw
  refine body _ ?_ fx_W_take
  have hF := hC.1
  have hts := hC.1.2.2.2.2
  have hm : ∀ {w : Cond}, w ∈ TB → w.before args s = true := fun h => hts _ (List.mem_cons_of_mem _ h)
  have g110 : ∀ (Q : State → Prop) (pc : Nat), decode c_Md_stored pc = .ok (.getfield 110, 3) → fx_Snd (fx_W p κ.1 e rm_Md_stored s m args below meth c Q (fx_A κ.2.2.2 lyM.length) 0 0 (fx_P κ.2.1 vwCl κ.2.2.1 κ.2.2.2 lyM) κ.2.2.2 2) pc (fm_get 0 17 (pc + 3)) := fun Q pc hd => fs_get hC (cN := 0) (j := 17) (ci := 7) (C := R_Md) (T := T_Md) (N := 43) rfl rfl rfl (by decide) (fun w h => List.mem_cons_of_mem _ (in_Md w h)) (hm wd_556) hd
  have g62 : ∀ (Q : State → Prop) (pc : Nat), decode c_Md_stored pc = .ok (.getfield 62, 3) → fx_Snd (fx_W p κ.1 e rm_Md_stored s m args below meth c Q (fx_A κ.2.2.2 lyM.length) 0 0 (fx_P κ.2.1 vwCl κ.2.2.1 κ.2.2.2 lyM) κ.2.2.2 2) pc (fm_getr 0 18 (pc + 3)) := fun Q pc hd => fs_getr hC (cN := 0) (j := 22) (ci := 7) (C := R_Md) (T := T_Md) (N := 43) rfl rfl rfl (by decide) (fun w h => List.mem_cons_of_mem _ (in_Md w h)) (hm wd_561) hd
  refine List.forall_mem_cons.mpr ⟨fs_load_n hF d_Md_stored_0 rfl, ?_⟩
  refine List.forall_mem_cons.mpr ⟨fs_iflt hF d_Md_stored_1 (by decide), ?_⟩
  refine List.forall_mem_cons.mpr ⟨fs_load_n hF d_Md_stored_4 rfl, ?_⟩
  refine List.forall_mem_cons.mpr ⟨fs_loada_n hF d_Md_stored_5 rfl, ?_⟩
  refine List.forall_mem_cons.mpr ⟨g110 _ 6 d_Md_stored_6, ?_⟩
  refine List.forall_mem_cons.mpr ⟨fs_cmpge hF d_Md_stored_9 (by decide), ?_⟩
  refine List.forall_mem_cons.mpr ⟨fs_loada_n hF d_Md_stored_12 rfl, ?_⟩
  refine List.forall_mem_cons.mpr ⟨g62 _ 13 d_Md_stored_13, ?_⟩
  refine List.forall_mem_cons.mpr ⟨fs_load_n hF d_Md_stored_16 rfl, ?_⟩
  refine List.forall_mem_cons.mpr ⟨fs_zald hC lkMZ d_Md_stored_17, ?_⟩
  refine List.forall_mem_cons.mpr ⟨fs_ifeq hF d_Md_stored_18 (by decide), ?_⟩
  refine List.forall_mem_cons.mpr ⟨fs_const hF d_Md_stored_21 (by decide), ?_⟩
  refine List.forall_mem_cons.mpr ⟨fs_goto hF d_Md_stored_22 (by decide), ?_⟩
  refine List.forall_mem_cons.mpr ⟨fs_const hF d_Md_stored_25 (by decide), ?_⟩
  refine List.forall_mem_cons.mpr ⟨fs_zret hC hr d_Md_stored_26, ?_⟩
  exact fun _ h => absurd h List.not_mem_nil
abbrev rm_Md_evolutions : Room := { frames := 0, cells := 0, slots := 0, locals := 0 }
def ws_Md_evolutions : List Cond := .code y_Md_evolutions c_Md_evolutions 1 (some .int) :: TB
abbrev MC_Md_evolutions (κ : fx_K) : List fx_V → fx_S → (Int32 → fx_S → Prop) → Prop := fx_Met κ.1 κ.2.1 vwCl κ.2.2.1 κ.2.2.2 lyM nwl y_Md_evolutions ws_Md_evolutions rm_Md_evolutions true
def tt_Md_evolutions (κ : fx_K) (post : Int32 → fx_S → Prop) : List (Nat × fx_M fx_S) := [(0, fm_loada 0 1),
  (1, fm_get 0 31 4),
  (4, fm_ret post)]
set_option maxHeartbeats 4000000 in
set_option maxRecDepth 100000 in
theorem mo_Md_evolutions {κ : fx_K} (hq : fx_I κ lyM.length) {av : List fx_V} {S : fx_S} {post : Int32 → fx_S → Prop} (hlen : av.length ≤ 1) (body : ∀ J : fx_J fx_S, (∀ r ∈ tt_Md_evolutions κ post, fx_Snd J r.1 r.2) → (∀ pc k ls st S, J pc (ls.take k) st S → J pc ls st S) → J 0 av [] S) : MC_Md_evolutions κ av S post := by
  refine fx_Met_of (cc := c_Md_evolutions) (nL := 1) (ret := (some .int)) (by decide) rfl hq hlen ?_
  intro p e s m args below meth c hC hr hnw
  refine body _ ?_ fx_W_take
  have hF := hC.1
  have hts := hC.1.2.2.2.2
  have hm : ∀ {w : Cond}, w ∈ TB → w.before args s = true := fun h => hts _ (List.mem_cons_of_mem _ h)
  have g133 : ∀ (Q : State → Prop) (pc : Nat), decode c_Md_evolutions pc = .ok (.getfield 133, 3) → fx_Snd (fx_W p κ.1 e rm_Md_evolutions s m args below meth c Q (fx_A κ.2.2.2 lyM.length) 0 0 (fx_P κ.2.1 vwCl κ.2.2.1 κ.2.2.2 lyM) κ.2.2.2 1) pc (fm_get 0 31 (pc + 3)) := fun Q pc hd => fs_get hC (cN := 0) (j := 31) (ci := 7) (C := R_Md) (T := T_Md) (N := 43) rfl rfl rfl (by decide) (fun w h => List.mem_cons_of_mem _ (in_Md w h)) (hm wd_570) hd
  refine List.forall_mem_cons.mpr ⟨fs_loada_n hF d_Md_evolutions_0 rfl, ?_⟩
  refine List.forall_mem_cons.mpr ⟨g133 _ 1 d_Md_evolutions_1, ?_⟩
  refine List.forall_mem_cons.mpr ⟨fs_ret hC hr d_Md_evolutions_4, ?_⟩
  exact fun _ h => absurd h List.not_mem_nil
abbrev rm_Md_cleared : Room := { frames := 0, cells := 0, slots := 0, locals := 0 }
def ws_Md_cleared : List Cond := .code y_Md_cleared c_Md_cleared 1 (some .int) :: TB
abbrev MC_Md_cleared (κ : fx_K) : List fx_V → fx_S → (Int32 → fx_S → Prop) → Prop := fx_Met κ.1 κ.2.1 vwCl κ.2.2.1 κ.2.2.2 lyM nwl y_Md_cleared ws_Md_cleared rm_Md_cleared true
def tt_Md_cleared (κ : fx_K) (post : Int32 → fx_S → Prop) : List (Nat × fx_M fx_S) := [(0, fm_loada 0 1),
  (1, fm_get 0 32 4),
  (4, fm_ret post)]
set_option maxHeartbeats 4000000 in
set_option maxRecDepth 100000 in
theorem mo_Md_cleared {κ : fx_K} (hq : fx_I κ lyM.length) {av : List fx_V} {S : fx_S} {post : Int32 → fx_S → Prop} (hlen : av.length ≤ 1) (body : ∀ J : fx_J fx_S, (∀ r ∈ tt_Md_cleared κ post, fx_Snd J r.1 r.2) → (∀ pc k ls st S, J pc (ls.take k) st S → J pc ls st S) → J 0 av [] S) : MC_Md_cleared κ av S post := by
  refine fx_Met_of (cc := c_Md_cleared) (nL := 1) (ret := (some .int)) (by decide) rfl hq hlen ?_
  intro p e s m args below meth c hC hr hnw
  refine body _ ?_ fx_W_take
  have hF := hC.1
  have hts := hC.1.2.2.2.2
  have hm : ∀ {w : Cond}, w ∈ TB → w.before args s = true := fun h => hts _ (List.mem_cons_of_mem _ h)
  have g136 : ∀ (Q : State → Prop) (pc : Nat), decode c_Md_cleared pc = .ok (.getfield 136, 3) → fx_Snd (fx_W p κ.1 e rm_Md_cleared s m args below meth c Q (fx_A κ.2.2.2 lyM.length) 0 0 (fx_P κ.2.1 vwCl κ.2.2.1 κ.2.2.2 lyM) κ.2.2.2 1) pc (fm_get 0 32 (pc + 3)) := fun Q pc hd => fs_get hC (cN := 0) (j := 32) (ci := 7) (C := R_Md) (T := T_Md) (N := 43) rfl rfl rfl (by decide) (fun w h => List.mem_cons_of_mem _ (in_Md w h)) (hm wd_571) hd
  refine List.forall_mem_cons.mpr ⟨fs_loada_n hF d_Md_cleared_0 rfl, ?_⟩
  refine List.forall_mem_cons.mpr ⟨g136 _ 1 d_Md_cleared_1, ?_⟩
  refine List.forall_mem_cons.mpr ⟨fs_ret hC hr d_Md_cleared_4, ?_⟩
  exact fun _ h => absurd h List.not_mem_nil
abbrev rm_Md_lead : Room := { frames := 0, cells := 0, slots := 0, locals := 0 }
def ws_Md_lead : List Cond := .code y_Md_lead c_Md_lead 1 (some .int) :: TB
abbrev MC_Md_lead (κ : fx_K) : List fx_V → fx_S → (Int32 → fx_S → Prop) → Prop := fx_Met κ.1 κ.2.1 vwCl κ.2.2.1 κ.2.2.2 lyM nwl y_Md_lead ws_Md_lead rm_Md_lead true
def tt_Md_lead (κ : fx_K) (post : Int32 → fx_S → Prop) : List (Nat × fx_M fx_S) := [(0, fm_loada 0 1),
  (1, fm_get 0 33 4),
  (4, fm_ret post)]
set_option maxHeartbeats 4000000 in
set_option maxRecDepth 100000 in
theorem mo_Md_lead {κ : fx_K} (hq : fx_I κ lyM.length) {av : List fx_V} {S : fx_S} {post : Int32 → fx_S → Prop} (hlen : av.length ≤ 1) (body : ∀ J : fx_J fx_S, (∀ r ∈ tt_Md_lead κ post, fx_Snd J r.1 r.2) → (∀ pc k ls st S, J pc (ls.take k) st S → J pc ls st S) → J 0 av [] S) : MC_Md_lead κ av S post := by
  refine fx_Met_of (cc := c_Md_lead) (nL := 1) (ret := (some .int)) (by decide) rfl hq hlen ?_
  intro p e s m args below meth c hC hr hnw
  refine body _ ?_ fx_W_take
  have hF := hC.1
  have hts := hC.1.2.2.2.2
  have hm : ∀ {w : Cond}, w ∈ TB → w.before args s = true := fun h => hts _ (List.mem_cons_of_mem _ h)
  have g139 : ∀ (Q : State → Prop) (pc : Nat), decode c_Md_lead pc = .ok (.getfield 139, 3) → fx_Snd (fx_W p κ.1 e rm_Md_lead s m args below meth c Q (fx_A κ.2.2.2 lyM.length) 0 0 (fx_P κ.2.1 vwCl κ.2.2.1 κ.2.2.2 lyM) κ.2.2.2 1) pc (fm_get 0 33 (pc + 3)) := fun Q pc hd => fs_get hC (cN := 0) (j := 33) (ci := 7) (C := R_Md) (T := T_Md) (N := 43) rfl rfl rfl (by decide) (fun w h => List.mem_cons_of_mem _ (in_Md w h)) (hm wd_572) hd
  refine List.forall_mem_cons.mpr ⟨fs_loada_n hF d_Md_lead_0 rfl, ?_⟩
  refine List.forall_mem_cons.mpr ⟨g139 _ 1 d_Md_lead_1, ?_⟩
  refine List.forall_mem_cons.mpr ⟨fs_ret hC hr d_Md_lead_4, ?_⟩
  exact fun _ h => absurd h List.not_mem_nil
abbrev rm_Md_period : Room := { frames := 0, cells := 0, slots := 0, locals := 0 }
def ws_Md_period : List Cond := .code y_Md_period c_Md_period 1 (some .int) :: TB
abbrev MC_Md_period (κ : fx_K) : List fx_V → fx_S → (Int32 → fx_S → Prop) → Prop := fx_Met κ.1 κ.2.1 vwCl κ.2.2.1 κ.2.2.2 lyM nwl y_Md_period ws_Md_period rm_Md_period true
def tt_Md_period (κ : fx_K) (post : Int32 → fx_S → Prop) : List (Nat × fx_M fx_S) := [(0, fm_loada 0 1),
  (1, fm_get 0 34 4),
  (4, fm_ret post)]
set_option maxHeartbeats 4000000 in
set_option maxRecDepth 100000 in
theorem mo_Md_period {κ : fx_K} (hq : fx_I κ lyM.length) {av : List fx_V} {S : fx_S} {post : Int32 → fx_S → Prop} (hlen : av.length ≤ 1) (body : ∀ J : fx_J fx_S, (∀ r ∈ tt_Md_period κ post, fx_Snd J r.1 r.2) → (∀ pc k ls st S, J pc (ls.take k) st S → J pc ls st S) → J 0 av [] S) : MC_Md_period κ av S post := by
  refine fx_Met_of (cc := c_Md_period) (nL := 1) (ret := (some .int)) (by decide) rfl hq hlen ?_
  intro p e s m args below meth c hC hr hnw
  refine body _ ?_ fx_W_take
  have hF := hC.1
  have hts := hC.1.2.2.2.2
  have hm : ∀ {w : Cond}, w ∈ TB → w.before args s = true := fun h => hts _ (List.mem_cons_of_mem _ h)
  have g142 : ∀ (Q : State → Prop) (pc : Nat), decode c_Md_period pc = .ok (.getfield 142, 3) → fx_Snd (fx_W p κ.1 e rm_Md_period s m args below meth c Q (fx_A κ.2.2.2 lyM.length) 0 0 (fx_P κ.2.1 vwCl κ.2.2.1 κ.2.2.2 lyM) κ.2.2.2 1) pc (fm_get 0 34 (pc + 3)) := fun Q pc hd => fs_get hC (cN := 0) (j := 34) (ci := 7) (C := R_Md) (T := T_Md) (N := 43) rfl rfl rfl (by decide) (fun w h => List.mem_cons_of_mem _ (in_Md w h)) (hm wd_573) hd
  refine List.forall_mem_cons.mpr ⟨fs_loada_n hF d_Md_period_0 rfl, ?_⟩
  refine List.forall_mem_cons.mpr ⟨g142 _ 1 d_Md_period_1, ?_⟩
  refine List.forall_mem_cons.mpr ⟨fs_ret hC hr d_Md_period_4, ?_⟩
  exact fun _ h => absurd h List.not_mem_nil
