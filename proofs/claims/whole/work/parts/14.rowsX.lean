/-! tables of meanings and their soundness, by program -/
abbrev rm_Fc_isLine : Room := { frames := 0, cells := 0, slots := 0, locals := 0 }
def ws_Fc_isLine : List Cond := .code y_Fc_isLine c_Fc_isLine 1 (some .boolean) :: TB
abbrev MC_Fc_isLine (κ : fx_K) : List fx_V → fx_S → (Int32 → fx_S → Prop) → Prop := fx_Met κ.1 κ.2.1 vwCl κ.2.2.1 κ.2.2.2 lyX nwl y_Fc_isLine ws_Fc_isLine rm_Fc_isLine true
def tt_Fc_isLine (κ : fx_K) (post : Int32 → fx_S → Prop) : List (Nat × fx_M fx_S) := [(0, fm_load 0 1),
  (1, fm_iflt 14 4),
  (4, fm_load 0 5),
  (5, fm_const 8 7),
  (7, fm_cmpge 14 10),
  (10, fm_const 1 11),
  (11, fm_goto 15),
  (14, fm_const 0 15),
  (15, fm_zret post)]
set_option maxHeartbeats 4000000 in
set_option maxRecDepth 100000 in
theorem mo_Fc_isLine {κ : fx_K} (hq : fx_I κ lyX.length) {av : List fx_V} {S : fx_S} {post : Int32 → fx_S → Prop} (hlen : av.length ≤ 1) (body : ∀ J : fx_J fx_S, (∀ r ∈ tt_Fc_isLine κ post, fx_Snd J r.1 r.2) → (∀ pc k ls st S, J pc (ls.take k) st S → J pc ls st S) → J 0 av [] S) : MC_Fc_isLine κ av S post := by
  refine fx_Met_of (cc := c_Fc_isLine) (nL := 1) (ret := (some .boolean)) (by decide) rfl hq hlen ?_
  intro p e s m args below meth c hC hr hnw
  refine body _ ?_ fx_W_take
  have hF := hC.1
  have hts := hC.1.2.2.2.2
  have hm : ∀ {w : Cond}, w ∈ TB → w.before args s = true := fun h => hts _ (List.mem_cons_of_mem _ h)
  refine List.forall_mem_cons.mpr ⟨fs_load_n hF d_Fc_isLine_0 rfl, ?_⟩
  refine List.forall_mem_cons.mpr ⟨fs_iflt hF d_Fc_isLine_1 (by decide), ?_⟩
  refine List.forall_mem_cons.mpr ⟨fs_load_n hF d_Fc_isLine_4 rfl, ?_⟩
  refine List.forall_mem_cons.mpr ⟨fs_bipush hF d_Fc_isLine_5 (by decide), ?_⟩
  refine List.forall_mem_cons.mpr ⟨fs_cmpge hF d_Fc_isLine_7 (by decide), ?_⟩
  refine List.forall_mem_cons.mpr ⟨fs_const hF d_Fc_isLine_10 (by decide), ?_⟩
  refine List.forall_mem_cons.mpr ⟨fs_goto hF d_Fc_isLine_11 (by decide), ?_⟩
  refine List.forall_mem_cons.mpr ⟨fs_const hF d_Fc_isLine_14 (by decide), ?_⟩
  refine List.forall_mem_cons.mpr ⟨fs_zret hC hr d_Fc_isLine_15, ?_⟩
  exact fun _ h => absurd h List.not_mem_nil
abbrev rm_Fc_isSpan : Room := { frames := 0, cells := 0, slots := 0, locals := 0 }
def ws_Fc_isSpan : List Cond := .code y_Fc_isSpan c_Fc_isSpan 1 (some .boolean) :: TB
abbrev MC_Fc_isSpan (κ : fx_K) : List fx_V → fx_S → (Int32 → fx_S → Prop) → Prop := fx_Met κ.1 κ.2.1 vwCl κ.2.2.1 κ.2.2.2 lyX nwl y_Fc_isSpan ws_Fc_isSpan rm_Fc_isSpan true
def tt_Fc_isSpan (κ : fx_K) (post : Int32 → fx_S → Prop) : List (Nat × fx_M fx_S) := [(0, fm_load 0 1),
  (1, fm_iflt 14 4),
  (4, fm_load 0 5),
  (5, fm_const 1000000 7),
  (7, fm_cmpgt 14 10),
  (10, fm_const 1 11),
  (11, fm_goto 15),
  (14, fm_const 0 15),
  (15, fm_zret post)]
set_option maxHeartbeats 4000000 in
set_option maxRecDepth 100000 in
theorem mo_Fc_isSpan {κ : fx_K} (hq : fx_I κ lyX.length) {av : List fx_V} {S : fx_S} {post : Int32 → fx_S → Prop} (hlen : av.length ≤ 1) (body : ∀ J : fx_J fx_S, (∀ r ∈ tt_Fc_isSpan κ post, fx_Snd J r.1 r.2) → (∀ pc k ls st S, J pc (ls.take k) st S → J pc ls st S) → J 0 av [] S) : MC_Fc_isSpan κ av S post := by
  refine fx_Met_of (cc := c_Fc_isSpan) (nL := 1) (ret := (some .boolean)) (by decide) rfl hq hlen ?_
  intro p e s m args below meth c hC hr hnw
  refine body _ ?_ fx_W_take
  have hF := hC.1
  have hts := hC.1.2.2.2.2
  have hm : ∀ {w : Cond}, w ∈ TB → w.before args s = true := fun h => hts _ (List.mem_cons_of_mem _ h)
  refine List.forall_mem_cons.mpr ⟨fs_load_n hF d_Fc_isSpan_0 rfl, ?_⟩
  refine List.forall_mem_cons.mpr ⟨fs_iflt hF d_Fc_isSpan_1 (by decide), ?_⟩
  refine List.forall_mem_cons.mpr ⟨fs_load_n hF d_Fc_isSpan_4 rfl, ?_⟩
  refine List.forall_mem_cons.mpr ⟨fs_ldc hF (hm wd_296) d_Fc_isSpan_5, ?_⟩
  refine List.forall_mem_cons.mpr ⟨fs_cmpgt hF d_Fc_isSpan_7 (by decide), ?_⟩
  refine List.forall_mem_cons.mpr ⟨fs_const hF d_Fc_isSpan_10 (by decide), ?_⟩
  refine List.forall_mem_cons.mpr ⟨fs_goto hF d_Fc_isSpan_11 (by decide), ?_⟩
  refine List.forall_mem_cons.mpr ⟨fs_const hF d_Fc_isSpan_14 (by decide), ?_⟩
  refine List.forall_mem_cons.mpr ⟨fs_zret hC hr d_Fc_isSpan_15, ?_⟩
  exact fun _ h => absurd h List.not_mem_nil
abbrev rm_Fc_isIn : Room := { frames := 0, cells := 0, slots := 0, locals := 0 }
def ws_Fc_isIn : List Cond := .code y_Fc_isIn c_Fc_isIn 2 (some .boolean) :: TB
abbrev MC_Fc_isIn (κ : fx_K) : List fx_V → fx_S → (Int32 → fx_S → Prop) → Prop := fx_Met κ.1 κ.2.1 vwCl κ.2.2.1 κ.2.2.2 lyX nwl y_Fc_isIn ws_Fc_isIn rm_Fc_isIn true
def tt_Fc_isIn (κ : fx_K) (post : Int32 → fx_S → Prop) : List (Nat × fx_M fx_S) := [(0, fm_load 1 1),
  (1, fm_load 0 2),
  (2, fm_ishr 3),
  (3, fm_const 1 4),
  (4, fm_iand 5),
  (5, fm_ifeq 12 8),
  (8, fm_const 1 9),
  (9, fm_goto 13),
  (12, fm_const 0 13),
  (13, fm_zret post)]
set_option maxHeartbeats 4000000 in
set_option maxRecDepth 100000 in
theorem mo_Fc_isIn {κ : fx_K} (hq : fx_I κ lyX.length) {av : List fx_V} {S : fx_S} {post : Int32 → fx_S → Prop} (hlen : av.length ≤ 2) (body : ∀ J : fx_J fx_S, (∀ r ∈ tt_Fc_isIn κ post, fx_Snd J r.1 r.2) → (∀ pc k ls st S, J pc (ls.take k) st S → J pc ls st S) → J 0 av [] S) : MC_Fc_isIn κ av S post := by
  refine fx_Met_of (cc := c_Fc_isIn) (nL := 2) (ret := (some .boolean)) (by decide) rfl hq hlen ?_
  intro p e s m args below meth c hC hr hnw
  refine body _ ?_ fx_W_take
  have hF := hC.1
  have hts := hC.1.2.2.2.2
  have hm : ∀ {w : Cond}, w ∈ TB → w.before args s = true := fun h => hts _ (List.mem_cons_of_mem _ h)
  refine List.forall_mem_cons.mpr ⟨fs_load_n hF d_Fc_isIn_0 rfl, ?_⟩
  refine List.forall_mem_cons.mpr ⟨fs_load_n hF d_Fc_isIn_1 rfl, ?_⟩
  refine List.forall_mem_cons.mpr ⟨fs_ishr hF d_Fc_isIn_2, ?_⟩
  refine List.forall_mem_cons.mpr ⟨fs_const hF d_Fc_isIn_3 (by decide), ?_⟩
  refine List.forall_mem_cons.mpr ⟨fs_iand hF d_Fc_isIn_4, ?_⟩
  refine List.forall_mem_cons.mpr ⟨fs_ifeq hF d_Fc_isIn_5 (by decide), ?_⟩
  refine List.forall_mem_cons.mpr ⟨fs_const hF d_Fc_isIn_8 (by decide), ?_⟩
  refine List.forall_mem_cons.mpr ⟨fs_goto hF d_Fc_isIn_9 (by decide), ?_⟩
  refine List.forall_mem_cons.mpr ⟨fs_const hF d_Fc_isIn_12 (by decide), ?_⟩
  refine List.forall_mem_cons.mpr ⟨fs_zret hC hr d_Fc_isIn_13, ?_⟩
  exact fun _ h => absurd h List.not_mem_nil
abbrev rm_St_add : Room := { frames := 0, cells := 0, slots := 0, locals := 0 }
def ws_St_add : List Cond := .code y_St_add c_St_add 4 (some .int) :: TB
abbrev MC_St_add (κ : fx_K) : List fx_V → fx_S → (Int32 → fx_S → Prop) → Prop := fx_Met κ.1 κ.2.1 vwCl κ.2.2.1 κ.2.2.2 lyX nwl y_St_add ws_St_add rm_St_add true
def tt_St_add (κ : fx_K) (post : Int32 → fx_S → Prop) : List (Nat × fx_M fx_S) := [(0, fm_loada 0 1),
  (1, fm_dup 2),
  (2, fm_get 1 2 5),
  (5, fm_dupx1 6),
  (6, fm_const 1 7),
  (7, fm_iadd 8),
  (8, fm_put 1 2 11),
  (11, fm_store 3 12),
  (12, fm_loada 0 13),
  (13, fm_getr 1 8 16),
  (16, fm_load 3 17),
  (17, fm_load 1 18),
  (18, fm_ast lnXI 19),
  (19, fm_loada 0 20),
  (20, fm_getr 1 9 23),
  (23, fm_load 1 24),
  (24, fm_dup2 25),
  (25, fm_ald lnXI 26),
  (26, fm_const 1 27),
  (27, fm_load 3 28),
  (28, fm_ishl 29),
  (29, fm_ior 30),
  (30, fm_ast lnXI 31),
  (31, fm_load 2 32),
  (32, fm_ifeq 47 35),
  (35, fm_loada 0 36),
  (36, fm_dup 37),
  (37, fm_get 1 3 40),
  (40, fm_const 1 41),
  (41, fm_load 3 42),
  (42, fm_ishl 43),
  (43, fm_ior 44),
  (44, fm_put 1 3 47),
  (47, fm_load 3 48),
  (48, fm_ret post)]
set_option maxHeartbeats 4000000 in
set_option maxRecDepth 100000 in
theorem mo_St_add {κ : fx_K} (hq : fx_I κ lyX.length) {av : List fx_V} {S : fx_S} {post : Int32 → fx_S → Prop} (hlen : av.length ≤ 4) (body : ∀ J : fx_J fx_S, (∀ r ∈ tt_St_add κ post, fx_Snd J r.1 r.2) → (∀ pc k ls st S, J pc (ls.take k) st S → J pc ls st S) → J 0 av [] S) : MC_St_add κ av S post := by
  refine fx_Met_of (cc := c_St_add) (nL := 4) (ret := (some .int)) (by decide) rfl hq hlen ?_
  intro p e s m args below meth c hC hr hnw
  refine body _ ?_ fx_W_take
  have hF := hC.1
  have hts := hC.1.2.2.2.2
  have hm : ∀ {w : Cond}, w ∈ TB → w.before args s = true := fun h => hts _ (List.mem_cons_of_mem _ h)
  have g18 : ∀ (Q : State → Prop) (pc : Nat), decode c_St_add pc = .ok (.getfield 18, 3) → fx_Snd (fx_W p κ.1 e rm_St_add s m args below meth c Q (fx_A κ.2.2.2 lyX.length) 0 0 (fx_P κ.2.1 vwCl κ.2.2.1 κ.2.2.2 lyX) κ.2.2.2 4) pc (fm_get 1 2 (pc + 3)) := fun Q pc hd => fs_get hC (cN := 1) (j := 2) (ci := 1) (C := R_St) (T := T_St) (N := 4) rfl rfl rfl (by decide) (fun w h => List.mem_cons_of_mem _ (in_St w h)) (hm wd_59) hd
  have g9 : ∀ (Q : State → Prop) (pc : Nat), decode c_St_add pc = .ok (.getfield 9, 3) → fx_Snd (fx_W p κ.1 e rm_St_add s m args below meth c Q (fx_A κ.2.2.2 lyX.length) 0 0 (fx_P κ.2.1 vwCl κ.2.2.1 κ.2.2.2 lyX) κ.2.2.2 4) pc (fm_getr 1 8 (pc + 3)) := fun Q pc hd => fs_getr hC (cN := 1) (j := 0) (ci := 1) (C := R_St) (T := T_St) (N := 4) rfl rfl rfl (by decide) (fun w h => List.mem_cons_of_mem _ (in_St w h)) (hm wd_55) hd
  have g15 : ∀ (Q : State → Prop) (pc : Nat), decode c_St_add pc = .ok (.getfield 15, 3) → fx_Snd (fx_W p κ.1 e rm_St_add s m args below meth c Q (fx_A κ.2.2.2 lyX.length) 0 0 (fx_P κ.2.1 vwCl κ.2.2.1 κ.2.2.2 lyX) κ.2.2.2 4) pc (fm_getr 1 9 (pc + 3)) := fun Q pc hd => fs_getr hC (cN := 1) (j := 1) (ci := 1) (C := R_St) (T := T_St) (N := 4) rfl rfl rfl (by decide) (fun w h => List.mem_cons_of_mem _ (in_St w h)) (hm wd_57) hd
  have g22 : ∀ (Q : State → Prop) (pc : Nat), decode c_St_add pc = .ok (.getfield 22, 3) → fx_Snd (fx_W p κ.1 e rm_St_add s m args below meth c Q (fx_A κ.2.2.2 lyX.length) 0 0 (fx_P κ.2.1 vwCl κ.2.2.1 κ.2.2.2 lyX) κ.2.2.2 4) pc (fm_get 1 3 (pc + 3)) := fun Q pc hd => fs_get hC (cN := 1) (j := 3) (ci := 1) (C := R_St) (T := T_St) (N := 4) rfl rfl rfl (by decide) (fun w h => List.mem_cons_of_mem _ (in_St w h)) (hm wd_61) hd
  refine List.forall_mem_cons.mpr ⟨fs_loada_n hF d_St_add_0 rfl, ?_⟩
  refine List.forall_mem_cons.mpr ⟨fs_dup hF d_St_add_1, ?_⟩
  refine List.forall_mem_cons.mpr ⟨g18 _ 2 d_St_add_2, ?_⟩
  refine List.forall_mem_cons.mpr ⟨fs_dupx1 hF d_St_add_5, ?_⟩
  refine List.forall_mem_cons.mpr ⟨fs_const hF d_St_add_6 (by decide), ?_⟩
  refine List.forall_mem_cons.mpr ⟨fs_iadd hF d_St_add_7, ?_⟩
  refine List.forall_mem_cons.mpr ⟨fs_put hC (cN := 1) (j := 2) (ci := 1) (C := R_St) (T := T_St) (N := 4) rfl rfl rfl (by decide) ty_St tk_St nm_St rfl (by decide +kernel) (fun w h => List.mem_cons_of_mem _ (in_St w h)) (hm wd_59) d_St_add_8, ?_⟩
  refine List.forall_mem_cons.mpr ⟨fs_store_n hF d_St_add_11 rfl (by decide), ?_⟩
  refine List.forall_mem_cons.mpr ⟨fs_loada_n hF d_St_add_12 rfl, ?_⟩
  refine List.forall_mem_cons.mpr ⟨g9 _ 13 d_St_add_13, ?_⟩
  refine List.forall_mem_cons.mpr ⟨fs_load_n hF d_St_add_16 rfl, ?_⟩
  refine List.forall_mem_cons.mpr ⟨fs_load_n hF d_St_add_17 rfl, ?_⟩
  refine List.forall_mem_cons.mpr ⟨fs_ast hC lkXI d_St_add_18, ?_⟩
  refine List.forall_mem_cons.mpr ⟨fs_loada_n hF d_St_add_19 rfl, ?_⟩
  refine List.forall_mem_cons.mpr ⟨g15 _ 20 d_St_add_20, ?_⟩
  refine List.forall_mem_cons.mpr ⟨fs_load_n hF d_St_add_23 rfl, ?_⟩
  refine List.forall_mem_cons.mpr ⟨fs_dup2 hF d_St_add_24, ?_⟩
  refine List.forall_mem_cons.mpr ⟨fs_ald hC lkXI d_St_add_25, ?_⟩
  refine List.forall_mem_cons.mpr ⟨fs_const hF d_St_add_26 (by decide), ?_⟩
  refine List.forall_mem_cons.mpr ⟨fs_load_n hF d_St_add_27 rfl, ?_⟩
  refine List.forall_mem_cons.mpr ⟨fs_ishl hF d_St_add_28, ?_⟩
  refine List.forall_mem_cons.mpr ⟨fs_ior hF d_St_add_29, ?_⟩
  refine List.forall_mem_cons.mpr ⟨fs_ast hC lkXI d_St_add_30, ?_⟩
  refine List.forall_mem_cons.mpr ⟨fs_load_n hF d_St_add_31 rfl, ?_⟩
  refine List.forall_mem_cons.mpr ⟨fs_ifeq hF d_St_add_32 (by decide), ?_⟩
  refine List.forall_mem_cons.mpr ⟨fs_loada_n hF d_St_add_35 rfl, ?_⟩
  refine List.forall_mem_cons.mpr ⟨fs_dup hF d_St_add_36, ?_⟩
  refine List.forall_mem_cons.mpr ⟨g22 _ 37 d_St_add_37, ?_⟩
  refine List.forall_mem_cons.mpr ⟨fs_const hF d_St_add_40 (by decide), ?_⟩
  refine List.forall_mem_cons.mpr ⟨fs_load_n hF d_St_add_41 rfl, ?_⟩
  refine List.forall_mem_cons.mpr ⟨fs_ishl hF d_St_add_42, ?_⟩
  refine List.forall_mem_cons.mpr ⟨fs_ior hF d_St_add_43, ?_⟩
  refine List.forall_mem_cons.mpr ⟨fs_put hC (cN := 1) (j := 3) (ci := 1) (C := R_St) (T := T_St) (N := 4) rfl rfl rfl (by decide) ty_St tk_St nm_St rfl (by decide +kernel) (fun w h => List.mem_cons_of_mem _ (in_St w h)) (hm wd_61) d_St_add_44, ?_⟩
  refine List.forall_mem_cons.mpr ⟨fs_load_n hF d_St_add_47 rfl, ?_⟩
  refine List.forall_mem_cons.mpr ⟨fs_ret hC hr d_St_add_48, ?_⟩
  exact fun _ h => absurd h List.not_mem_nil
abbrev rm_St_has : Room := { frames := 0, cells := 0, slots := 0, locals := 0 }
def ws_St_has : List Cond := .code y_St_has c_St_has 2 (some .boolean) :: TB
abbrev MC_St_has (κ : fx_K) : List fx_V → fx_S → (Int32 → fx_S → Prop) → Prop := fx_Met κ.1 κ.2.1 vwCl κ.2.2.1 κ.2.2.2 lyX nwl y_St_has ws_St_has rm_St_has true
def tt_St_has (κ : fx_K) (post : Int32 → fx_S → Prop) : List (Nat × fx_M fx_S) := [(0, fm_load 1 1),
  (1, fm_iflt 16 4),
  (4, fm_load 1 5),
  (5, fm_loada 0 6),
  (6, fm_get 1 2 9),
  (9, fm_cmpge 16 12),
  (12, fm_const 1 13),
  (13, fm_goto 17),
  (16, fm_const 0 17),
  (17, fm_zret post)]
set_option maxHeartbeats 4000000 in
set_option maxRecDepth 100000 in
theorem mo_St_has {κ : fx_K} (hq : fx_I κ lyX.length) {av : List fx_V} {S : fx_S} {post : Int32 → fx_S → Prop} (hlen : av.length ≤ 2) (body : ∀ J : fx_J fx_S, (∀ r ∈ tt_St_has κ post, fx_Snd J r.1 r.2) → (∀ pc k ls st S, J pc (ls.take k) st S → J pc ls st S) → J 0 av [] S) : MC_St_has κ av S post := by
  refine fx_Met_of (cc := c_St_has) (nL := 2) (ret := (some .boolean)) (by decide) rfl hq hlen ?_
  intro p e s m args below meth c hC hr hnw
  refine body _ ?_ fx_W_take
  have hF := hC.1
  have hts := hC.1.2.2.2.2
  have hm : ∀ {w : Cond}, w ∈ TB → w.before args s = true := fun h => hts _ (List.mem_cons_of_mem _ h)
  have g18 : ∀ (Q : State → Prop) (pc : Nat), decode c_St_has pc = .ok (.getfield 18, 3) → fx_Snd (fx_W p κ.1 e rm_St_has s m args below meth c Q (fx_A κ.2.2.2 lyX.length) 0 0 (fx_P κ.2.1 vwCl κ.2.2.1 κ.2.2.2 lyX) κ.2.2.2 2) pc (fm_get 1 2 (pc + 3)) := fun Q pc hd => fs_get hC (cN := 1) (j := 2) (ci := 1) (C := R_St) (T := T_St) (N := 4) rfl rfl rfl (by decide) (fun w h => List.mem_cons_of_mem _ (in_St w h)) (hm wd_59) hd
  refine List.forall_mem_cons.mpr ⟨fs_load_n hF d_St_has_0 rfl, ?_⟩
  refine List.forall_mem_cons.mpr ⟨fs_iflt hF d_St_has_1 (by decide), ?_⟩
  refine List.forall_mem_cons.mpr ⟨fs_load_n hF d_St_has_4 rfl, ?_⟩
  refine List.forall_mem_cons.mpr ⟨fs_loada_n hF d_St_has_5 rfl, ?_⟩
  refine List.forall_mem_cons.mpr ⟨g18 _ 6 d_St_has_6, ?_⟩
  refine List.forall_mem_cons.mpr ⟨fs_cmpge hF d_St_has_9 (by decide), ?_⟩
  refine List.forall_mem_cons.mpr ⟨fs_const hF d_St_has_12 (by decide), ?_⟩
  refine List.forall_mem_cons.mpr ⟨fs_goto hF d_St_has_13 (by decide), ?_⟩
  refine List.forall_mem_cons.mpr ⟨fs_const hF d_St_has_16 (by decide), ?_⟩
  refine List.forall_mem_cons.mpr ⟨fs_zret hC hr d_St_has_17, ?_⟩
  exact fun _ h => absurd h List.not_mem_nil
abbrev rm_St_all : Room := { frames := 0, cells := 0, slots := 0, locals := 0 }
def ws_St_all : List Cond := .code y_St_all c_St_all 1 (some .int) :: TB
abbrev MC_St_all (κ : fx_K) : List fx_V → fx_S → (Int32 → fx_S → Prop) → Prop := fx_Met κ.1 κ.2.1 vwCl κ.2.2.1 κ.2.2.2 lyX nwl y_St_all ws_St_all rm_St_all true
def tt_St_all (κ : fx_K) (post : Int32 → fx_S → Prop) : List (Nat × fx_M fx_S) := [(0, fm_const 1 1),
  (1, fm_loada 0 2),
  (2, fm_get 1 2 5),
  (5, fm_ishl 6),
  (6, fm_const 1 7),
  (7, fm_isub 8),
  (8, fm_ret post)]
set_option maxHeartbeats 4000000 in
set_option maxRecDepth 100000 in
theorem mo_St_all {κ : fx_K} (hq : fx_I κ lyX.length) {av : List fx_V} {S : fx_S} {post : Int32 → fx_S → Prop} (hlen : av.length ≤ 1) (body : ∀ J : fx_J fx_S, (∀ r ∈ tt_St_all κ post, fx_Snd J r.1 r.2) → (∀ pc k ls st S, J pc (ls.take k) st S → J pc ls st S) → J 0 av [] S) : MC_St_all κ av S post := by
  refine fx_Met_of (cc := c_St_all) (nL := 1) (ret := (some .int)) (by decide) rfl hq hlen ?_
  intro p e s m args below meth c hC hr hnw
  refine body _ ?_ fx_W_take
  have hF := hC.1
  have hts := hC.1.2.2.2.2
  have hm : ∀ {w : Cond}, w ∈ TB → w.before args s = true := fun h => hts _ (List.mem_cons_of_mem _ h)
  have g18 : ∀ (Q : State → Prop) (pc : Nat), decode c_St_all pc = .ok (.getfield 18, 3) → fx_Snd (fx_W p κ.1 e rm_St_all s m args below meth c Q (fx_A κ.2.2.2 lyX.length) 0 0 (fx_P κ.2.1 vwCl κ.2.2.1 κ.2.2.2 lyX) κ.2.2.2 1) pc (fm_get 1 2 (pc + 3)) := fun Q pc hd => fs_get hC (cN := 1) (j := 2) (ci := 1) (C := R_St) (T := T_St) (N := 4) rfl rfl rfl (by decide) (fun w h => List.mem_cons_of_mem _ (in_St w h)) (hm wd_59) hd
  refine List.forall_mem_cons.mpr ⟨fs_const hF d_St_all_0 (by decide), ?_⟩
  refine List.forall_mem_cons.mpr ⟨fs_loada_n hF d_St_all_1 rfl, ?_⟩
  refine List.forall_mem_cons.mpr ⟨g18 _ 2 d_St_all_2, ?_⟩
  refine List.forall_mem_cons.mpr ⟨fs_ishl hF d_St_all_5, ?_⟩
  refine List.forall_mem_cons.mpr ⟨fs_const hF d_St_all_6 (by decide), ?_⟩
  refine List.forall_mem_cons.mpr ⟨fs_isub hF d_St_all_7, ?_⟩
  refine List.forall_mem_cons.mpr ⟨fs_ret hC hr d_St_all_8, ?_⟩
  exact fun _ h => absurd h List.not_mem_nil
abbrev rm_St_partWithAll : Room := { frames := 0, cells := 0, slots := 0, locals := 0 }
def ws_St_partWithAll : List Cond := .code y_St_partWithAll c_St_partWithAll 3 (some .int) :: TB
abbrev MC_St_partWithAll (κ : fx_K) : List fx_V → fx_S → (Int32 → fx_S → Prop) → Prop := fx_Met κ.1 κ.2.1 vwCl κ.2.2.1 κ.2.2.2 lyX nwl y_St_partWithAll ws_St_partWithAll rm_St_partWithAll true
def tt_St_partWithAll (κ : fx_K) (post : Int32 → fx_S → Prop) : List (Nat × fx_M fx_S) := [(0, fm_const 0 1),
  (1, fm_store 2 2),
  (2, fm_load 2 3),
  (3, fm_const 3 4),
  (4, fm_cmpge 28 7),
  (7, fm_load 1 8),
  (8, fm_loada 0 9),
  (9, fm_getr 1 9 12),
  (12, fm_load 2 13),
  (13, fm_ald lnXI 14),
  (14, fm_const (-1) 15),
  (15, fm_ixor 16),
  (16, fm_iand 17),
  (17, fm_ifne 22 20),
  (20, fm_load 2 21),
  (21, fm_ret post),
  (22, fm_inc 2 1 25),
  (25, fm_goto 2),
  (28, fm_const (-1) 29),
  (29, fm_ret post)]
set_option maxHeartbeats 4000000 in
set_option maxRecDepth 100000 in
theorem mo_St_partWithAll {κ : fx_K} (hq : fx_I κ lyX.length) {av : List fx_V} {S : fx_S} {post : Int32 → fx_S → Prop} (hlen : av.length ≤ 3) (body : ∀ J : fx_J fx_S, (∀ r ∈ tt_St_partWithAll κ post, fx_Snd J r.1 r.2) → (∀ pc k ls st S, J pc (ls.take k) st S → J pc ls st S) → J 0 av [] S) : MC_St_partWithAll κ av S post := by
  refine fx_Met_of (cc := c_St_partWithAll) (nL := 3) (ret := (some .int)) (by decide) rfl hq hlen ?_
  intro p e s m args below meth c hC hr hnw
  refine body _ ?_ fx_W_take
  have hF := hC.1
  have hts := hC.1.2.2.2.2
  have hm : ∀ {w : Cond}, w ∈ TB → w.before args s = true := fun h => hts _ (List.mem_cons_of_mem _ h)
  have g15 : ∀ (Q : State → Prop) (pc : Nat), decode c_St_partWithAll pc = .ok (.getfield 15, 3) → fx_Snd (fx_W p κ.1 e rm_St_partWithAll s m args below meth c Q (fx_A κ.2.2.2 lyX.length) 0 0 (fx_P κ.2.1 vwCl κ.2.2.1 κ.2.2.2 lyX) κ.2.2.2 3) pc (fm_getr 1 9 (pc + 3)) := fun Q pc hd => fs_getr hC (cN := 1) (j := 1) (ci := 1) (C := R_St) (T := T_St) (N := 4) rfl rfl rfl (by decide) (fun w h => List.mem_cons_of_mem _ (in_St w h)) (hm wd_57) hd
  refine List.forall_mem_cons.mpr ⟨fs_const hF d_St_partWithAll_0 (by decide), ?_⟩
  refine List.forall_mem_cons.mpr ⟨fs_store_n hF d_St_partWithAll_1 rfl (by decide), ?_⟩
  refine List.forall_mem_cons.mpr ⟨fs_load_n hF d_St_partWithAll_2 rfl, ?_⟩
  refine List.forall_mem_cons.mpr ⟨fs_const hF d_St_partWithAll_3 (by decide), ?_⟩
  refine List.forall_mem_cons.mpr ⟨fs_cmpge hF d_St_partWithAll_4 (by decide), ?_⟩
  refine List.forall_mem_cons.mpr ⟨fs_load_n hF d_St_partWithAll_7 rfl, ?_⟩
  refine List.forall_mem_cons.mpr ⟨fs_loada_n hF d_St_partWithAll_8 rfl, ?_⟩
  refine List.forall_mem_cons.mpr ⟨g15 _ 9 d_St_partWithAll_9, ?_⟩
  refine List.forall_mem_cons.mpr ⟨fs_load_n hF d_St_partWithAll_12 rfl, ?_⟩
  refine List.forall_mem_cons.mpr ⟨fs_ald hC lkXI d_St_partWithAll_13, ?_⟩
  refine List.forall_mem_cons.mpr ⟨fs_const hF d_St_partWithAll_14 (by decide), ?_⟩
  refine List.forall_mem_cons.mpr ⟨fs_ixor hF d_St_partWithAll_15, ?_⟩
  refine List.forall_mem_cons.mpr ⟨fs_iand hF d_St_partWithAll_16, ?_⟩
  refine List.forall_mem_cons.mpr ⟨fs_ifne hF d_St_partWithAll_17 (by decide), ?_⟩
  refine List.forall_mem_cons.mpr ⟨fs_load_n hF d_St_partWithAll_20 rfl, ?_⟩
  refine List.forall_mem_cons.mpr ⟨fs_ret hC hr d_St_partWithAll_21, ?_⟩
  refine List.forall_mem_cons.mpr ⟨fs_inc hF d_St_partWithAll_22 (by decide) (by decide), ?_⟩
  refine List.forall_mem_cons.mpr ⟨fs_goto hF d_St_partWithAll_25 (by decide), ?_⟩
  refine List.forall_mem_cons.mpr ⟨fs_const hF d_St_partWithAll_28 (by decide), ?_⟩
  refine List.forall_mem_cons.mpr ⟨fs_ret hC hr d_St_partWithAll_29, ?_⟩
  exact fun _ h => absurd h List.not_mem_nil
abbrev rm_Ti_begin : Room := { frames := 1, cells := 0, slots := 0, locals := 21 }
def ws_Ti_begin : List Cond := .code y_Ti_begin c_Ti_begin 5 none :: TB
abbrev MC_Ti_begin (κ : fx_K) : List fx_V → fx_S → (Int32 → fx_S → Prop) → Prop := fx_Met κ.1 κ.2.1 vwCl κ.2.2.1 κ.2.2.2 lyX nwl y_Ti_begin ws_Ti_begin rm_Ti_begin false
def tt_Ti_begin (κ : fx_K) (post : Int32 → fx_S → Prop) : List (Nat × fx_M fx_S) := [(0, fm_loada 0 1),
  (1, fm_load 1 2),
  (2, fm_put 6 5 5),
  (5, fm_loada 0 6),
  (6, fm_const 0 7),
  (7, fm_put 6 6 10),
  (10, fm_const 0 11),
  (11, fm_store 4 13),
  (13, fm_load 4 15),
  (15, fm_const 8 17),
  (17, fm_cmpge 74 20),
  (20, fm_loada 0 21),
  (21, fm_getr 6 26 24),
  (24, fm_load 4 26),
  (26, fm_loada 2 27),
  (27, fm_load 4 29),
  (29, fm_ald lnXI 30),
  (30, fm_load 3 31),
  (31, fm_iadd 32),
  (32, fm_ast lnXI 33),
  (33, fm_load 4 35),
  (35, fm_loada 0 36),
  (36, fm_get 6 5 39),
  (39, fm_calls true 2 (MC_Fc_isIn κ) 42),
  (42, fm_ifeq 68 45),
  (45, fm_loada 0 46),
  (46, fm_getr 6 26 49),
  (49, fm_load 4 51),
  (51, fm_ald lnXI 52),
  (52, fm_ifeq 68 55),
  (55, fm_loada 0 56),
  (56, fm_dup 57),
  (57, fm_get 6 6 60),
  (60, fm_const 1 61),
  (61, fm_load 4 63),
  (63, fm_ishl 64),
  (64, fm_ior 65),
  (65, fm_put 6 6 68),
  (68, fm_inc 4 1 71),
  (71, fm_goto 13),
  (74, fm_loada 0 75),
  (75, fm_const 0 76),
  (76, fm_put 6 7 79),
  (79, fm_loada 0 80),
  (80, fm_const 0 81),
  (81, fm_put 6 8 84),
  (84, fm_loada 0 85),
  (85, fm_const 0 86),
  (86, fm_put 6 9 89),
  (89, fm_loada 0 90),
  (90, fm_const 0 91),
  (91, fm_put 6 10 94),
  (94, fm_vret post)]
set_option maxHeartbeats 4000000 in
set_option maxRecDepth 100000 in
theorem mo_Ti_begin {κ : fx_K} (hq : fx_I κ lyX.length) {av : List fx_V} {S : fx_S} {post : Int32 → fx_S → Prop} (hlen : av.length ≤ 5) (body : ∀ J : fx_J fx_S, (∀ r ∈ tt_Ti_begin κ post, fx_Snd J r.1 r.2) → (∀ pc k ls st S, J pc (ls.take k) st S → J pc ls st S) → J 0 av [] S) : MC_Ti_begin κ av S post := by
  refine fx_Met_of (cc := c_Ti_begin) (nL := 5) (ret := none) (by decide) rfl hq hlen ?_
  intro p e s m args below meth c hC hr hnw
  refine body _ ?_ fx_W_take
  have hF := hC.1
  have hts := hC.1.2.2.2.2
  have hm : ∀ {w : Cond}, w ∈ TB → w.before args s = true := fun h => hts _ (List.mem_cons_of_mem _ h)
  have g9 : ∀ (Q : State → Prop) (pc : Nat), decode c_Ti_begin pc = .ok (.getfield 9, 3) → fx_Snd (fx_W p κ.1 e rm_Ti_begin s m args below meth c Q (fx_A κ.2.2.2 lyX.length) 0 0 (fx_P κ.2.1 vwCl κ.2.2.1 κ.2.2.2 lyX) κ.2.2.2 5) pc (fm_getr 6 26 (pc + 3)) := fun Q pc hd => fs_getr hC (cN := 6) (j := 0) (ci := 6) (C := R_Ti) (T := T_Ti) (N := 11) rfl rfl rfl (by decide) (fun w h => List.mem_cons_of_mem _ (in_Ti w h)) (hm wd_175) hd
  have g18 : ∀ (Q : State → Prop) (pc : Nat), decode c_Ti_begin pc = .ok (.getfield 18, 3) → fx_Snd (fx_W p κ.1 e rm_Ti_begin s m args below meth c Q (fx_A κ.2.2.2 lyX.length) 0 0 (fx_P κ.2.1 vwCl κ.2.2.1 κ.2.2.2 lyX) κ.2.2.2 5) pc (fm_get 6 5 (pc + 3)) := fun Q pc hd => fs_get hC (cN := 6) (j := 5) (ci := 6) (C := R_Ti) (T := T_Ti) (N := 11) rfl rfl rfl (by decide) (fun w h => List.mem_cons_of_mem _ (in_Ti w h)) (hm wd_183) hd
  have g22 : ∀ (Q : State → Prop) (pc : Nat), decode c_Ti_begin pc = .ok (.getfield 22, 3) → fx_Snd (fx_W p κ.1 e rm_Ti_begin s m args below meth c Q (fx_A κ.2.2.2 lyX.length) 0 0 (fx_P κ.2.1 vwCl κ.2.2.1 κ.2.2.2 lyX) κ.2.2.2 5) pc (fm_get 6 6 (pc + 3)) := fun Q pc hd => fs_get hC (cN := 6) (j := 6) (ci := 6) (C := R_Ti) (T := T_Ti) (N := 11) rfl rfl rfl (by decide) (fun w h => List.mem_cons_of_mem _ (in_Ti w h)) (hm wd_186) hd
  refine List.forall_mem_cons.mpr ⟨fs_loada_n hF d_Ti_begin_0 rfl, ?_⟩
  refine List.forall_mem_cons.mpr ⟨fs_load_n hF d_Ti_begin_1 rfl, ?_⟩
  refine List.forall_mem_cons.mpr ⟨fs_put hC (cN := 6) (j := 5) (ci := 6) (C := R_Ti) (T := T_Ti) (N := 11) rfl rfl rfl (by decide) ty_Ti tk_Ti nm_Ti rfl (by decide +kernel) (fun w h => List.mem_cons_of_mem _ (in_Ti w h)) (hm wd_183) d_Ti_begin_2, ?_⟩
  refine List.forall_mem_cons.mpr ⟨fs_loada_n hF d_Ti_begin_5 rfl, ?_⟩
  refine List.forall_mem_cons.mpr ⟨fs_const hF d_Ti_begin_6 (by decide), ?_⟩
  refine List.forall_mem_cons.mpr ⟨fs_put hC (cN := 6) (j := 6) (ci := 6) (C := R_Ti) (T := T_Ti) (N := 11) rfl rfl rfl (by decide) ty_Ti tk_Ti nm_Ti rfl (by decide +kernel) (fun w h => List.mem_cons_of_mem _ (in_Ti w h)) (hm wd_186) d_Ti_begin_7, ?_⟩
  refine List.forall_mem_cons.mpr ⟨fs_const hF d_Ti_begin_10 (by decide), ?_⟩
  refine List.forall_mem_cons.mpr ⟨fs_store hF d_Ti_begin_11 (by decide), ?_⟩
  refine List.forall_mem_cons.mpr ⟨fs_load hF d_Ti_begin_13, ?_⟩
  refine List.forall_mem_cons.mpr ⟨fs_bipush hF d_Ti_begin_15 (by decide), ?_⟩
  refine List.forall_mem_cons.mpr ⟨fs_cmpge hF d_Ti_begin_17 (by decide), ?_⟩
  refine List.forall_mem_cons.mpr ⟨fs_loada_n hF d_Ti_begin_20 rfl, ?_⟩
  refine List.forall_mem_cons.mpr ⟨g9 _ 21 d_Ti_begin_21, ?_⟩
  refine List.forall_mem_cons.mpr ⟨fs_load hF d_Ti_begin_24, ?_⟩
  refine List.forall_mem_cons.mpr ⟨fs_loada_n hF d_Ti_begin_26 rfl, ?_⟩
  refine List.forall_mem_cons.mpr ⟨fs_load hF d_Ti_begin_27, ?_⟩
  refine List.forall_mem_cons.mpr ⟨fs_ald hC lkXI d_Ti_begin_29, ?_⟩
  refine List.forall_mem_cons.mpr ⟨fs_load_n hF d_Ti_begin_30 rfl, ?_⟩
  refine List.forall_mem_cons.mpr ⟨fs_iadd hF d_Ti_begin_31, ?_⟩
  refine List.forall_mem_cons.mpr ⟨fs_ast hC lkXI d_Ti_begin_32, ?_⟩
  refine List.forall_mem_cons.mpr ⟨fs_load hF d_Ti_begin_33, ?_⟩
  refine List.forall_mem_cons.mpr ⟨fs_loada_n hF d_Ti_begin_35 rfl, ?_⟩
  refine List.forall_mem_cons.mpr ⟨g18 _ 36 d_Ti_begin_36, ?_⟩
  refine List.forall_mem_cons.mpr ⟨fs_callSN hC nwl_ok hnw ⟨va_cnB 2 hts (tb_good wd_369) rfl rfl rfl (hnw _ (List.mem_of_getElem? (i := 28) rfl)) (hm wd_32) pd_Fc_isIn ⟨Nat.le_of_ble_eq_true rfl, Nat.le_of_ble_eq_true rfl⟩, hm wd_368⟩ d_Ti_begin_39, ?_⟩
  refine List.forall_mem_cons.mpr ⟨fs_ifeq hF d_Ti_begin_42 (by decide), ?_⟩
  refine List.forall_mem_cons.mpr ⟨fs_loada_n hF d_Ti_begin_45 rfl, ?_⟩
  refine List.forall_mem_cons.mpr ⟨g9 _ 46 d_Ti_begin_46, ?_⟩
  refine List.forall_mem_cons.mpr ⟨fs_load hF d_Ti_begin_49, ?_⟩
  refine List.forall_mem_cons.mpr ⟨fs_ald hC lkXI d_Ti_begin_51, ?_⟩
  refine List.forall_mem_cons.mpr ⟨fs_ifeq hF d_Ti_begin_52 (by decide), ?_⟩
  refine List.forall_mem_cons.mpr ⟨fs_loada_n hF d_Ti_begin_55 rfl, ?_⟩
  refine List.forall_mem_cons.mpr ⟨fs_dup hF d_Ti_begin_56, ?_⟩
  refine List.forall_mem_cons.mpr ⟨g22 _ 57 d_Ti_begin_57, ?_⟩
  refine List.forall_mem_cons.mpr ⟨fs_const hF d_Ti_begin_60 (by decide), ?_⟩
  refine List.forall_mem_cons.mpr ⟨fs_load hF d_Ti_begin_61, ?_⟩
  refine List.forall_mem_cons.mpr ⟨fs_ishl hF d_Ti_begin_63, ?_⟩
  refine List.forall_mem_cons.mpr ⟨fs_ior hF d_Ti_begin_64, ?_⟩
  refine List.forall_mem_cons.mpr ⟨fs_put hC (cN := 6) (j := 6) (ci := 6) (C := R_Ti) (T := T_Ti) (N := 11) rfl rfl rfl (by decide) ty_Ti tk_Ti nm_Ti rfl (by decide +kernel) (fun w h => List.mem_cons_of_mem _ (in_Ti w h)) (hm wd_186) d_Ti_begin_65, ?_⟩
  refine List.forall_mem_cons.mpr ⟨fs_inc hF d_Ti_begin_68 (by decide) (by decide), ?_⟩
  refine List.forall_mem_cons.mpr ⟨fs_goto hF d_Ti_begin_71 (by decide), ?_⟩
  refine List.forall_mem_cons.mpr ⟨fs_loada_n hF d_Ti_begin_74 rfl, ?_⟩
  refine List.forall_mem_cons.mpr ⟨fs_const hF d_Ti_begin_75 (by decide), ?_⟩
  refine List.forall_mem_cons.mpr ⟨fs_put hC (cN := 6) (j := 7) (ci := 6) (C := R_Ti) (T := T_Ti) (N := 11) rfl rfl rfl (by decide) ty_Ti tk_Ti nm_Ti rfl (by decide +kernel) (fun w h => List.mem_cons_of_mem _ (in_Ti w h)) (hm wd_187) d_Ti_begin_76, ?_⟩
  refine List.forall_mem_cons.mpr ⟨fs_loada_n hF d_Ti_begin_79 rfl, ?_⟩
  refine List.forall_mem_cons.mpr ⟨fs_const hF d_Ti_begin_80 (by decide), ?_⟩
  refine List.forall_mem_cons.mpr ⟨fs_put hC (cN := 6) (j := 8) (ci := 6) (C := R_Ti) (T := T_Ti) (N := 11) rfl rfl rfl (by decide) ty_Ti tk_Ti nm_Ti rfl (by decide +kernel) (fun w h => List.mem_cons_of_mem _ (in_Ti w h)) (hm wd_189) d_Ti_begin_81, ?_⟩
  refine List.forall_mem_cons.mpr ⟨fs_loada_n hF d_Ti_begin_84 rfl, ?_⟩
  refine List.forall_mem_cons.mpr ⟨fs_const hF d_Ti_begin_85 (by decide), ?_⟩
  refine List.forall_mem_cons.mpr ⟨fs_put hC (cN := 6) (j := 9) (ci := 6) (C := R_Ti) (T := T_Ti) (N := 11) rfl rfl rfl (by decide) ty_Ti tk_Ti nm_Ti rfl (by decide +kernel) (fun w h => List.mem_cons_of_mem _ (in_Ti w h)) (hm wd_191) d_Ti_begin_86, ?_⟩
  refine List.forall_mem_cons.mpr ⟨fs_loada_n hF d_Ti_begin_89 rfl, ?_⟩
  refine List.forall_mem_cons.mpr ⟨fs_const hF d_Ti_begin_90 (by decide), ?_⟩
  refine List.forall_mem_cons.mpr ⟨fs_put hC (cN := 6) (j := 10) (ci := 6) (C := R_Ti) (T := T_Ti) (N := 11) rfl rfl rfl (by decide) ty_Ti tk_Ti nm_Ti rfl (by decide +kernel) (fun w h => List.mem_cons_of_mem _ (in_Ti w h)) (hm wd_193) d_Ti_begin_91, ?_⟩
  refine List.forall_mem_cons.mpr ⟨fs_vret hC hr d_Ti_begin_94, ?_⟩
  exact fun _ h => absurd h List.not_mem_nil
abbrev rm_Ti_sense : Room := { frames := 0, cells := 0, slots := 0, locals := 0 }
def ws_Ti_sense : List Cond := .code y_Ti_sense c_Ti_sense 3 none :: TB
abbrev MC_Ti_sense (κ : fx_K) : List fx_V → fx_S → (Int32 → fx_S → Prop) → Prop := fx_Met κ.1 κ.2.1 vwCl κ.2.2.1 κ.2.2.2 lyX nwl y_Ti_sense ws_Ti_sense rm_Ti_sense false
def tt_Ti_sense (κ : fx_K) (post : Int32 → fx_S → Prop) : List (Nat × fx_M fx_S) := [(0, fm_loada 0 1),
  (1, fm_load 2 2),
  (2, fm_put 6 2 5),
  (5, fm_loada 0 6),
  (6, fm_load 2 7),
  (7, fm_load 1 8),
  (8, fm_const (-1) 9),
  (9, fm_ixor 10),
  (10, fm_iand 11),
  (11, fm_put 6 3 14),
  (14, fm_loada 0 15),
  (15, fm_load 1 16),
  (16, fm_load 2 17),
  (17, fm_const (-1) 18),
  (18, fm_ixor 19),
  (19, fm_iand 20),
  (20, fm_put 6 4 23),
  (23, fm_vret post)]
set_option maxHeartbeats 4000000 in
set_option maxRecDepth 100000 in
theorem mo_Ti_sense {κ : fx_K} (hq : fx_I κ lyX.length) {av : List fx_V} {S : fx_S} {post : Int32 → fx_S → Prop} (hlen : av.length ≤ 3) (body : ∀ J : fx_J fx_S, (∀ r ∈ tt_Ti_sense κ post, fx_Snd J r.1 r.2) → (∀ pc k ls st S, J pc (ls.take k) st S → J pc ls st S) → J 0 av [] S) : MC_Ti_sense κ av S post := by
  refine fx_Met_of (cc := c_Ti_sense) (nL := 3) (ret := none) (by decide) rfl hq hlen ?_
  intro p e s m args below meth c hC hr hnw
  refine body _ ?_ fx_W_take
  have hF := hC.1
  have hts := hC.1.2.2.2.2
  have hm : ∀ {w : Cond}, w ∈ TB → w.before args s = true := fun h => hts _ (List.mem_cons_of_mem _ h)
  refine List.forall_mem_cons.mpr ⟨fs_loada_n hF d_Ti_sense_0 rfl, ?_⟩
  refine List.forall_mem_cons.mpr ⟨fs_load_n hF d_Ti_sense_1 rfl, ?_⟩
  refine List.forall_mem_cons.mpr ⟨fs_put hC (cN := 6) (j := 2) (ci := 6) (C := R_Ti) (T := T_Ti) (N := 11) rfl rfl rfl (by decide) ty_Ti tk_Ti nm_Ti rfl (by decide +kernel) (fun w h => List.mem_cons_of_mem _ (in_Ti w h)) (hm wd_177) d_Ti_sense_2, ?_⟩
  refine List.forall_mem_cons.mpr ⟨fs_loada_n hF d_Ti_sense_5 rfl, ?_⟩
  refine List.forall_mem_cons.mpr ⟨fs_load_n hF d_Ti_sense_6 rfl, ?_⟩
  refine List.forall_mem_cons.mpr ⟨fs_load_n hF d_Ti_sense_7 rfl, ?_⟩
  refine List.forall_mem_cons.mpr ⟨fs_const hF d_Ti_sense_8 (by decide), ?_⟩
  refine List.forall_mem_cons.mpr ⟨fs_ixor hF d_Ti_sense_9, ?_⟩
  refine List.forall_mem_cons.mpr ⟨fs_iand hF d_Ti_sense_10, ?_⟩
  refine List.forall_mem_cons.mpr ⟨fs_put hC (cN := 6) (j := 3) (ci := 6) (C := R_Ti) (T := T_Ti) (N := 11) rfl rfl rfl (by decide) ty_Ti tk_Ti nm_Ti rfl (by decide +kernel) (fun w h => List.mem_cons_of_mem _ (in_Ti w h)) (hm wd_179) d_Ti_sense_11, ?_⟩
  refine List.forall_mem_cons.mpr ⟨fs_loada_n hF d_Ti_sense_14 rfl, ?_⟩
  refine List.forall_mem_cons.mpr ⟨fs_load_n hF d_Ti_sense_15 rfl, ?_⟩
  refine List.forall_mem_cons.mpr ⟨fs_load_n hF d_Ti_sense_16 rfl, ?_⟩
  refine List.forall_mem_cons.mpr ⟨fs_const hF d_Ti_sense_17 (by decide), ?_⟩
  refine List.forall_mem_cons.mpr ⟨fs_ixor hF d_Ti_sense_18, ?_⟩
  refine List.forall_mem_cons.mpr ⟨fs_iand hF d_Ti_sense_19, ?_⟩
  refine List.forall_mem_cons.mpr ⟨fs_put hC (cN := 6) (j := 4) (ci := 6) (C := R_Ti) (T := T_Ti) (N := 11) rfl rfl rfl (by decide) ty_Ti tk_Ti nm_Ti rfl (by decide +kernel) (fun w h => List.mem_cons_of_mem _ (in_Ti w h)) (hm wd_181) d_Ti_sense_20, ?_⟩
  refine List.forall_mem_cons.mpr ⟨fs_vret hC hr d_Ti_sense_23, ?_⟩
  exact fun _ h => absurd h List.not_mem_nil
abbrev rm_Ti_timeOf : Room := { frames := 1, cells := 0, slots := 0, locals := 21 }
def ws_Ti_timeOf : List Cond := .code y_Ti_timeOf c_Ti_timeOf 2 (some .int) :: TB
abbrev MC_Ti_timeOf (κ : fx_K) : List fx_V → fx_S → (Int32 → fx_S → Prop) → Prop := fx_Met κ.1 κ.2.1 vwCl κ.2.2.1 κ.2.2.2 lyX nwl y_Ti_timeOf ws_Ti_timeOf rm_Ti_timeOf true
def tt_Ti_timeOf (κ : fx_K) (post : Int32 → fx_S → Prop) : List (Nat × fx_M fx_S) := [(0, fm_load 1 1),
  (1, fm_loada 0 2),
  (2, fm_get 6 6 5),
  (5, fm_calls true 2 (MC_Fc_isIn κ) 8),
  (8, fm_ifeq 20 11),
  (11, fm_loada 0 12),
  (12, fm_getr 6 26 15),
  (15, fm_load 1 16),
  (16, fm_ald lnXI 17),
  (17, fm_goto 21),
  (20, fm_const 0 21),
  (21, fm_ret post)]
set_option maxHeartbeats 4000000 in
set_option maxRecDepth 100000 in
theorem mo_Ti_timeOf {κ : fx_K} (hq : fx_I κ lyX.length) {av : List fx_V} {S : fx_S} {post : Int32 → fx_S → Prop} (hlen : av.length ≤ 2) (body : ∀ J : fx_J fx_S, (∀ r ∈ tt_Ti_timeOf κ post, fx_Snd J r.1 r.2) → (∀ pc k ls st S, J pc (ls.take k) st S → J pc ls st S) → J 0 av [] S) : MC_Ti_timeOf κ av S post := by
  refine fx_Met_of (cc := c_Ti_timeOf) (nL := 2) (ret := (some .int)) (by decide) rfl hq hlen ?_
  intro p e s m args below meth c hC hr hnw
  refine body _ ?_ fx_W_take
  have hF := hC.1
  have hts := hC.1.2.2.2.2
  have hm : ∀ {w : Cond}, w ∈ TB → w.before args s = true := fun h => hts _ (List.mem_cons_of_mem _ h)
  have g22 : ∀ (Q : State → Prop) (pc : Nat), decode c_Ti_timeOf pc = .ok (.getfield 22, 3) → fx_Snd (fx_W p κ.1 e rm_Ti_timeOf s m args below meth c Q (fx_A κ.2.2.2 lyX.length) 0 0 (fx_P κ.2.1 vwCl κ.2.2.1 κ.2.2.2 lyX) κ.2.2.2 2) pc (fm_get 6 6 (pc + 3)) := fun Q pc hd => fs_get hC (cN := 6) (j := 6) (ci := 6) (C := R_Ti) (T := T_Ti) (N := 11) rfl rfl rfl (by decide) (fun w h => List.mem_cons_of_mem _ (in_Ti w h)) (hm wd_186) hd
  have g9 : ∀ (Q : State → Prop) (pc : Nat), decode c_Ti_timeOf pc = .ok (.getfield 9, 3) → fx_Snd (fx_W p κ.1 e rm_Ti_timeOf s m args below meth c Q (fx_A κ.2.2.2 lyX.length) 0 0 (fx_P κ.2.1 vwCl κ.2.2.1 κ.2.2.2 lyX) κ.2.2.2 2) pc (fm_getr 6 26 (pc + 3)) := fun Q pc hd => fs_getr hC (cN := 6) (j := 0) (ci := 6) (C := R_Ti) (T := T_Ti) (N := 11) rfl rfl rfl (by decide) (fun w h => List.mem_cons_of_mem _ (in_Ti w h)) (hm wd_175) hd
  refine List.forall_mem_cons.mpr ⟨fs_load_n hF d_Ti_timeOf_0 rfl, ?_⟩
  refine List.forall_mem_cons.mpr ⟨fs_loada_n hF d_Ti_timeOf_1 rfl, ?_⟩
  refine List.forall_mem_cons.mpr ⟨g22 _ 2 d_Ti_timeOf_2, ?_⟩
  refine List.forall_mem_cons.mpr ⟨fs_callSN hC nwl_ok hnw ⟨va_cnB 2 hts (tb_good wd_369) rfl rfl rfl (hnw _ (List.mem_of_getElem? (i := 28) rfl)) (hm wd_32) pd_Fc_isIn ⟨Nat.le_of_ble_eq_true rfl, Nat.le_of_ble_eq_true rfl⟩, hm wd_368⟩ d_Ti_timeOf_5, ?_⟩
  refine List.forall_mem_cons.mpr ⟨fs_ifeq hF d_Ti_timeOf_8 (by decide), ?_⟩
  refine List.forall_mem_cons.mpr ⟨fs_loada_n hF d_Ti_timeOf_11 rfl, ?_⟩
  refine List.forall_mem_cons.mpr ⟨g9 _ 12 d_Ti_timeOf_12, ?_⟩
  refine List.forall_mem_cons.mpr ⟨fs_load_n hF d_Ti_timeOf_15 rfl, ?_⟩
  refine List.forall_mem_cons.mpr ⟨fs_ald hC lkXI d_Ti_timeOf_16, ?_⟩
  refine List.forall_mem_cons.mpr ⟨fs_goto hF d_Ti_timeOf_17 (by decide), ?_⟩
  refine List.forall_mem_cons.mpr ⟨fs_const hF d_Ti_timeOf_20 (by decide), ?_⟩
  refine List.forall_mem_cons.mpr ⟨fs_ret hC hr d_Ti_timeOf_21, ?_⟩
  exact fun _ h => absurd h List.not_mem_nil
abbrev rm_Ti_endEdges : Room := { frames := 0, cells := 0, slots := 0, locals := 0 }
def ws_Ti_endEdges : List Cond := .code y_Ti_endEdges c_Ti_endEdges 1 none :: TB
abbrev MC_Ti_endEdges (κ : fx_K) : List fx_V → fx_S → (Int32 → fx_S → Prop) → Prop := fx_Met κ.1 κ.2.1 vwCl κ.2.2.1 κ.2.2.2 lyX nwl y_Ti_endEdges ws_Ti_endEdges rm_Ti_endEdges false
def tt_Ti_endEdges (κ : fx_K) (post : Int32 → fx_S → Prop) : List (Nat × fx_M fx_S) := [(0, fm_loada 0 1),
  (1, fm_const 0 2),
  (2, fm_put 6 3 5),
  (5, fm_loada 0 6),
  (6, fm_const 0 7),
  (7, fm_put 6 4 10),
  (10, fm_vret post)]
set_option maxHeartbeats 4000000 in
set_option maxRecDepth 100000 in
theorem mo_Ti_endEdges {κ : fx_K} (hq : fx_I κ lyX.length) {av : List fx_V} {S : fx_S} {post : Int32 → fx_S → Prop} (hlen : av.length ≤ 1) (body : ∀ J : fx_J fx_S, (∀ r ∈ tt_Ti_endEdges κ post, fx_Snd J r.1 r.2) → (∀ pc k ls st S, J pc (ls.take k) st S → J pc ls st S) → J 0 av [] S) : MC_Ti_endEdges κ av S post := by
  refine fx_Met_of (cc := c_Ti_endEdges) (nL := 1) (ret := none) (by decide) rfl hq hlen ?_
  intro p e s m args below meth c hC hr hnw
  refine body _ ?_ fx_W_take
  have hF := hC.1
  have hts := hC.1.2.2.2.2
  have hm : ∀ {w : Cond}, w ∈ TB → w.before args s = true := fun h => hts _ (List.mem_cons_of_mem _ h)
  refine List.forall_mem_cons.mpr ⟨fs_loada_n hF d_Ti_endEdges_0 rfl, ?_⟩
  refine List.forall_mem_cons.mpr ⟨fs_const hF d_Ti_endEdges_1 (by decide), ?_⟩
  refine List.forall_mem_cons.mpr ⟨fs_put hC (cN := 6) (j := 3) (ci := 6) (C := R_Ti) (T := T_Ti) (N := 11) rfl rfl rfl (by decide) ty_Ti tk_Ti nm_Ti rfl (by decide +kernel) (fun w h => List.mem_cons_of_mem _ (in_Ti w h)) (hm wd_179) d_Ti_endEdges_2, ?_⟩
  refine List.forall_mem_cons.mpr ⟨fs_loada_n hF d_Ti_endEdges_5 rfl, ?_⟩
  refine List.forall_mem_cons.mpr ⟨fs_const hF d_Ti_endEdges_6 (by decide), ?_⟩
  refine List.forall_mem_cons.mpr ⟨fs_put hC (cN := 6) (j := 4) (ci := 6) (C := R_Ti) (T := T_Ti) (N := 11) rfl rfl rfl (by decide) ty_Ti tk_Ti nm_Ti rfl (by decide +kernel) (fun w h => List.mem_cons_of_mem _ (in_Ti w h)) (hm wd_181) d_Ti_endEdges_7, ?_⟩
  refine List.forall_mem_cons.mpr ⟨fs_vret hC hr d_Ti_endEdges_10, ?_⟩
  exact fun _ h => absurd h List.not_mem_nil
abbrev rm_Ti_moveTo : Room := { frames := 0, cells := 0, slots := 0, locals := 0 }
def ws_Ti_moveTo : List Cond := .code y_Ti_moveTo c_Ti_moveTo 3 (some .boolean) :: TB
abbrev MC_Ti_moveTo (κ : fx_K) : List fx_V → fx_S → (Int32 → fx_S → Prop) → Prop := fx_Met κ.1 κ.2.1 vwCl κ.2.2.1 κ.2.2.2 lyX nwl y_Ti_moveTo ws_Ti_moveTo rm_Ti_moveTo true
def tt_Ti_moveTo (κ : fx_K) (post : Int32 → fx_S → Prop) : List (Nat × fx_M fx_S) := [(0, fm_load 2 1),
  (1, fm_ifne 14 4),
  (4, fm_load 1 5),
  (5, fm_loada 0 6),
  (6, fm_get 6 5 9),
  (9, fm_cmpne 14 12),
  (12, fm_const 0 13),
  (13, fm_zret post),
  (14, fm_loada 0 15),
  (15, fm_load 1 16),
  (16, fm_put 6 5 19),
  (19, fm_loada 0 20),
  (20, fm_dup 21),
  (21, fm_get 6 6 24),
  (24, fm_load 1 25),
  (25, fm_iand 26),
  (26, fm_put 6 6 29),
  (29, fm_loada 0 30),
  (30, fm_dup 31),
  (31, fm_get 6 7 34),
  (34, fm_load 2 35),
  (35, fm_ior 36),
  (36, fm_put 6 7 39),
  (39, fm_loada 0 40),
  (40, fm_dup 41),
  (41, fm_get 6 8 44),
  (44, fm_const 1 45),
  (45, fm_iadd 46),
  (46, fm_put 6 8 49),
  (49, fm_const 1 50),
  (50, fm_zret post)]
set_option maxHeartbeats 4000000 in
set_option maxRecDepth 100000 in
theorem mo_Ti_moveTo {κ : fx_K} (hq : fx_I κ lyX.length) {av : List fx_V} {S : fx_S} {post : Int32 → fx_S → Prop} (hlen : av.length ≤ 3) (body : ∀ J : fx_J fx_S, (∀ r ∈ tt_Ti_moveTo κ post, fx_Snd J r.1 r.2) → (∀ pc k ls st S, J pc (ls.take k) st S → J pc ls st S) → J 0 av [] S) : MC_Ti_moveTo κ av S post := by
  refine fx_Met_of (cc := c_Ti_moveTo) (nL := 3) (ret := (some .boolean)) (by decide) rfl hq hlen ?_
  intro p e s m args below meth c hC hr hnw
  refine body _ ?_ fx_W_take
  have hF := hC.1
  have hts := hC.1.2.2.2.2
  have hm : ∀ {w : Cond}, w ∈ TB → w.before args s = true := fun h => hts _ (List.mem_cons_of_mem _ h)
  have g18 : ∀ (Q : State → Prop) (pc : Nat), decode c_Ti_moveTo pc = .ok (.getfield 18, 3) → fx_Snd (fx_W p κ.1 e rm_Ti_moveTo s m args below meth c Q (fx_A κ.2.2.2 lyX.length) 0 0 (fx_P κ.2.1 vwCl κ.2.2.1 κ.2.2.2 lyX) κ.2.2.2 3) pc (fm_get 6 5 (pc + 3)) := fun Q pc hd => fs_get hC (cN := 6) (j := 5) (ci := 6) (C := R_Ti) (T := T_Ti) (N := 11) rfl rfl rfl (by decide) (fun w h => List.mem_cons_of_mem _ (in_Ti w h)) (hm wd_183) hd
  have g22 : ∀ (Q : State → Prop) (pc : Nat), decode c_Ti_moveTo pc = .ok (.getfield 22, 3) → fx_Snd (fx_W p κ.1 e rm_Ti_moveTo s m args below meth c Q (fx_A κ.2.2.2 lyX.length) 0 0 (fx_P κ.2.1 vwCl κ.2.2.1 κ.2.2.2 lyX) κ.2.2.2 3) pc (fm_get 6 6 (pc + 3)) := fun Q pc hd => fs_get hC (cN := 6) (j := 6) (ci := 6) (C := R_Ti) (T := T_Ti) (N := 11) rfl rfl rfl (by decide) (fun w h => List.mem_cons_of_mem _ (in_Ti w h)) (hm wd_186) hd
  have g29 : ∀ (Q : State → Prop) (pc : Nat), decode c_Ti_moveTo pc = .ok (.getfield 29, 3) → fx_Snd (fx_W p κ.1 e rm_Ti_moveTo s m args below meth c Q (fx_A κ.2.2.2 lyX.length) 0 0 (fx_P κ.2.1 vwCl κ.2.2.1 κ.2.2.2 lyX) κ.2.2.2 3) pc (fm_get 6 7 (pc + 3)) := fun Q pc hd => fs_get hC (cN := 6) (j := 7) (ci := 6) (C := R_Ti) (T := T_Ti) (N := 11) rfl rfl rfl (by decide) (fun w h => List.mem_cons_of_mem _ (in_Ti w h)) (hm wd_187) hd
  have g32 : ∀ (Q : State → Prop) (pc : Nat), decode c_Ti_moveTo pc = .ok (.getfield 32, 3) → fx_Snd (fx_W p κ.1 e rm_Ti_moveTo s m args below meth c Q (fx_A κ.2.2.2 lyX.length) 0 0 (fx_P κ.2.1 vwCl κ.2.2.1 κ.2.2.2 lyX) κ.2.2.2 3) pc (fm_get 6 8 (pc + 3)) := fun Q pc hd => fs_get hC (cN := 6) (j := 8) (ci := 6) (C := R_Ti) (T := T_Ti) (N := 11) rfl rfl rfl (by decide) (fun w h => List.mem_cons_of_mem _ (in_Ti w h)) (hm wd_189) hd
  refine List.forall_mem_cons.mpr ⟨fs_load_n hF d_Ti_moveTo_0 rfl, ?_⟩
  refine List.forall_mem_cons.mpr ⟨fs_ifne hF d_Ti_moveTo_1 (by decide), ?_⟩
  refine List.forall_mem_cons.mpr ⟨fs_load_n hF d_Ti_moveTo_4 rfl, ?_⟩
  refine List.forall_mem_cons.mpr ⟨fs_loada_n hF d_Ti_moveTo_5 rfl, ?_⟩
  refine List.forall_mem_cons.mpr ⟨g18 _ 6 d_Ti_moveTo_6, ?_⟩
  refine List.forall_mem_cons.mpr ⟨fs_cmpne hF d_Ti_moveTo_9 (by decide), ?_⟩
  refine List.forall_mem_cons.mpr ⟨fs_const hF d_Ti_moveTo_12 (by decide), ?_⟩
  refine List.forall_mem_cons.mpr ⟨fs_zret hC hr d_Ti_moveTo_13, ?_⟩
  refine List.forall_mem_cons.mpr ⟨fs_loada_n hF d_Ti_moveTo_14 rfl, ?_⟩
  refine List.forall_mem_cons.mpr ⟨fs_load_n hF d_Ti_moveTo_15 rfl, ?_⟩
  refine List.forall_mem_cons.mpr ⟨fs_put hC (cN := 6) (j := 5) (ci := 6) (C := R_Ti) (T := T_Ti) (N := 11) rfl rfl rfl (by decide) ty_Ti tk_Ti nm_Ti rfl (by decide +kernel) (fun w h => List.mem_cons_of_mem _ (in_Ti w h)) (hm wd_183) d_Ti_moveTo_16, ?_⟩
  refine List.forall_mem_cons.mpr ⟨fs_loada_n hF d_Ti_moveTo_19 rfl, ?_⟩
  refine List.forall_mem_cons.mpr ⟨fs_dup hF d_Ti_moveTo_20, ?_⟩
  refine List.forall_mem_cons.mpr ⟨g22 _ 21 d_Ti_moveTo_21, ?_⟩
  refine List.forall_mem_cons.mpr ⟨fs_load_n hF d_Ti_moveTo_24 rfl, ?_⟩
  refine List.forall_mem_cons.mpr ⟨fs_iand hF d_Ti_moveTo_25, ?_⟩
  refine List.forall_mem_cons.mpr ⟨fs_put hC (cN := 6) (j := 6) (ci := 6) (C := R_Ti) (T := T_Ti) (N := 11) rfl rfl rfl (by decide) ty_Ti tk_Ti nm_Ti rfl (by decide +kernel) (fun w h => List.mem_cons_of_mem _ (in_Ti w h)) (hm wd_186) d_Ti_moveTo_26, ?_⟩
  refine List.forall_mem_cons.mpr ⟨fs_loada_n hF d_Ti_moveTo_29 rfl, ?_⟩
  refine List.forall_mem_cons.mpr ⟨fs_dup hF d_Ti_moveTo_30, ?_⟩
  refine List.forall_mem_cons.mpr ⟨g29 _ 31 d_Ti_moveTo_31, ?_⟩
  refine List.forall_mem_cons.mpr ⟨fs_load_n hF d_Ti_moveTo_34 rfl, ?_⟩
  refine List.forall_mem_cons.mpr ⟨fs_ior hF d_Ti_moveTo_35, ?_⟩
  refine List.forall_mem_cons.mpr ⟨fs_put hC (cN := 6) (j := 7) (ci := 6) (C := R_Ti) (T := T_Ti) (N := 11) rfl rfl rfl (by decide) ty_Ti tk_Ti nm_Ti rfl (by decide +kernel) (fun w h => List.mem_cons_of_mem _ (in_Ti w h)) (hm wd_187) d_Ti_moveTo_36, ?_⟩
  refine List.forall_mem_cons.mpr ⟨fs_loada_n hF d_Ti_moveTo_39 rfl, ?_⟩
  refine List.forall_mem_cons.mpr ⟨fs_dup hF d_Ti_moveTo_40, ?_⟩
  refine List.forall_mem_cons.mpr ⟨g32 _ 41 d_Ti_moveTo_41, ?_⟩
  refine List.forall_mem_cons.mpr ⟨fs_const hF d_Ti_moveTo_44 (by decide), ?_⟩
  refine List.forall_mem_cons.mpr ⟨fs_iadd hF d_Ti_moveTo_45, ?_⟩
  refine List.forall_mem_cons.mpr ⟨fs_put hC (cN := 6) (j := 8) (ci := 6) (C := R_Ti) (T := T_Ti) (N := 11) rfl rfl rfl (by decide) ty_Ti tk_Ti nm_Ti rfl (by decide +kernel) (fun w h => List.mem_cons_of_mem _ (in_Ti w h)) (hm wd_189) d_Ti_moveTo_46, ?_⟩
  refine List.forall_mem_cons.mpr ⟨fs_const hF d_Ti_moveTo_49 (by decide), ?_⟩
  refine List.forall_mem_cons.mpr ⟨fs_zret hC hr d_Ti_moveTo_50, ?_⟩
  exact fun _ h => absurd h List.not_mem_nil
abbrev rm_Ti_findsCycle : Room := { frames := 0, cells := 0, slots := 0, locals := 0 }
def ws_Ti_findsCycle : List Cond := .code y_Ti_findsCycle c_Ti_findsCycle 3 (some .boolean) :: TB
abbrev MC_Ti_findsCycle (κ : fx_K) : List fx_V → fx_S → (Int32 → fx_S → Prop) → Prop := fx_Met κ.1 κ.2.1 vwCl κ.2.2.1 κ.2.2.2 lyX nwl y_Ti_findsCycle ws_Ti_findsCycle rm_Ti_findsCycle true
def tt_Ti_findsCycle (κ : fx_K) (post : Int32 → fx_S → Prop) : List (Nat × fx_M fx_S) := [(0, fm_loada 0 1),
  (1, fm_get 6 5 4),
  (4, fm_loada 0 5),
  (5, fm_get 6 6 8),
  (8, fm_const 8 10),
  (10, fm_ishl 11),
  (11, fm_ior 12),
  (12, fm_store 1 13),
  (13, fm_const 1 14),
  (14, fm_store 2 15),
  (15, fm_load 2 16),
  (16, fm_loada 0 17),
  (17, fm_get 6 8 20),
  (20, fm_cmpge 56 23),
  (23, fm_loada 0 24),
  (24, fm_getr 6 27 27),
  (27, fm_load 2 28),
  (28, fm_ald lnXI 29),
  (29, fm_load 1 30),
  (30, fm_cmpne 50 33),
  (33, fm_loada 0 34),
  (34, fm_load 2 35),
  (35, fm_put 6 9 38),
  (38, fm_loada 0 39),
  (39, fm_loada 0 40),
  (40, fm_get 6 8 43),
  (43, fm_load 2 44),
  (44, fm_isub 45),
  (45, fm_put 6 10 48),
  (48, fm_const 1 49),
  (49, fm_zret post),
  (50, fm_inc 2 1 53),
  (53, fm_goto 15),
  (56, fm_loada 0 57),
  (57, fm_getr 6 27 60),
  (60, fm_loada 0 61),
  (61, fm_get 6 8 64),
  (64, fm_load 1 65),
  (65, fm_ast lnXI 66),
  (66, fm_const 0 67),
  (67, fm_zret post)]
set_option maxHeartbeats 4000000 in
set_option maxRecDepth 100000 in
theorem mo_Ti_findsCycle {κ : fx_K} (hq : fx_I κ lyX.length) {av : List fx_V} {S : fx_S} {post : Int32 → fx_S → Prop} (hlen : av.length ≤ 3) (body : ∀ J : fx_J fx_S, (∀ r ∈ tt_Ti_findsCycle κ post, fx_Snd J r.1 r.2) → (∀ pc k ls st S, J pc (ls.take k) st S → J pc ls st S) → J 0 av [] S) : MC_Ti_findsCycle κ av S post := by
  refine fx_Met_of (cc := c_Ti_findsCycle) (nL := 3) (ret := (some .boolean)) (by decide) rfl hq hlen ?_
  intro p e s m args below meth c hC hr hnw
  refine body _ ?_ fx_W_take
  have hF := hC.1
  have hts := hC.1.2.2.2.2
  have hm : ∀ {w : Cond}, w ∈ TB → w.before args s = true := fun h => hts _ (List.mem_cons_of_mem _ h)
  have g18 : ∀ (Q : State → Prop) (pc : Nat), decode c_Ti_findsCycle pc = .ok (.getfield 18, 3) → fx_Snd (fx_W p κ.1 e rm_Ti_findsCycle s m args below meth c Q (fx_A κ.2.2.2 lyX.length) 0 0 (fx_P κ.2.1 vwCl κ.2.2.1 κ.2.2.2 lyX) κ.2.2.2 3) pc (fm_get 6 5 (pc + 3)) := fun Q pc hd => fs_get hC (cN := 6) (j := 5) (ci := 6) (C := R_Ti) (T := T_Ti) (N := 11) rfl rfl rfl (by decide) (fun w h => List.mem_cons_of_mem _ (in_Ti w h)) (hm wd_183) hd
  have g22 : ∀ (Q : State → Prop) (pc : Nat), decode c_Ti_findsCycle pc = .ok (.getfield 22, 3) → fx_Snd (fx_W p κ.1 e rm_Ti_findsCycle s m args below meth c Q (fx_A κ.2.2.2 lyX.length) 0 0 (fx_P κ.2.1 vwCl κ.2.2.1 κ.2.2.2 lyX) κ.2.2.2 3) pc (fm_get 6 6 (pc + 3)) := fun Q pc hd => fs_get hC (cN := 6) (j := 6) (ci := 6) (C := R_Ti) (T := T_Ti) (N := 11) rfl rfl rfl (by decide) (fun w h => List.mem_cons_of_mem _ (in_Ti w h)) (hm wd_186) hd
  have g32 : ∀ (Q : State → Prop) (pc : Nat), decode c_Ti_findsCycle pc = .ok (.getfield 32, 3) → fx_Snd (fx_W p κ.1 e rm_Ti_findsCycle s m args below meth c Q (fx_A κ.2.2.2 lyX.length) 0 0 (fx_P κ.2.1 vwCl κ.2.2.1 κ.2.2.2 lyX) κ.2.2.2 3) pc (fm_get 6 8 (pc + 3)) := fun Q pc hd => fs_get hC (cN := 6) (j := 8) (ci := 6) (C := R_Ti) (T := T_Ti) (N := 11) rfl rfl rfl (by decide) (fun w h => List.mem_cons_of_mem _ (in_Ti w h)) (hm wd_189) hd
  have g15 : ∀ (Q : State → Prop) (pc : Nat), decode c_Ti_findsCycle pc = .ok (.getfield 15, 3) → fx_Snd (fx_W p κ.1 e rm_Ti_findsCycle s m args below meth c Q (fx_A κ.2.2.2 lyX.length) 0 0 (fx_P κ.2.1 vwCl κ.2.2.1 κ.2.2.2 lyX) κ.2.2.2 3) pc (fm_getr 6 27 (pc + 3)) := fun Q pc hd => fs_getr hC (cN := 6) (j := 1) (ci := 6) (C := R_Ti) (T := T_Ti) (N := 11) rfl rfl rfl (by decide) (fun w h => List.mem_cons_of_mem _ (in_Ti w h)) (hm wd_176) hd
  refine List.forall_mem_cons.mpr ⟨fs_loada_n hF d_Ti_findsCycle_0 rfl, ?_⟩
  refine List.forall_mem_cons.mpr ⟨g18 _ 1 d_Ti_findsCycle_1, ?_⟩
  refine List.forall_mem_cons.mpr ⟨fs_loada_n hF d_Ti_findsCycle_4 rfl, ?_⟩
  refine List.forall_mem_cons.mpr ⟨g22 _ 5 d_Ti_findsCycle_5, ?_⟩
  refine List.forall_mem_cons.mpr ⟨fs_bipush hF d_Ti_findsCycle_8 (by decide), ?_⟩
  refine List.forall_mem_cons.mpr ⟨fs_ishl hF d_Ti_findsCycle_10, ?_⟩
  refine List.forall_mem_cons.mpr ⟨fs_ior hF d_Ti_findsCycle_11, ?_⟩
  refine List.forall_mem_cons.mpr ⟨fs_store_n hF d_Ti_findsCycle_12 rfl (by decide), ?_⟩
  refine List.forall_mem_cons.mpr ⟨fs_const hF d_Ti_findsCycle_13 (by decide), ?_⟩
  refine List.forall_mem_cons.mpr ⟨fs_store_n hF d_Ti_findsCycle_14 rfl (by decide), ?_⟩
  refine List.forall_mem_cons.mpr ⟨fs_load_n hF d_Ti_findsCycle_15 rfl, ?_⟩
  refine List.forall_mem_cons.mpr ⟨fs_loada_n hF d_Ti_findsCycle_16 rfl, ?_⟩
  refine List.forall_mem_cons.mpr ⟨g32 _ 17 d_Ti_findsCycle_17, ?_⟩
  refine List.forall_mem_cons.mpr ⟨fs_cmpge hF d_Ti_findsCycle_20 (by decide), ?_⟩
  refine List.forall_mem_cons.mpr ⟨fs_loada_n hF d_Ti_findsCycle_23 rfl, ?_⟩
  refine List.forall_mem_cons.mpr ⟨g15 _ 24 d_Ti_findsCycle_24, ?_⟩
  refine List.forall_mem_cons.mpr ⟨fs_load_n hF d_Ti_findsCycle_27 rfl, ?_⟩
  refine List.forall_mem_cons.mpr ⟨fs_ald hC lkXI d_Ti_findsCycle_28, ?_⟩
  refine List.forall_mem_cons.mpr ⟨fs_load_n hF d_Ti_findsCycle_29 rfl, ?_⟩
  refine List.forall_mem_cons.mpr ⟨fs_cmpne hF d_Ti_findsCycle_30 (by decide), ?_⟩
  refine List.forall_mem_cons.mpr ⟨fs_loada_n hF d_Ti_findsCycle_33 rfl, ?_⟩
  refine List.forall_mem_cons.mpr ⟨fs_load_n hF d_Ti_findsCycle_34 rfl, ?_⟩
  refine List.forall_mem_cons.mpr ⟨fs_put hC (cN := 6) (j := 9) (ci := 6) (C := R_Ti) (T := T_Ti) (N := 11) rfl rfl rfl (by decide) ty_Ti tk_Ti nm_Ti rfl (by decide +kernel) (fun w h => List.mem_cons_of_mem _ (in_Ti w h)) (hm wd_191) d_Ti_findsCycle_35, ?_⟩
  refine List.forall_mem_cons.mpr ⟨fs_loada_n hF d_Ti_findsCycle_38 rfl, ?_⟩
  refine List.forall_mem_cons.mpr ⟨fs_loada_n hF d_Ti_findsCycle_39 rfl, ?_⟩
  refine List.forall_mem_cons.mpr ⟨g32 _ 40 d_Ti_findsCycle_40, ?_⟩
  refine List.forall_mem_cons.mpr ⟨fs_load_n hF d_Ti_findsCycle_43 rfl, ?_⟩
  refine List.forall_mem_cons.mpr ⟨fs_isub hF d_Ti_findsCycle_44, ?_⟩
  refine List.forall_mem_cons.mpr ⟨fs_put hC (cN := 6) (j := 10) (ci := 6) (C := R_Ti) (T := T_Ti) (N := 11) rfl rfl rfl (by decide) ty_Ti tk_Ti nm_Ti rfl (by decide +kernel) (fun w h => List.mem_cons_of_mem _ (in_Ti w h)) (hm wd_193) d_Ti_findsCycle_45, ?_⟩
  refine List.forall_mem_cons.mpr ⟨fs_const hF d_Ti_findsCycle_48 (by decide), ?_⟩
  refine List.forall_mem_cons.mpr ⟨fs_zret hC hr d_Ti_findsCycle_49, ?_⟩
  refine List.forall_mem_cons.mpr ⟨fs_inc hF d_Ti_findsCycle_50 (by decide) (by decide), ?_⟩
  refine List.forall_mem_cons.mpr ⟨fs_goto hF d_Ti_findsCycle_53 (by decide), ?_⟩
  refine List.forall_mem_cons.mpr ⟨fs_loada_n hF d_Ti_findsCycle_56 rfl, ?_⟩
  refine List.forall_mem_cons.mpr ⟨g15 _ 57 d_Ti_findsCycle_57, ?_⟩
  refine List.forall_mem_cons.mpr ⟨fs_loada_n hF d_Ti_findsCycle_60 rfl, ?_⟩
  refine List.forall_mem_cons.mpr ⟨g32 _ 61 d_Ti_findsCycle_61, ?_⟩
  refine List.forall_mem_cons.mpr ⟨fs_load_n hF d_Ti_findsCycle_64 rfl, ?_⟩
  refine List.forall_mem_cons.mpr ⟨fs_ast hC lkXI d_Ti_findsCycle_65, ?_⟩
  refine List.forall_mem_cons.mpr ⟨fs_const hF d_Ti_findsCycle_66 (by decide), ?_⟩
  refine List.forall_mem_cons.mpr ⟨fs_zret hC hr d_Ti_findsCycle_67, ?_⟩
  exact fun _ h => absurd h List.not_mem_nil
abbrev rm_Ex_has : Room := { frames := 0, cells := 0, slots := 0, locals := 0 }
def ws_Ex_has : List Cond := .code y_Ex_has c_Ex_has 2 (some .boolean) :: TB
abbrev MC_Ex_has (κ : fx_K) : List fx_V → fx_S → (Int32 → fx_S → Prop) → Prop := fx_Met κ.1 κ.2.1 vwCl κ.2.2.1 κ.2.2.2 lyX nwl y_Ex_has ws_Ex_has rm_Ex_has true
def tt_Ex_has (κ : fx_K) (post : Int32 → fx_S → Prop) : List (Nat × fx_M fx_S) := [(0, fm_load 1 1),
  (1, fm_iflt 16 4),
  (4, fm_load 1 5),
  (5, fm_loada 0 6),
  (6, fm_get 2 4 9),
  (9, fm_cmpge 16 12),
  (12, fm_const 1 13),
  (13, fm_goto 17),
  (16, fm_const 0 17),
  (17, fm_zret post)]
set_option maxHeartbeats 4000000 in
set_option maxRecDepth 100000 in
theorem mo_Ex_has {κ : fx_K} (hq : fx_I κ lyX.length) {av : List fx_V} {S : fx_S} {post : Int32 → fx_S → Prop} (hlen : av.length ≤ 2) (body : ∀ J : fx_J fx_S, (∀ r ∈ tt_Ex_has κ post, fx_Snd J r.1 r.2) → (∀ pc k ls st S, J pc (ls.take k) st S → J pc ls st S) → J 0 av [] S) : MC_Ex_has κ av S post := by
  refine fx_Met_of (cc := c_Ex_has) (nL := 2) (ret := (some .boolean)) (by decide) rfl hq hlen ?_
  intro p e s m args below meth c hC hr hnw
  refine body _ ?_ fx_W_take
  have hF := hC.1
  have hts := hC.1.2.2.2.2
  have hm : ∀ {w : Cond}, w ∈ TB → w.before args s = true := fun h => hts _ (List.mem_cons_of_mem _ h)
  have g24 : ∀ (Q : State → Prop) (pc : Nat), decode c_Ex_has pc = .ok (.getfield 24, 3) → fx_Snd (fx_W p κ.1 e rm_Ex_has s m args below meth c Q (fx_A κ.2.2.2 lyX.length) 0 0 (fx_P κ.2.1 vwCl κ.2.2.1 κ.2.2.2 lyX) κ.2.2.2 2) pc (fm_get 2 4 (pc + 3)) := fun Q pc hd => fs_get hC (cN := 2) (j := 4) (ci := 2) (C := R_Ex) (T := T_Ex) (N := 5) rfl rfl rfl (by decide) (fun w h => List.mem_cons_of_mem _ (in_Ex w h)) (hm wd_83) hd
  refine List.forall_mem_cons.mpr ⟨fs_load_n hF d_Ex_has_0 rfl, ?_⟩
  refine List.forall_mem_cons.mpr ⟨fs_iflt hF d_Ex_has_1 (by decide), ?_⟩
  refine List.forall_mem_cons.mpr ⟨fs_load_n hF d_Ex_has_4 rfl, ?_⟩
  refine List.forall_mem_cons.mpr ⟨fs_loada_n hF d_Ex_has_5 rfl, ?_⟩
  refine List.forall_mem_cons.mpr ⟨g24 _ 6 d_Ex_has_6, ?_⟩
  refine List.forall_mem_cons.mpr ⟨fs_cmpge hF d_Ex_has_9 (by decide), ?_⟩
  refine List.forall_mem_cons.mpr ⟨fs_const hF d_Ex_has_12 (by decide), ?_⟩
  refine List.forall_mem_cons.mpr ⟨fs_goto hF d_Ex_has_13 (by decide), ?_⟩
  refine List.forall_mem_cons.mpr ⟨fs_const hF d_Ex_has_16 (by decide), ?_⟩
  refine List.forall_mem_cons.mpr ⟨fs_zret hC hr d_Ex_has_17, ?_⟩
  exact fun _ h => absurd h List.not_mem_nil
abbrev rm_Ex_canBePart : Room := { frames := 1, cells := 0, slots := 0, locals := 21 }
def ws_Ex_canBePart : List Cond := .code y_Ex_canBePart c_Ex_canBePart 2 (some .boolean) :: TB
abbrev MC_Ex_canBePart (κ : fx_K) : List fx_V → fx_S → (Int32 → fx_S → Prop) → Prop := fx_Met κ.1 κ.2.1 vwCl κ.2.2.1 κ.2.2.2 lyX nwl y_Ex_canBePart ws_Ex_canBePart rm_Ex_canBePart true
def tt_Ex_canBePart (κ : fx_K) (post : Int32 → fx_S → Prop) : List (Nat × fx_M fx_S) := [(0, fm_loada 0 1),
  (1, fm_load 1 2),
  (2, fm_call true 2 1 (MC_Ex_has κ) 5),
  (5, fm_ifeq 22 8),
  (8, fm_loada 0 9),
  (9, fm_getr 2 13 12),
  (12, fm_load 1 13),
  (13, fm_ald lnXI 14),
  (14, fm_const 4 15),
  (15, fm_cmpge 22 18),
  (18, fm_const 1 19),
  (19, fm_goto 23),
  (22, fm_const 0 23),
  (23, fm_zret post)]
set_option maxHeartbeats 4000000 in
set_option maxRecDepth 100000 in
theorem mo_Ex_canBePart {κ : fx_K} (hq : fx_I κ lyX.length) {av : List fx_V} {S : fx_S} {post : Int32 → fx_S → Prop} (hlen : av.length ≤ 2) (body : ∀ J : fx_J fx_S, (∀ r ∈ tt_Ex_canBePart κ post, fx_Snd J r.1 r.2) → (∀ pc k ls st S, J pc (ls.take k) st S → J pc ls st S) → J 0 av [] S) : MC_Ex_canBePart κ av S post := by
  refine fx_Met_of (cc := c_Ex_canBePart) (nL := 2) (ret := (some .boolean)) (by decide) rfl hq hlen ?_
  intro p e s m args below meth c hC hr hnw
  refine body _ ?_ fx_W_take
  have hF := hC.1
  have hts := hC.1.2.2.2.2
  have hm : ∀ {w : Cond}, w ∈ TB → w.before args s = true := fun h => hts _ (List.mem_cons_of_mem _ h)
  have g21 : ∀ (Q : State → Prop) (pc : Nat), decode c_Ex_canBePart pc = .ok (.getfield 21, 3) → fx_Snd (fx_W p κ.1 e rm_Ex_canBePart s m args below meth c Q (fx_A κ.2.2.2 lyX.length) 0 0 (fx_P κ.2.1 vwCl κ.2.2.1 κ.2.2.2 lyX) κ.2.2.2 2) pc (fm_getr 2 13 (pc + 3)) := fun Q pc hd => fs_getr hC (cN := 2) (j := 3) (ci := 2) (C := R_Ex) (T := T_Ex) (N := 5) rfl rfl rfl (by decide) (fun w h => List.mem_cons_of_mem _ (in_Ex w h)) (hm wd_82) hd
  refine List.forall_mem_cons.mpr ⟨fs_loada_n hF d_Ex_canBePart_0 rfl, ?_⟩
  refine List.forall_mem_cons.mpr ⟨fs_load_n hF d_Ex_canBePart_1 rfl, ?_⟩
  refine List.forall_mem_cons.mpr ⟨fs_callV hC nwl_ok hnw (cN := 2) (ci := 2) (C := R_Ex) rfl rfl ⟨callB_of 1 hts (tb_good wd_304) rfl rfl rfl (hm wd_34) (hm wd_301) pd_Ex_has ⟨Nat.le_of_ble_eq_true rfl, Nat.le_of_ble_eq_true rfl⟩, hm wd_302, hm wd_303⟩ d_Ex_canBePart_2, ?_⟩
  refine List.forall_mem_cons.mpr ⟨fs_ifeq hF d_Ex_canBePart_5 (by decide), ?_⟩
  refine List.forall_mem_cons.mpr ⟨fs_loada_n hF d_Ex_canBePart_8 rfl, ?_⟩
  refine List.forall_mem_cons.mpr ⟨g21 _ 9 d_Ex_canBePart_9, ?_⟩
  refine List.forall_mem_cons.mpr ⟨fs_load_n hF d_Ex_canBePart_12 rfl, ?_⟩
  refine List.forall_mem_cons.mpr ⟨fs_ald hC lkXI d_Ex_canBePart_13, ?_⟩
  refine List.forall_mem_cons.mpr ⟨fs_const hF d_Ex_canBePart_14 (by decide), ?_⟩
  refine List.forall_mem_cons.mpr ⟨fs_cmpge hF d_Ex_canBePart_15 (by decide), ?_⟩
  refine List.forall_mem_cons.mpr ⟨fs_const hF d_Ex_canBePart_18 (by decide), ?_⟩
  refine List.forall_mem_cons.mpr ⟨fs_goto hF d_Ex_canBePart_19 (by decide), ?_⟩
  refine List.forall_mem_cons.mpr ⟨fs_const hF d_Ex_canBePart_22 (by decide), ?_⟩
  refine List.forall_mem_cons.mpr ⟨fs_zret hC hr d_Ex_canBePart_23, ?_⟩
  exact fun _ h => absurd h List.not_mem_nil
abbrev rm_Ex_allow : Room := { frames := 2, cells := 0, slots := 0, locals := 42 }
def ws_Ex_allow : List Cond := .code y_Ex_allow c_Ex_allow 5 (some .boolean) :: TB
abbrev MC_Ex_allow (κ : fx_K) : List fx_V → fx_S → (Int32 → fx_S → Prop) → Prop := fx_Met κ.1 κ.2.1 vwCl κ.2.2.1 κ.2.2.2 lyX nwl y_Ex_allow ws_Ex_allow rm_Ex_allow true
def tt_Ex_allow (κ : fx_K) (post : Int32 → fx_S → Prop) : List (Nat × fx_M fx_S) := [(0, fm_load 1 1),
  (1, fm_sw [(0, 48), (1, 48), (2, 48), (3, 53), (4, 60), (5, 82), (6, 88), (7, 88)] 110),
  (48, fm_load 2 49),
  (49, fm_calls true 1 (MC_Fc_isLine κ) 52),
  (52, fm_zret post),
  (53, fm_loada 4 55),
  (55, fm_load 2 56),
  (56, fm_call true 1 1 (MC_St_has κ) 59),
  (59, fm_zret post),
  (60, fm_loada 4 62),
  (62, fm_load 2 63),
  (63, fm_call true 1 1 (MC_St_has κ) 66),
  (66, fm_ifeq 80 69),
  (69, fm_load 3 70),
  (70, fm_calls true 1 (MC_Fc_isSpan κ) 73),
  (73, fm_ifeq 80 76),
  (76, fm_const 1 77),
  (77, fm_goto 81),
  (80, fm_const 0 81),
  (81, fm_zret post),
  (82, fm_loada 0 83),
  (83, fm_load 2 84),
  (84, fm_call true 2 1 (MC_Ex_canBePart κ) 87),
  (87, fm_zret post),
  (88, fm_loada 0 89),
  (89, fm_load 2 90),
  (90, fm_call true 2 1 (MC_Ex_canBePart κ) 93),
  (93, fm_ifeq 108 96),
  (96, fm_loada 0 97),
  (97, fm_load 3 98),
  (98, fm_call true 2 1 (MC_Ex_canBePart κ) 101),
  (101, fm_ifeq 108 104),
  (104, fm_const 1 105),
  (105, fm_goto 109),
  (108, fm_const 0 109),
  (109, fm_zret post),
  (110, fm_const 0 111),
  (111, fm_zret post)]
set_option maxHeartbeats 4000000 in
set_option maxRecDepth 100000 in
theorem mo_Ex_allow {κ : fx_K} (hq : fx_I κ lyX.length) {av : List fx_V} {S : fx_S} {post : Int32 → fx_S → Prop} (hlen : av.length ≤ 5) (body : ∀ J : fx_J fx_S, (∀ r ∈ tt_Ex_allow κ post, fx_Snd J r.1 r.2) → (∀ pc k ls st S, J pc (ls.take k) st S → J pc ls st S) → J 0 av [] S) : MC_Ex_allow κ av S post := by
  refine fx_Met_of (cc := c_Ex_allow) (nL := 5) (ret := (some .boolean)) (by decide) rfl hq hlen ?_
  intro p e s m args below meth c hC hr hnw
  refine body _ ?_ fx_W_take
  have hF := hC.1
  have hts := hC.1.2.2.2.2
  have hm : ∀ {w : Cond}, w ∈ TB → w.before args s = true := fun h => hts _ (List.mem_cons_of_mem _ h)
  refine List.forall_mem_cons.mpr ⟨fs_load_n hF d_Ex_allow_0 rfl, ?_⟩
  refine List.forall_mem_cons.mpr ⟨fs_table hC 8 d_Ex_allow_1 (by decide) (by decide +kernel) (by decide +kernel) (by decide), ?_⟩
  refine List.forall_mem_cons.mpr ⟨fs_load_n hF d_Ex_allow_48 rfl, ?_⟩
  refine List.forall_mem_cons.mpr ⟨fs_callSN hC nwl_ok hnw ⟨va_cnB 1 hts (tb_good wd_288) rfl rfl rfl (hnw _ (List.mem_of_getElem? (i := 24) rfl)) (hm wd_32) pd_Fc_isLine ⟨Nat.le_of_ble_eq_true rfl, Nat.le_of_ble_eq_true rfl⟩, hm wd_287⟩ d_Ex_allow_49, ?_⟩
  refine List.forall_mem_cons.mpr ⟨fs_zret hC hr d_Ex_allow_52, ?_⟩
  refine List.forall_mem_cons.mpr ⟨fs_loada hF d_Ex_allow_53, ?_⟩
  refine List.forall_mem_cons.mpr ⟨fs_load_n hF d_Ex_allow_55 rfl, ?_⟩
  refine List.forall_mem_cons.mpr ⟨fs_callV hC nwl_ok hnw (cN := 1) (ci := 1) (C := R_St) rfl rfl ⟨callB_of 1 hts (tb_good wd_292) rfl rfl rfl (hm wd_33) (hm wd_289) pd_St_has ⟨Nat.le_of_ble_eq_true rfl, Nat.le_of_ble_eq_true rfl⟩, hm wd_290, hm wd_291⟩ d_Ex_allow_56, ?_⟩
  refine List.forall_mem_cons.mpr ⟨fs_zret hC hr d_Ex_allow_59, ?_⟩
  refine List.forall_mem_cons.mpr ⟨fs_loada hF d_Ex_allow_60, ?_⟩
  refine List.forall_mem_cons.mpr ⟨fs_load_n hF d_Ex_allow_62 rfl, ?_⟩
  refine List.forall_mem_cons.mpr ⟨fs_callV hC nwl_ok hnw (cN := 1) (ci := 1) (C := R_St) rfl rfl ⟨callB_of 1 hts (tb_good wd_292) rfl rfl rfl (hm wd_33) (hm wd_289) pd_St_has ⟨Nat.le_of_ble_eq_true rfl, Nat.le_of_ble_eq_true rfl⟩, hm wd_290, hm wd_291⟩ d_Ex_allow_63, ?_⟩
  refine List.forall_mem_cons.mpr ⟨fs_ifeq hF d_Ex_allow_66 (by decide), ?_⟩
  refine List.forall_mem_cons.mpr ⟨fs_load_n hF d_Ex_allow_69 rfl, ?_⟩
  refine List.forall_mem_cons.mpr ⟨fs_callSN hC nwl_ok hnw ⟨va_cnB 1 hts (tb_good wd_295) rfl rfl rfl (hnw _ (List.mem_of_getElem? (i := 25) rfl)) (hm wd_32) pd_Fc_isSpan ⟨Nat.le_of_ble_eq_true rfl, Nat.le_of_ble_eq_true rfl⟩, hm wd_294⟩ d_Ex_allow_70, ?_⟩
  refine List.forall_mem_cons.mpr ⟨fs_ifeq hF d_Ex_allow_73 (by decide), ?_⟩
  refine List.forall_mem_cons.mpr ⟨fs_const hF d_Ex_allow_76 (by decide), ?_⟩
  refine List.forall_mem_cons.mpr ⟨fs_goto hF d_Ex_allow_77 (by decide), ?_⟩
  refine List.forall_mem_cons.mpr ⟨fs_const hF d_Ex_allow_80 (by decide), ?_⟩
  refine List.forall_mem_cons.mpr ⟨fs_zret hC hr d_Ex_allow_81, ?_⟩
  refine List.forall_mem_cons.mpr ⟨fs_loada_n hF d_Ex_allow_82 rfl, ?_⟩
  refine List.forall_mem_cons.mpr ⟨fs_load_n hF d_Ex_allow_83 rfl, ?_⟩
  refine List.forall_mem_cons.mpr ⟨fs_callV hC nwl_ok hnw (cN := 2) (ci := 2) (C := R_Ex) rfl rfl ⟨callB_of 1 hts (tb_good wd_300) rfl rfl rfl (hm wd_34) (hm wd_297) pd_Ex_canBePart ⟨Nat.le_of_ble_eq_true rfl, Nat.le_of_ble_eq_true rfl⟩, hm wd_299, hm wd_0⟩ d_Ex_allow_84, ?_⟩
  refine List.forall_mem_cons.mpr ⟨fs_zret hC hr d_Ex_allow_87, ?_⟩
  refine List.forall_mem_cons.mpr ⟨fs_loada_n hF d_Ex_allow_88 rfl, ?_⟩
  refine List.forall_mem_cons.mpr ⟨fs_load_n hF d_Ex_allow_89 rfl, ?_⟩
  refine List.forall_mem_cons.mpr ⟨fs_callV hC nwl_ok hnw (cN := 2) (ci := 2) (C := R_Ex) rfl rfl ⟨callB_of 1 hts (tb_good wd_300) rfl rfl rfl (hm wd_34) (hm wd_297) pd_Ex_canBePart ⟨Nat.le_of_ble_eq_true rfl, Nat.le_of_ble_eq_true rfl⟩, hm wd_299, hm wd_0⟩ d_Ex_allow_90, ?_⟩
  refine List.forall_mem_cons.mpr ⟨fs_ifeq hF d_Ex_allow_93 (by decide), ?_⟩
  refine List.forall_mem_cons.mpr ⟨fs_loada_n hF d_Ex_allow_96 rfl, ?_⟩
  refine List.forall_mem_cons.mpr ⟨fs_load_n hF d_Ex_allow_97 rfl, ?_⟩
  refine List.forall_mem_cons.mpr ⟨fs_callV hC nwl_ok hnw (cN := 2) (ci := 2) (C := R_Ex) rfl rfl ⟨callB_of 1 hts (tb_good wd_300) rfl rfl rfl (hm wd_34) (hm wd_297) pd_Ex_canBePart ⟨Nat.le_of_ble_eq_true rfl, Nat.le_of_ble_eq_true rfl⟩, hm wd_299, hm wd_0⟩ d_Ex_allow_98, ?_⟩
  refine List.forall_mem_cons.mpr ⟨fs_ifeq hF d_Ex_allow_101 (by decide), ?_⟩
  refine List.forall_mem_cons.mpr ⟨fs_const hF d_Ex_allow_104 (by decide), ?_⟩
  refine List.forall_mem_cons.mpr ⟨fs_goto hF d_Ex_allow_105 (by decide), ?_⟩
  refine List.forall_mem_cons.mpr ⟨fs_const hF d_Ex_allow_108 (by decide), ?_⟩
  refine List.forall_mem_cons.mpr ⟨fs_zret hC hr d_Ex_allow_109, ?_⟩
  refine List.forall_mem_cons.mpr ⟨fs_const hF d_Ex_allow_110 (by decide), ?_⟩
  refine List.forall_mem_cons.mpr ⟨fs_zret hC hr d_Ex_allow_111, ?_⟩
  exact fun _ h => absurd h List.not_mem_nil
abbrev rm_Ex_depthFor : Room := { frames := 1, cells := 0, slots := 0, locals := 21 }
def ws_Ex_depthFor : List Cond := .code y_Ex_depthFor c_Ex_depthFor 4 (some .int) :: TB
abbrev MC_Ex_depthFor (κ : fx_K) : List fx_V → fx_S → (Int32 → fx_S → Prop) → Prop := fx_Met κ.1 κ.2.1 vwCl κ.2.2.1 κ.2.2.2 lyX nwl y_Ex_depthFor ws_Ex_depthFor rm_Ex_depthFor true
def tt_Ex_depthFor (κ : fx_K) (post : Int32 → fx_S → Prop) : List (Nat × fx_M fx_S) := [(0, fm_load 1 1),
  (1, fm_sw [(5, 28), (6, 37), (7, 37)] 55),
  (28, fm_loada 0 29),
  (29, fm_getr 2 13 32),
  (32, fm_load 2 33),
  (33, fm_ald lnXI 34),
  (34, fm_const 1 35),
  (35, fm_iadd 36),
  (36, fm_ret post),
  (37, fm_loada 0 38),
  (38, fm_getr 2 13 41),
  (41, fm_load 2 42),
  (42, fm_ald lnXI 43),
  (43, fm_loada 0 44),
  (44, fm_getr 2 13 47),
  (47, fm_load 3 48),
  (48, fm_ald lnXI 49),
  (49, fm_max 52),
  (52, fm_const 1 53),
  (53, fm_iadd 54),
  (54, fm_ret post),
  (55, fm_const 0 56),
  (56, fm_ret post)]
set_option maxHeartbeats 4000000 in
set_option maxRecDepth 100000 in
theorem mo_Ex_depthFor {κ : fx_K} (hq : fx_I κ lyX.length) {av : List fx_V} {S : fx_S} {post : Int32 → fx_S → Prop} (hlen : av.length ≤ 4) (body : ∀ J : fx_J fx_S, (∀ r ∈ tt_Ex_depthFor κ post, fx_Snd J r.1 r.2) → (∀ pc k ls st S, J pc (ls.take k) st S → J pc ls st S) → J 0 av [] S) : MC_Ex_depthFor κ av S post := by
  refine fx_Met_of (cc := c_Ex_depthFor) (nL := 4) (ret := (some .int)) (by decide) rfl hq hlen ?_
  intro p e s m args below meth c hC hr hnw
  refine body _ ?_ fx_W_take
  have hF := hC.1
  have hts := hC.1.2.2.2.2
  have hm : ∀ {w : Cond}, w ∈ TB → w.before args s = true := fun h => hts _ (List.mem_cons_of_mem _ h)
  have g21 : ∀ (Q : State → Prop) (pc : Nat), decode c_Ex_depthFor pc = .ok (.getfield 21, 3) → fx_Snd (fx_W p κ.1 e rm_Ex_depthFor s m args below meth c Q (fx_A κ.2.2.2 lyX.length) 0 0 (fx_P κ.2.1 vwCl κ.2.2.1 κ.2.2.2 lyX) κ.2.2.2 4) pc (fm_getr 2 13 (pc + 3)) := fun Q pc hd => fs_getr hC (cN := 2) (j := 3) (ci := 2) (C := R_Ex) (T := T_Ex) (N := 5) rfl rfl rfl (by decide) (fun w h => List.mem_cons_of_mem _ (in_Ex w h)) (hm wd_82) hd
  refine List.forall_mem_cons.mpr ⟨fs_load_n hF d_Ex_depthFor_0 rfl, ?_⟩
  refine List.forall_mem_cons.mpr ⟨fs_table hC 3 d_Ex_depthFor_1 (by decide) (by decide +kernel) (by decide +kernel) (by decide), ?_⟩
  refine List.forall_mem_cons.mpr ⟨fs_loada_n hF d_Ex_depthFor_28 rfl, ?_⟩
  refine List.forall_mem_cons.mpr ⟨g21 _ 29 d_Ex_depthFor_29, ?_⟩
  refine List.forall_mem_cons.mpr ⟨fs_load_n hF d_Ex_depthFor_32 rfl, ?_⟩
  refine List.forall_mem_cons.mpr ⟨fs_ald hC lkXI d_Ex_depthFor_33, ?_⟩
  refine List.forall_mem_cons.mpr ⟨fs_const hF d_Ex_depthFor_34 (by decide), ?_⟩
  refine List.forall_mem_cons.mpr ⟨fs_iadd hF d_Ex_depthFor_35, ?_⟩
  refine List.forall_mem_cons.mpr ⟨fs_ret hC hr d_Ex_depthFor_36, ?_⟩
  refine List.forall_mem_cons.mpr ⟨fs_loada_n hF d_Ex_depthFor_37 rfl, ?_⟩
  refine List.forall_mem_cons.mpr ⟨g21 _ 38 d_Ex_depthFor_38, ?_⟩
  refine List.forall_mem_cons.mpr ⟨fs_load_n hF d_Ex_depthFor_41 rfl, ?_⟩
  refine List.forall_mem_cons.mpr ⟨fs_ald hC lkXI d_Ex_depthFor_42, ?_⟩
  refine List.forall_mem_cons.mpr ⟨fs_loada_n hF d_Ex_depthFor_43 rfl, ?_⟩
  refine List.forall_mem_cons.mpr ⟨g21 _ 44 d_Ex_depthFor_44, ?_⟩
  refine List.forall_mem_cons.mpr ⟨fs_load_n hF d_Ex_depthFor_47 rfl, ?_⟩
  refine List.forall_mem_cons.mpr ⟨fs_ald hC lkXI d_Ex_depthFor_48, ?_⟩
  refine List.forall_mem_cons.mpr ⟨fs_max hC (hm wd_313) (hm wd_314) (hm wd_40) (hm wd_315) (by decide) (by decide) d_Ex_depthFor_49, ?_⟩
  refine List.forall_mem_cons.mpr ⟨fs_const hF d_Ex_depthFor_52 (by decide), ?_⟩
  refine List.forall_mem_cons.mpr ⟨fs_iadd hF d_Ex_depthFor_53, ?_⟩
  refine List.forall_mem_cons.mpr ⟨fs_ret hC hr d_Ex_depthFor_54, ?_⟩
  refine List.forall_mem_cons.mpr ⟨fs_const hF d_Ex_depthFor_55 (by decide), ?_⟩
  refine List.forall_mem_cons.mpr ⟨fs_ret hC hr d_Ex_depthFor_56, ?_⟩
  exact fun _ h => absurd h List.not_mem_nil
abbrev rm_Ex_add : Room := { frames := 2, cells := 0, slots := 0, locals := 44 }
def ws_Ex_add : List Cond := .code y_Ex_add c_Ex_add 5 (some .int) :: TB
abbrev MC_Ex_add (κ : fx_K) : List fx_V → fx_S → (Int32 → fx_S → Prop) → Prop := fx_Met κ.1 κ.2.1 vwCl κ.2.2.1 κ.2.2.2 lyX nwl y_Ex_add ws_Ex_add rm_Ex_add true
def tt_Ex_add (κ : fx_K) (post : Int32 → fx_S → Prop) : List (Nat × fx_M fx_S) := [(0, fm_loada 0 1),
  (1, fm_dup 2),
  (2, fm_get 2 4 5),
  (5, fm_dupx1 6),
  (6, fm_const 1 7),
  (7, fm_iadd 8),
  (8, fm_put 2 4 11),
  (11, fm_store 4 13),
  (13, fm_loada 0 14),
  (14, fm_getr 2 10 17),
  (17, fm_load 4 19),
  (19, fm_load 1 20),
  (20, fm_ast lnXI 21),
  (21, fm_loada 0 22),
  (22, fm_getr 2 11 25),
  (25, fm_load 4 27),
  (27, fm_load 2 28),
  (28, fm_ast lnXI 29),
  (29, fm_loada 0 30),
  (30, fm_getr 2 12 33),
  (33, fm_load 4 35),
  (35, fm_load 3 36),
  (36, fm_ast lnXI 37),
  (37, fm_loada 0 38),
  (38, fm_getr 2 13 41),
  (41, fm_load 4 43),
  (43, fm_loada 0 44),
  (44, fm_load 1 45),
  (45, fm_load 2 46),
  (46, fm_load 3 47),
  (47, fm_call true 2 3 (MC_Ex_depthFor κ) 50),
  (50, fm_ast lnXI 51),
  (51, fm_load 4 53),
  (53, fm_ret post)]
set_option maxHeartbeats 4000000 in
set_option maxRecDepth 100000 in
theorem mo_Ex_add {κ : fx_K} (hq : fx_I κ lyX.length) {av : List fx_V} {S : fx_S} {post : Int32 → fx_S → Prop} (hlen : av.length ≤ 5) (body : ∀ J : fx_J fx_S, (∀ r ∈ tt_Ex_add κ post, fx_Snd J r.1 r.2) → (∀ pc k ls st S, J pc (ls.take k) st S → J pc ls st S) → J 0 av [] S) : MC_Ex_add κ av S post := by
  refine fx_Met_of (cc := c_Ex_add) (nL := 5) (ret := (some .int)) (by decide) rfl hq hlen ?_
  intro p e s m args below meth c hC hr hnw
  refine body _ ?_ fx_W_take
  have hF := hC.1
  have hts := hC.1.2.2.2.2
  have hm : ∀ {w : Cond}, w ∈ TB → w.before args s = true := fun h => hts _ (List.mem_cons_of_mem _ h)
  have g24 : ∀ (Q : State → Prop) (pc : Nat), decode c_Ex_add pc = .ok (.getfield 24, 3) → fx_Snd (fx_W p κ.1 e rm_Ex_add s m args below meth c Q (fx_A κ.2.2.2 lyX.length) 0 0 (fx_P κ.2.1 vwCl κ.2.2.1 κ.2.2.2 lyX) κ.2.2.2 5) pc (fm_get 2 4 (pc + 3)) := fun Q pc hd => fs_get hC (cN := 2) (j := 4) (ci := 2) (C := R_Ex) (T := T_Ex) (N := 5) rfl rfl rfl (by decide) (fun w h => List.mem_cons_of_mem _ (in_Ex w h)) (hm wd_83) hd
  have g9 : ∀ (Q : State → Prop) (pc : Nat), decode c_Ex_add pc = .ok (.getfield 9, 3) → fx_Snd (fx_W p κ.1 e rm_Ex_add s m args below meth c Q (fx_A κ.2.2.2 lyX.length) 0 0 (fx_P κ.2.1 vwCl κ.2.2.1 κ.2.2.2 lyX) κ.2.2.2 5) pc (fm_getr 2 10 (pc + 3)) := fun Q pc hd => fs_getr hC (cN := 2) (j := 0) (ci := 2) (C := R_Ex) (T := T_Ex) (N := 5) rfl rfl rfl (by decide) (fun w h => List.mem_cons_of_mem _ (in_Ex w h)) (hm wd_79) hd
  have g15 : ∀ (Q : State → Prop) (pc : Nat), decode c_Ex_add pc = .ok (.getfield 15, 3) → fx_Snd (fx_W p κ.1 e rm_Ex_add s m args below meth c Q (fx_A κ.2.2.2 lyX.length) 0 0 (fx_P κ.2.1 vwCl κ.2.2.1 κ.2.2.2 lyX) κ.2.2.2 5) pc (fm_getr 2 11 (pc + 3)) := fun Q pc hd => fs_getr hC (cN := 2) (j := 1) (ci := 2) (C := R_Ex) (T := T_Ex) (N := 5) rfl rfl rfl (by decide) (fun w h => List.mem_cons_of_mem _ (in_Ex w h)) (hm wd_80) hd
  have g18 : ∀ (Q : State → Prop) (pc : Nat), decode c_Ex_add pc = .ok (.getfield 18, 3) → fx_Snd (fx_W p κ.1 e rm_Ex_add s m args below meth c Q (fx_A κ.2.2.2 lyX.length) 0 0 (fx_P κ.2.1 vwCl κ.2.2.1 κ.2.2.2 lyX) κ.2.2.2 5) pc (fm_getr 2 12 (pc + 3)) := fun Q pc hd => fs_getr hC (cN := 2) (j := 2) (ci := 2) (C := R_Ex) (T := T_Ex) (N := 5) rfl rfl rfl (by decide) (fun w h => List.mem_cons_of_mem _ (in_Ex w h)) (hm wd_81) hd
  have g21 : ∀ (Q : State → Prop) (pc : Nat), decode c_Ex_add pc = .ok (.getfield 21, 3) → fx_Snd (fx_W p κ.1 e rm_Ex_add s m args below meth c Q (fx_A κ.2.2.2 lyX.length) 0 0 (fx_P κ.2.1 vwCl κ.2.2.1 κ.2.2.2 lyX) κ.2.2.2 5) pc (fm_getr 2 13 (pc + 3)) := fun Q pc hd => fs_getr hC (cN := 2) (j := 3) (ci := 2) (C := R_Ex) (T := T_Ex) (N := 5) rfl rfl rfl (by decide) (fun w h => List.mem_cons_of_mem _ (in_Ex w h)) (hm wd_82) hd
  refine List.forall_mem_cons.mpr ⟨fs_loada_n hF d_Ex_add_0 rfl, ?_⟩
  refine List.forall_mem_cons.mpr ⟨fs_dup hF d_Ex_add_1, ?_⟩
  refine List.forall_mem_cons.mpr ⟨g24 _ 2 d_Ex_add_2, ?_⟩
  refine List.forall_mem_cons.mpr ⟨fs_dupx1 hF d_Ex_add_5, ?_⟩
  refine List.forall_mem_cons.mpr ⟨fs_const hF d_Ex_add_6 (by decide), ?_⟩
  refine List.forall_mem_cons.mpr ⟨fs_iadd hF d_Ex_add_7, ?_⟩
  refine List.forall_mem_cons.mpr ⟨fs_put hC (cN := 2) (j := 4) (ci := 2) (C := R_Ex) (T := T_Ex) (N := 5) rfl rfl rfl (by decide) ty_Ex tk_Ex nm_Ex rfl (by decide +kernel) (fun w h => List.mem_cons_of_mem _ (in_Ex w h)) (hm wd_83) d_Ex_add_8, ?_⟩
  refine List.forall_mem_cons.mpr ⟨fs_store hF d_Ex_add_11 (by decide), ?_⟩
  refine List.forall_mem_cons.mpr ⟨fs_loada_n hF d_Ex_add_13 rfl, ?_⟩
  refine List.forall_mem_cons.mpr ⟨g9 _ 14 d_Ex_add_14, ?_⟩
  refine List.forall_mem_cons.mpr ⟨fs_load hF d_Ex_add_17, ?_⟩
  refine List.forall_mem_cons.mpr ⟨fs_load_n hF d_Ex_add_19 rfl, ?_⟩
  refine List.forall_mem_cons.mpr ⟨fs_ast hC lkXI d_Ex_add_20, ?_⟩
  refine List.forall_mem_cons.mpr ⟨fs_loada_n hF d_Ex_add_21 rfl, ?_⟩
  refine List.forall_mem_cons.mpr ⟨g15 _ 22 d_Ex_add_22, ?_⟩
  refine List.forall_mem_cons.mpr ⟨fs_load hF d_Ex_add_25, ?_⟩
  refine List.forall_mem_cons.mpr ⟨fs_load_n hF d_Ex_add_27 rfl, ?_⟩
  refine List.forall_mem_cons.mpr ⟨fs_ast hC lkXI d_Ex_add_28, ?_⟩
  refine List.forall_mem_cons.mpr ⟨fs_loada_n hF d_Ex_add_29 rfl, ?_⟩
  refine List.forall_mem_cons.mpr ⟨g18 _ 30 d_Ex_add_30, ?_⟩
  refine List.forall_mem_cons.mpr ⟨fs_load hF d_Ex_add_33, ?_⟩
  refine List.forall_mem_cons.mpr ⟨fs_load_n hF d_Ex_add_35 rfl, ?_⟩
  refine List.forall_mem_cons.mpr ⟨fs_ast hC lkXI d_Ex_add_36, ?_⟩
  refine List.forall_mem_cons.mpr ⟨fs_loada_n hF d_Ex_add_37 rfl, ?_⟩
  refine List.forall_mem_cons.mpr ⟨g21 _ 38 d_Ex_add_38, ?_⟩
  refine List.forall_mem_cons.mpr ⟨fs_load hF d_Ex_add_41, ?_⟩
  refine List.forall_mem_cons.mpr ⟨fs_loada_n hF d_Ex_add_43 rfl, ?_⟩
  refine List.forall_mem_cons.mpr ⟨fs_load_n hF d_Ex_add_44 rfl, ?_⟩
  refine List.forall_mem_cons.mpr ⟨fs_load_n hF d_Ex_add_45 rfl, ?_⟩
  refine List.forall_mem_cons.mpr ⟨fs_load_n hF d_Ex_add_46 rfl, ?_⟩
  refine List.forall_mem_cons.mpr ⟨fs_callV hC nwl_ok hnw (cN := 2) (ci := 2) (C := R_Ex) rfl rfl ⟨callB_of 3 hts (tb_good wd_312) rfl rfl rfl (hm wd_34) (hm wd_309) pd_Ex_depthFor ⟨Nat.le_of_ble_eq_true rfl, Nat.le_of_ble_eq_true rfl⟩, hm wd_311, hm wd_1⟩ d_Ex_add_47, ?_⟩
  refine List.forall_mem_cons.mpr ⟨fs_ast hC lkXI d_Ex_add_50, ?_⟩
  refine List.forall_mem_cons.mpr ⟨fs_load hF d_Ex_add_51, ?_⟩
  refine List.forall_mem_cons.mpr ⟨fs_ret hC hr d_Ex_add_53, ?_⟩
  exact fun _ h => absurd h List.not_mem_nil
abbrev rm_Ex_holds : Room := { frames := 2, cells := 0, slots := 0, locals := 42 }
def ws_Ex_holds : List Cond := .code y_Ex_holds c_Ex_holds 6 (some .boolean) :: TB
abbrev MC_Ex_holds (κ : fx_K) : List fx_V → fx_S → (Int32 → fx_S → Prop) → Prop := fx_Met κ.1 κ.2.1 vwCl κ.2.2.1 κ.2.2.2 lyX nwl y_Ex_holds ws_Ex_holds rm_Ex_holds true
def tt_Ex_holds (κ : fx_K) (post : Int32 → fx_S → Prop) : List (Nat × fx_M fx_S) := [(0, fm_loada 0 1),
  (1, fm_getr 2 11 4),
  (4, fm_load 1 5),
  (5, fm_ald lnXI 6),
  (6, fm_store 4 8),
  (8, fm_loada 0 9),
  (9, fm_getr 2 12 12),
  (12, fm_load 1 13),
  (13, fm_ald lnXI 14),
  (14, fm_store 5 16),
  (16, fm_loada 0 17),
  (17, fm_getr 2 10 20),
  (20, fm_load 1 21),
  (21, fm_ald lnXI 22),
  (22, fm_sw [(0, 64), (1, 74), (2, 84), (3, 94), (4, 104), (5, 133), (6, 148)] 172),
  (64, fm_load 4 66),
  (66, fm_loada 3 67),
  (67, fm_get 6 2 70),
  (70, fm_calls true 2 (MC_Fc_isIn κ) 73),
  (73, fm_zret post),
  (74, fm_load 4 76),
  (76, fm_loada 3 77),
  (77, fm_get 6 3 80),
  (80, fm_calls true 2 (MC_Fc_isIn κ) 83),
  (83, fm_zret post),
  (84, fm_load 4 86),
  (86, fm_loada 3 87),
  (87, fm_get 6 4 90),
  (90, fm_calls true 2 (MC_Fc_isIn κ) 93),
  (93, fm_zret post),
  (94, fm_load 4 96),
  (96, fm_loada 3 97),
  (97, fm_get 6 5 100),
  (100, fm_calls true 2 (MC_Fc_isIn κ) 103),
  (103, fm_zret post),
  (104, fm_load 4 106),
  (106, fm_loada 3 107),
  (107, fm_get 6 5 110),
  (110, fm_calls true 2 (MC_Fc_isIn κ) 113),
  (113, fm_ifeq 131 116),
  (116, fm_loada 3 117),
  (117, fm_load 4 119),
  (119, fm_call true 6 1 (MC_Ti_timeOf κ) 122),
  (122, fm_load 5 124),
  (124, fm_cmplt 131 127),
  (127, fm_const 1 128),
  (128, fm_goto 132),
  (131, fm_const 0 132),
  (132, fm_zret post),
  (133, fm_load 4 135),
  (135, fm_load 2 136),
  (136, fm_calls true 2 (MC_Fc_isIn κ) 139),
  (139, fm_ifne 146 142),
  (142, fm_const 1 143),
  (143, fm_goto 147),
  (146, fm_const 0 147),
  (147, fm_zret post),
  (148, fm_load 4 150),
  (150, fm_load 2 151),
  (151, fm_calls true 2 (MC_Fc_isIn κ) 154),
  (154, fm_ifeq 170 157),
  (157, fm_load 5 159),
  (159, fm_load 2 160),
  (160, fm_calls true 2 (MC_Fc_isIn κ) 163),
  (163, fm_ifeq 170 166),
  (166, fm_const 1 167),
  (167, fm_goto 171),
  (170, fm_const 0 171),
  (171, fm_zret post),
  (172, fm_load 4 174),
  (174, fm_load 2 175),
  (175, fm_calls true 2 (MC_Fc_isIn κ) 178),
  (178, fm_ifne 190 181),
  (181, fm_load 5 183),
  (183, fm_load 2 184),
  (184, fm_calls true 2 (MC_Fc_isIn κ) 187),
  (187, fm_ifeq 194 190),
  (190, fm_const 1 191),
  (191, fm_goto 195),
  (194, fm_const 0 195),
  (195, fm_zret post)]
set_option maxHeartbeats 4000000 in
set_option maxRecDepth 100000 in
theorem mo_Ex_holds {κ : fx_K} (hq : fx_I κ lyX.length) {av : List fx_V} {S : fx_S} {post : Int32 → fx_S → Prop} (hlen : av.length ≤ 6) (body : ∀ J : fx_J fx_S, (∀ r ∈ tt_Ex_holds κ post, fx_Snd J r.1 r.2) → (∀ pc k ls st S, J pc (ls.take k) st S → J pc ls st S) → J 0 av [] S) : MC_Ex_holds κ av S post := by
  refine fx_Met_of (cc := c_Ex_holds) (nL := 6) (ret := (some .boolean)) (by decide) rfl hq hlen ?_
  intro p e s m args below meth c hC hr hnw
  refine body _ ?_ fx_W_take
  have hF := hC.1
  have hts := hC.1.2.2.2.2
  have hm : ∀ {w : Cond}, w ∈ TB → w.before args s = true := fun h => hts _ (List.mem_cons_of_mem _ h)
  have g15 : ∀ (Q : State → Prop) (pc : Nat), decode c_Ex_holds pc = .ok (.getfield 15, 3) → fx_Snd (fx_W p κ.1 e rm_Ex_holds s m args below meth c Q (fx_A κ.2.2.2 lyX.length) 0 0 (fx_P κ.2.1 vwCl κ.2.2.1 κ.2.2.2 lyX) κ.2.2.2 6) pc (fm_getr 2 11 (pc + 3)) := fun Q pc hd => fs_getr hC (cN := 2) (j := 1) (ci := 2) (C := R_Ex) (T := T_Ex) (N := 5) rfl rfl rfl (by decide) (fun w h => List.mem_cons_of_mem _ (in_Ex w h)) (hm wd_80) hd
  have g18 : ∀ (Q : State → Prop) (pc : Nat), decode c_Ex_holds pc = .ok (.getfield 18, 3) → fx_Snd (fx_W p κ.1 e rm_Ex_holds s m args below meth c Q (fx_A κ.2.2.2 lyX.length) 0 0 (fx_P κ.2.1 vwCl κ.2.2.1 κ.2.2.2 lyX) κ.2.2.2 6) pc (fm_getr 2 12 (pc + 3)) := fun Q pc hd => fs_getr hC (cN := 2) (j := 2) (ci := 2) (C := R_Ex) (T := T_Ex) (N := 5) rfl rfl rfl (by decide) (fun w h => List.mem_cons_of_mem _ (in_Ex w h)) (hm wd_81) hd
  have g9 : ∀ (Q : State → Prop) (pc : Nat), decode c_Ex_holds pc = .ok (.getfield 9, 3) → fx_Snd (fx_W p κ.1 e rm_Ex_holds s m args below meth c Q (fx_A κ.2.2.2 lyX.length) 0 0 (fx_P κ.2.1 vwCl κ.2.2.1 κ.2.2.2 lyX) κ.2.2.2 6) pc (fm_getr 2 10 (pc + 3)) := fun Q pc hd => fs_getr hC (cN := 2) (j := 0) (ci := 2) (C := R_Ex) (T := T_Ex) (N := 5) rfl rfl rfl (by decide) (fun w h => List.mem_cons_of_mem _ (in_Ex w h)) (hm wd_79) hd
  have g58 : ∀ (Q : State → Prop) (pc : Nat), decode c_Ex_holds pc = .ok (.getfield 58, 3) → fx_Snd (fx_W p κ.1 e rm_Ex_holds s m args below meth c Q (fx_A κ.2.2.2 lyX.length) 0 0 (fx_P κ.2.1 vwCl κ.2.2.1 κ.2.2.2 lyX) κ.2.2.2 6) pc (fm_get 6 2 (pc + 3)) := fun Q pc hd => fs_getN hC (cN := 6) (j := 2) (ci := 6) (C := R_Ti) (T := T_Ti) (N := 11) rfl rfl rfl (by decide) (fun w h => List.mem_cons_of_mem _ (in_Ti w h)) (hnw _ (List.mem_of_getElem? (i := 15) rfl)) hd
  have g67 : ∀ (Q : State → Prop) (pc : Nat), decode c_Ex_holds pc = .ok (.getfield 67, 3) → fx_Snd (fx_W p κ.1 e rm_Ex_holds s m args below meth c Q (fx_A κ.2.2.2 lyX.length) 0 0 (fx_P κ.2.1 vwCl κ.2.2.1 κ.2.2.2 lyX) κ.2.2.2 6) pc (fm_get 6 3 (pc + 3)) := fun Q pc hd => fs_getN hC (cN := 6) (j := 3) (ci := 6) (C := R_Ti) (T := T_Ti) (N := 11) rfl rfl rfl (by decide) (fun w h => List.mem_cons_of_mem _ (in_Ti w h)) (hnw _ (List.mem_of_getElem? (i := 16) rfl)) hd
  have g70 : ∀ (Q : State → Prop) (pc : Nat), decode c_Ex_holds pc = .ok (.getfield 70, 3) → fx_Snd (fx_W p κ.1 e rm_Ex_holds s m args below meth c Q (fx_A κ.2.2.2 lyX.length) 0 0 (fx_P κ.2.1 vwCl κ.2.2.1 κ.2.2.2 lyX) κ.2.2.2 6) pc (fm_get 6 4 (pc + 3)) := fun Q pc hd => fs_getN hC (cN := 6) (j := 4) (ci := 6) (C := R_Ti) (T := T_Ti) (N := 11) rfl rfl rfl (by decide) (fun w h => List.mem_cons_of_mem _ (in_Ti w h)) (hnw _ (List.mem_of_getElem? (i := 17) rfl)) hd
  have g73 : ∀ (Q : State → Prop) (pc : Nat), decode c_Ex_holds pc = .ok (.getfield 73, 3) → fx_Snd (fx_W p κ.1 e rm_Ex_holds s m args below meth c Q (fx_A κ.2.2.2 lyX.length) 0 0 (fx_P κ.2.1 vwCl κ.2.2.1 κ.2.2.2 lyX) κ.2.2.2 6) pc (fm_get 6 5 (pc + 3)) := fun Q pc hd => fs_getN hC (cN := 6) (j := 5) (ci := 6) (C := R_Ti) (T := T_Ti) (N := 11) rfl rfl rfl (by decide) (fun w h => List.mem_cons_of_mem _ (in_Ti w h)) (hnw _ (List.mem_of_getElem? (i := 18) rfl)) hd
  refine List.forall_mem_cons.mpr ⟨fs_loada_n hF d_Ex_holds_0 rfl, ?_⟩
  refine List.forall_mem_cons.mpr ⟨g15 _ 1 d_Ex_holds_1, ?_⟩
  refine List.forall_mem_cons.mpr ⟨fs_load_n hF d_Ex_holds_4 rfl, ?_⟩
  refine List.forall_mem_cons.mpr ⟨fs_ald hC lkXI d_Ex_holds_5, ?_⟩
  refine List.forall_mem_cons.mpr ⟨fs_store hF d_Ex_holds_6 (by decide), ?_⟩
  refine List.forall_mem_cons.mpr ⟨fs_loada_n hF d_Ex_holds_8 rfl, ?_⟩
  refine List.forall_mem_cons.mpr ⟨g18 _ 9 d_Ex_holds_9, ?_⟩
  refine List.forall_mem_cons.mpr ⟨fs_load_n hF d_Ex_holds_12 rfl, ?_⟩
  refine List.forall_mem_cons.mpr ⟨fs_ald hC lkXI d_Ex_holds_13, ?_⟩
  refine List.forall_mem_cons.mpr ⟨fs_store hF d_Ex_holds_14 (by decide), ?_⟩
  refine List.forall_mem_cons.mpr ⟨fs_loada_n hF d_Ex_holds_16 rfl, ?_⟩
  refine List.forall_mem_cons.mpr ⟨g9 _ 17 d_Ex_holds_17, ?_⟩
  refine List.forall_mem_cons.mpr ⟨fs_load_n hF d_Ex_holds_20 rfl, ?_⟩
  refine List.forall_mem_cons.mpr ⟨fs_ald hC lkXI d_Ex_holds_21, ?_⟩
  refine List.forall_mem_cons.mpr ⟨fs_table hC 7 d_Ex_holds_22 (by decide) (by decide +kernel) (by decide +kernel) (by decide), ?_⟩
  refine List.forall_mem_cons.mpr ⟨fs_load hF d_Ex_holds_64, ?_⟩
  refine List.forall_mem_cons.mpr ⟨fs_loada_n hF d_Ex_holds_66 rfl, ?_⟩
  refine List.forall_mem_cons.mpr ⟨g58 _ 67 d_Ex_holds_67, ?_⟩
  refine List.forall_mem_cons.mpr ⟨fs_callSN hC nwl_ok hnw ⟨va_cnB 2 hts (tb_good wd_369) rfl rfl rfl (hnw _ (List.mem_of_getElem? (i := 29) rfl)) (hm wd_32) pd_Fc_isIn ⟨Nat.le_of_ble_eq_true rfl, Nat.le_of_ble_eq_true rfl⟩, hm wd_368⟩ d_Ex_holds_70, ?_⟩
  refine List.forall_mem_cons.mpr ⟨fs_zret hC hr d_Ex_holds_73, ?_⟩
  refine List.forall_mem_cons.mpr ⟨fs_load hF d_Ex_holds_74, ?_⟩
  refine List.forall_mem_cons.mpr ⟨fs_loada_n hF d_Ex_holds_76 rfl, ?_⟩
  refine List.forall_mem_cons.mpr ⟨g67 _ 77 d_Ex_holds_77, ?_⟩
  refine List.forall_mem_cons.mpr ⟨fs_callSN hC nwl_ok hnw ⟨va_cnB 2 hts (tb_good wd_369) rfl rfl rfl (hnw _ (List.mem_of_getElem? (i := 29) rfl)) (hm wd_32) pd_Fc_isIn ⟨Nat.le_of_ble_eq_true rfl, Nat.le_of_ble_eq_true rfl⟩, hm wd_368⟩ d_Ex_holds_80, ?_⟩
  refine List.forall_mem_cons.mpr ⟨fs_zret hC hr d_Ex_holds_83, ?_⟩
  refine List.forall_mem_cons.mpr ⟨fs_load hF d_Ex_holds_84, ?_⟩
  refine List.forall_mem_cons.mpr ⟨fs_loada_n hF d_Ex_holds_86 rfl, ?_⟩
  refine List.forall_mem_cons.mpr ⟨g70 _ 87 d_Ex_holds_87, ?_⟩
  refine List.forall_mem_cons.mpr ⟨fs_callSN hC nwl_ok hnw ⟨va_cnB 2 hts (tb_good wd_369) rfl rfl rfl (hnw _ (List.mem_of_getElem? (i := 29) rfl)) (hm wd_32) pd_Fc_isIn ⟨Nat.le_of_ble_eq_true rfl, Nat.le_of_ble_eq_true rfl⟩, hm wd_368⟩ d_Ex_holds_90, ?_⟩
  refine List.forall_mem_cons.mpr ⟨fs_zret hC hr d_Ex_holds_93, ?_⟩
  refine List.forall_mem_cons.mpr ⟨fs_load hF d_Ex_holds_94, ?_⟩
  refine List.forall_mem_cons.mpr ⟨fs_loada_n hF d_Ex_holds_96 rfl, ?_⟩
  refine List.forall_mem_cons.mpr ⟨g73 _ 97 d_Ex_holds_97, ?_⟩
  refine List.forall_mem_cons.mpr ⟨fs_callSN hC nwl_ok hnw ⟨va_cnB 2 hts (tb_good wd_369) rfl rfl rfl (hnw _ (List.mem_of_getElem? (i := 29) rfl)) (hm wd_32) pd_Fc_isIn ⟨Nat.le_of_ble_eq_true rfl, Nat.le_of_ble_eq_true rfl⟩, hm wd_368⟩ d_Ex_holds_100, ?_⟩
  refine List.forall_mem_cons.mpr ⟨fs_zret hC hr d_Ex_holds_103, ?_⟩
  refine List.forall_mem_cons.mpr ⟨fs_load hF d_Ex_holds_104, ?_⟩
  refine List.forall_mem_cons.mpr ⟨fs_loada_n hF d_Ex_holds_106 rfl, ?_⟩
  refine List.forall_mem_cons.mpr ⟨g73 _ 107 d_Ex_holds_107, ?_⟩
  refine List.forall_mem_cons.mpr ⟨fs_callSN hC nwl_ok hnw ⟨va_cnB 2 hts (tb_good wd_369) rfl rfl rfl (hnw _ (List.mem_of_getElem? (i := 29) rfl)) (hm wd_32) pd_Fc_isIn ⟨Nat.le_of_ble_eq_true rfl, Nat.le_of_ble_eq_true rfl⟩, hm wd_368⟩ d_Ex_holds_110, ?_⟩
  refine List.forall_mem_cons.mpr ⟨fs_ifeq hF d_Ex_holds_113 (by decide), ?_⟩
  refine List.forall_mem_cons.mpr ⟨fs_loada_n hF d_Ex_holds_116 rfl, ?_⟩
  refine List.forall_mem_cons.mpr ⟨fs_load hF d_Ex_holds_117, ?_⟩
  refine List.forall_mem_cons.mpr ⟨fs_callV hC nwl_ok hnw (cN := 6) (ci := 6) (C := R_Ti) rfl rfl ⟨callB_of 1 hts (tb_good wd_432) rfl rfl rfl (hm wd_38) (hm wd_429) pd_Ti_timeOf ⟨Nat.le_of_ble_eq_true rfl, Nat.le_of_ble_eq_true rfl⟩, hm wd_430, hm wd_431⟩ d_Ex_holds_119, ?_⟩
  refine List.forall_mem_cons.mpr ⟨fs_load hF d_Ex_holds_122, ?_⟩
  refine List.forall_mem_cons.mpr ⟨fs_cmplt hF d_Ex_holds_124 (by decide), ?_⟩
  refine List.forall_mem_cons.mpr ⟨fs_const hF d_Ex_holds_127 (by decide), ?_⟩
  refine List.forall_mem_cons.mpr ⟨fs_goto hF d_Ex_holds_128 (by decide), ?_⟩
  refine List.forall_mem_cons.mpr ⟨fs_const hF d_Ex_holds_131 (by decide), ?_⟩
  refine List.forall_mem_cons.mpr ⟨fs_zret hC hr d_Ex_holds_132, ?_⟩
  refine List.forall_mem_cons.mpr ⟨fs_load hF d_Ex_holds_133, ?_⟩
  refine List.forall_mem_cons.mpr ⟨fs_load_n hF d_Ex_holds_135 rfl, ?_⟩
  refine List.forall_mem_cons.mpr ⟨fs_callSN hC nwl_ok hnw ⟨va_cnB 2 hts (tb_good wd_369) rfl rfl rfl (hnw _ (List.mem_of_getElem? (i := 29) rfl)) (hm wd_32) pd_Fc_isIn ⟨Nat.le_of_ble_eq_true rfl, Nat.le_of_ble_eq_true rfl⟩, hm wd_368⟩ d_Ex_holds_136, ?_⟩
  refine List.forall_mem_cons.mpr ⟨fs_ifne hF d_Ex_holds_139 (by decide), ?_⟩
  refine List.forall_mem_cons.mpr ⟨fs_const hF d_Ex_holds_142 (by decide), ?_⟩
  refine List.forall_mem_cons.mpr ⟨fs_goto hF d_Ex_holds_143 (by decide), ?_⟩
  refine List.forall_mem_cons.mpr ⟨fs_const hF d_Ex_holds_146 (by decide), ?_⟩
  refine List.forall_mem_cons.mpr ⟨fs_zret hC hr d_Ex_holds_147, ?_⟩
  refine List.forall_mem_cons.mpr ⟨fs_load hF d_Ex_holds_148, ?_⟩
  refine List.forall_mem_cons.mpr ⟨fs_load_n hF d_Ex_holds_150 rfl, ?_⟩
  refine List.forall_mem_cons.mpr ⟨fs_callSN hC nwl_ok hnw ⟨va_cnB 2 hts (tb_good wd_369) rfl rfl rfl (hnw _ (List.mem_of_getElem? (i := 29) rfl)) (hm wd_32) pd_Fc_isIn ⟨Nat.le_of_ble_eq_true rfl, Nat.le_of_ble_eq_true rfl⟩, hm wd_368⟩ d_Ex_holds_151, ?_⟩
  refine List.forall_mem_cons.mpr ⟨fs_ifeq hF d_Ex_holds_154 (by decide), ?_⟩
  refine List.forall_mem_cons.mpr ⟨fs_load hF d_Ex_holds_157, ?_⟩
  refine List.forall_mem_cons.mpr ⟨fs_load_n hF d_Ex_holds_159 rfl, ?_⟩
  refine List.forall_mem_cons.mpr ⟨fs_callSN hC nwl_ok hnw ⟨va_cnB 2 hts (tb_good wd_369) rfl rfl rfl (hnw _ (List.mem_of_getElem? (i := 29) rfl)) (hm wd_32) pd_Fc_isIn ⟨Nat.le_of_ble_eq_true rfl, Nat.le_of_ble_eq_true rfl⟩, hm wd_368⟩ d_Ex_holds_160, ?_⟩
  refine List.forall_mem_cons.mpr ⟨fs_ifeq hF d_Ex_holds_163 (by decide), ?_⟩
  refine List.forall_mem_cons.mpr ⟨fs_const hF d_Ex_holds_166 (by decide), ?_⟩
  refine List.forall_mem_cons.mpr ⟨fs_goto hF d_Ex_holds_167 (by decide), ?_⟩
  refine List.forall_mem_cons.mpr ⟨fs_const hF d_Ex_holds_170 (by decide), ?_⟩
  refine List.forall_mem_cons.mpr ⟨fs_zret hC hr d_Ex_holds_171, ?_⟩
  refine List.forall_mem_cons.mpr ⟨fs_load hF d_Ex_holds_172, ?_⟩
  refine List.forall_mem_cons.mpr ⟨fs_load_n hF d_Ex_holds_174 rfl, ?_⟩
  refine List.forall_mem_cons.mpr ⟨fs_callSN hC nwl_ok hnw ⟨va_cnB 2 hts (tb_good wd_369) rfl rfl rfl (hnw _ (List.mem_of_getElem? (i := 29) rfl)) (hm wd_32) pd_Fc_isIn ⟨Nat.le_of_ble_eq_true rfl, Nat.le_of_ble_eq_true rfl⟩, hm wd_368⟩ d_Ex_holds_175, ?_⟩
  refine List.forall_mem_cons.mpr ⟨fs_ifne hF d_Ex_holds_178 (by decide), ?_⟩
  refine List.forall_mem_cons.mpr ⟨fs_load hF d_Ex_holds_181, ?_⟩
  refine List.forall_mem_cons.mpr ⟨fs_load_n hF d_Ex_holds_183 rfl, ?_⟩
  refine List.forall_mem_cons.mpr ⟨fs_callSN hC nwl_ok hnw ⟨va_cnB 2 hts (tb_good wd_369) rfl rfl rfl (hnw _ (List.mem_of_getElem? (i := 29) rfl)) (hm wd_32) pd_Fc_isIn ⟨Nat.le_of_ble_eq_true rfl, Nat.le_of_ble_eq_true rfl⟩, hm wd_368⟩ d_Ex_holds_184, ?_⟩
  refine List.forall_mem_cons.mpr ⟨fs_ifeq hF d_Ex_holds_187 (by decide), ?_⟩
  refine List.forall_mem_cons.mpr ⟨fs_const hF d_Ex_holds_190 (by decide), ?_⟩
  refine List.forall_mem_cons.mpr ⟨fs_goto hF d_Ex_holds_191 (by decide), ?_⟩
  refine List.forall_mem_cons.mpr ⟨fs_const hF d_Ex_holds_194 (by decide), ?_⟩
  refine List.forall_mem_cons.mpr ⟨fs_zret hC hr d_Ex_holds_195, ?_⟩
  exact fun _ h => absurd h List.not_mem_nil
abbrev rm_Ex_trueIn : Room := { frames := 3, cells := 0, slots := 0, locals := 67 }
def ws_Ex_trueIn : List Cond := .code y_Ex_trueIn c_Ex_trueIn 4 (some .int) :: TB
abbrev MC_Ex_trueIn (κ : fx_K) : List fx_V → fx_S → (Int32 → fx_S → Prop) → Prop := fx_Met κ.1 κ.2.1 vwCl κ.2.2.1 κ.2.2.2 lyX nwl y_Ex_trueIn ws_Ex_trueIn rm_Ex_trueIn true
def tt_Ex_trueIn (κ : fx_K) (post : Int32 → fx_S → Prop) : List (Nat × fx_M fx_S) := [(0, fm_const 0 1),
  (1, fm_store 2 2),
  (2, fm_const 0 3),
  (3, fm_store 3 4),
  (4, fm_load 3 5),
  (5, fm_loada 0 6),
  (6, fm_get 2 4 9),
  (9, fm_cmpge 34 12),
  (12, fm_loada 0 13),
  (13, fm_load 3 14),
  (14, fm_load 2 15),
  (15, fm_loada 1 16),
  (16, fm_call true 2 3 (MC_Ex_holds κ) 19),
  (19, fm_ifeq 28 22),
  (22, fm_load 2 23),
  (23, fm_const 1 24),
  (24, fm_load 3 25),
  (25, fm_ishl 26),
  (26, fm_ior 27),
  (27, fm_store 2 28),
  (28, fm_inc 3 1 31),
  (31, fm_goto 4),
  (34, fm_load 2 35),
  (35, fm_ret post)]
set_option maxHeartbeats 4000000 in
set_option maxRecDepth 100000 in
theorem mo_Ex_trueIn {κ : fx_K} (hq : fx_I κ lyX.length) {av : List fx_V} {S : fx_S} {post : Int32 → fx_S → Prop} (hlen : av.length ≤ 4) (body : ∀ J : fx_J fx_S, (∀ r ∈ tt_Ex_trueIn κ post, fx_Snd J r.1 r.2) → (∀ pc k ls st S, J pc (ls.take k) st S → J pc ls st S) → J 0 av [] S) : MC_Ex_trueIn κ av S post := by
  refine fx_Met_of (cc := c_Ex_trueIn) (nL := 4) (ret := (some .int)) (by decide) rfl hq hlen ?_
  intro p e s m args below meth c hC hr hnw
  refine body _ ?_ fx_W_take
  have hF := hC.1
  have hts := hC.1.2.2.2.2
  have hm : ∀ {w : Cond}, w ∈ TB → w.before args s = true := fun h => hts _ (List.mem_cons_of_mem _ h)
  have g24 : ∀ (Q : State → Prop) (pc : Nat), decode c_Ex_trueIn pc = .ok (.getfield 24, 3) → fx_Snd (fx_W p κ.1 e rm_Ex_trueIn s m args below meth c Q (fx_A κ.2.2.2 lyX.length) 0 0 (fx_P κ.2.1 vwCl κ.2.2.1 κ.2.2.2 lyX) κ.2.2.2 4) pc (fm_get 2 4 (pc + 3)) := fun Q pc hd => fs_get hC (cN := 2) (j := 4) (ci := 2) (C := R_Ex) (T := T_Ex) (N := 5) rfl rfl rfl (by decide) (fun w h => List.mem_cons_of_mem _ (in_Ex w h)) (hm wd_83) hd
  refine List.forall_mem_cons.mpr ⟨fs_const hF d_Ex_trueIn_0 (by decide), ?_⟩
  refine List.forall_mem_cons.mpr ⟨fs_store_n hF d_Ex_trueIn_1 rfl (by decide), ?_⟩
  refine List.forall_mem_cons.mpr ⟨fs_const hF d_Ex_trueIn_2 (by decide), ?_⟩
  refine List.forall_mem_cons.mpr ⟨fs_store_n hF d_Ex_trueIn_3 rfl (by decide), ?_⟩
  refine List.forall_mem_cons.mpr ⟨fs_load_n hF d_Ex_trueIn_4 rfl, ?_⟩
  refine List.forall_mem_cons.mpr ⟨fs_loada_n hF d_Ex_trueIn_5 rfl, ?_⟩
  refine List.forall_mem_cons.mpr ⟨g24 _ 6 d_Ex_trueIn_6, ?_⟩
  refine List.forall_mem_cons.mpr ⟨fs_cmpge hF d_Ex_trueIn_9 (by decide), ?_⟩
  refine List.forall_mem_cons.mpr ⟨fs_loada_n hF d_Ex_trueIn_12 rfl, ?_⟩
  refine List.forall_mem_cons.mpr ⟨fs_load_n hF d_Ex_trueIn_13 rfl, ?_⟩
  refine List.forall_mem_cons.mpr ⟨fs_load_n hF d_Ex_trueIn_14 rfl, ?_⟩
  refine List.forall_mem_cons.mpr ⟨fs_loada_n hF d_Ex_trueIn_15 rfl, ?_⟩
  refine List.forall_mem_cons.mpr ⟨fs_callV hC nwl_ok hnw (cN := 2) (ci := 2) (C := R_Ex) rfl rfl ⟨callB_of 3 hts (tb_good wd_427) rfl rfl rfl (hm wd_34) (hm wd_424) pd_Ex_holds ⟨Nat.le_of_ble_eq_true rfl, Nat.le_of_ble_eq_true rfl⟩, hm wd_426, hm wd_6⟩ d_Ex_trueIn_16, ?_⟩
  refine List.forall_mem_cons.mpr ⟨fs_ifeq hF d_Ex_trueIn_19 (by decide), ?_⟩
  refine List.forall_mem_cons.mpr ⟨fs_load_n hF d_Ex_trueIn_22 rfl, ?_⟩
  refine List.forall_mem_cons.mpr ⟨fs_const hF d_Ex_trueIn_23 (by decide), ?_⟩
  refine List.forall_mem_cons.mpr ⟨fs_load_n hF d_Ex_trueIn_24 rfl, ?_⟩
  refine List.forall_mem_cons.mpr ⟨fs_ishl hF d_Ex_trueIn_25, ?_⟩
  refine List.forall_mem_cons.mpr ⟨fs_ior hF d_Ex_trueIn_26, ?_⟩
  refine List.forall_mem_cons.mpr ⟨fs_store_n hF d_Ex_trueIn_27 rfl (by decide), ?_⟩
  refine List.forall_mem_cons.mpr ⟨fs_inc hF d_Ex_trueIn_28 (by decide) (by decide), ?_⟩
  refine List.forall_mem_cons.mpr ⟨fs_goto hF d_Ex_trueIn_31 (by decide), ?_⟩
  refine List.forall_mem_cons.mpr ⟨fs_load_n hF d_Ex_trueIn_34 rfl, ?_⟩
  refine List.forall_mem_cons.mpr ⟨fs_ret hC hr d_Ex_trueIn_35, ?_⟩
  exact fun _ h => absurd h List.not_mem_nil
abbrev rm_Tr_add : Room := { frames := 0, cells := 0, slots := 0, locals := 0 }
def ws_Tr_add : List Cond := .code y_Tr_add c_Tr_add 6 (some .int) :: TB
abbrev MC_Tr_add (κ : fx_K) : List fx_V → fx_S → (Int32 → fx_S → Prop) → Prop := fx_Met κ.1 κ.2.1 vwCl κ.2.2.1 κ.2.2.2 lyX nwl y_Tr_add ws_Tr_add rm_Tr_add true
def tt_Tr_add (κ : fx_K) (post : Int32 → fx_S → Prop) : List (Nat × fx_M fx_S) := [(0, fm_loada 0 1),
  (1, fm_dup 2),
  (2, fm_get 3 4 5),
  (5, fm_dupx1 6),
  (6, fm_const 1 7),
  (7, fm_iadd 8),
  (8, fm_put 3 4 11),
  (11, fm_store 5 13),
  (13, fm_loada 0 14),
  (14, fm_getr 3 14 17),
  (17, fm_load 5 19),
  (19, fm_load 2 20),
  (20, fm_ast lnXI 21),
  (21, fm_loada 0 22),
  (22, fm_getr 3 15 25),
  (25, fm_load 5 27),
  (27, fm_load 3 28),
  (28, fm_ast lnXI 29),
  (29, fm_loada 0 30),
  (30, fm_getr 3 16 33),
  (33, fm_load 5 35),
  (35, fm_load 4 37),
  (37, fm_ast lnXI 38),
  (38, fm_loada 0 39),
  (39, fm_getr 3 17 42),
  (42, fm_load 1 43),
  (43, fm_dup2 44),
  (44, fm_ald lnXI 45),
  (45, fm_const 1 46),
  (46, fm_load 5 48),
  (48, fm_ishl 49),
  (49, fm_ior 50),
  (50, fm_ast lnXI 51),
  (51, fm_load 5 53),
  (53, fm_ret post)]
set_option maxHeartbeats 4000000 in
set_option maxRecDepth 100000 in
theorem mo_Tr_add {κ : fx_K} (hq : fx_I κ lyX.length) {av : List fx_V} {S : fx_S} {post : Int32 → fx_S → Prop} (hlen : av.length ≤ 6) (body : ∀ J : fx_J fx_S, (∀ r ∈ tt_Tr_add κ post, fx_Snd J r.1 r.2) → (∀ pc k ls st S, J pc (ls.take k) st S → J pc ls st S) → J 0 av [] S) : MC_Tr_add κ av S post := by
  refine fx_Met_of (cc := c_Tr_add) (nL := 6) (ret := (some .int)) (by decide) rfl hq hlen ?_
  intro p e s m args below meth c hC hr hnw
  refine body _ ?_ fx_W_take
  have hF := hC.1
  have hts := hC.1.2.2.2.2
  have hm : ∀ {w : Cond}, w ∈ TB → w.before args s = true := fun h => hts _ (List.mem_cons_of_mem _ h)
  have g24 : ∀ (Q : State → Prop) (pc : Nat), decode c_Tr_add pc = .ok (.getfield 24, 3) → fx_Snd (fx_W p κ.1 e rm_Tr_add s m args below meth c Q (fx_A κ.2.2.2 lyX.length) 0 0 (fx_P κ.2.1 vwCl κ.2.2.1 κ.2.2.2 lyX) κ.2.2.2 6) pc (fm_get 3 4 (pc + 3)) := fun Q pc hd => fs_get hC (cN := 3) (j := 4) (ci := 3) (C := R_Tr) (T := T_Tr) (N := 5) rfl rfl rfl (by decide) (fun w h => List.mem_cons_of_mem _ (in_Tr w h)) (hm wd_107) hd
  have g9 : ∀ (Q : State → Prop) (pc : Nat), decode c_Tr_add pc = .ok (.getfield 9, 3) → fx_Snd (fx_W p κ.1 e rm_Tr_add s m args below meth c Q (fx_A κ.2.2.2 lyX.length) 0 0 (fx_P κ.2.1 vwCl κ.2.2.1 κ.2.2.2 lyX) κ.2.2.2 6) pc (fm_getr 3 14 (pc + 3)) := fun Q pc hd => fs_getr hC (cN := 3) (j := 0) (ci := 3) (C := R_Tr) (T := T_Tr) (N := 5) rfl rfl rfl (by decide) (fun w h => List.mem_cons_of_mem _ (in_Tr w h)) (hm wd_102) hd
  have g15 : ∀ (Q : State → Prop) (pc : Nat), decode c_Tr_add pc = .ok (.getfield 15, 3) → fx_Snd (fx_W p κ.1 e rm_Tr_add s m args below meth c Q (fx_A κ.2.2.2 lyX.length) 0 0 (fx_P κ.2.1 vwCl κ.2.2.1 κ.2.2.2 lyX) κ.2.2.2 6) pc (fm_getr 3 15 (pc + 3)) := fun Q pc hd => fs_getr hC (cN := 3) (j := 1) (ci := 3) (C := R_Tr) (T := T_Tr) (N := 5) rfl rfl rfl (by decide) (fun w h => List.mem_cons_of_mem _ (in_Tr w h)) (hm wd_103) hd
  have g18 : ∀ (Q : State → Prop) (pc : Nat), decode c_Tr_add pc = .ok (.getfield 18, 3) → fx_Snd (fx_W p κ.1 e rm_Tr_add s m args below meth c Q (fx_A κ.2.2.2 lyX.length) 0 0 (fx_P κ.2.1 vwCl κ.2.2.1 κ.2.2.2 lyX) κ.2.2.2 6) pc (fm_getr 3 16 (pc + 3)) := fun Q pc hd => fs_getr hC (cN := 3) (j := 2) (ci := 3) (C := R_Tr) (T := T_Tr) (N := 5) rfl rfl rfl (by decide) (fun w h => List.mem_cons_of_mem _ (in_Tr w h)) (hm wd_104) hd
  have g21 : ∀ (Q : State → Prop) (pc : Nat), decode c_Tr_add pc = .ok (.getfield 21, 3) → fx_Snd (fx_W p κ.1 e rm_Tr_add s m args below meth c Q (fx_A κ.2.2.2 lyX.length) 0 0 (fx_P κ.2.1 vwCl κ.2.2.1 κ.2.2.2 lyX) κ.2.2.2 6) pc (fm_getr 3 17 (pc + 3)) := fun Q pc hd => fs_getr hC (cN := 3) (j := 3) (ci := 3) (C := R_Tr) (T := T_Tr) (N := 5) rfl rfl rfl (by decide) (fun w h => List.mem_cons_of_mem _ (in_Tr w h)) (hm wd_105) hd
  refine List.forall_mem_cons.mpr ⟨fs_loada_n hF d_Tr_add_0 rfl, ?_⟩
  refine List.forall_mem_cons.mpr ⟨fs_dup hF d_Tr_add_1, ?_⟩
  refine List.forall_mem_cons.mpr ⟨g24 _ 2 d_Tr_add_2, ?_⟩
  refine List.forall_mem_cons.mpr ⟨fs_dupx1 hF d_Tr_add_5, ?_⟩
  refine List.forall_mem_cons.mpr ⟨fs_const hF d_Tr_add_6 (by decide), ?_⟩
  refine List.forall_mem_cons.mpr ⟨fs_iadd hF d_Tr_add_7, ?_⟩
  refine List.forall_mem_cons.mpr ⟨fs_put hC (cN := 3) (j := 4) (ci := 3) (C := R_Tr) (T := T_Tr) (N := 5) rfl rfl rfl (by decide) ty_Tr tk_Tr nm_Tr rfl (by decide +kernel) (fun w h => List.mem_cons_of_mem _ (in_Tr w h)) (hm wd_107) d_Tr_add_8, ?_⟩
  refine List.forall_mem_cons.mpr ⟨fs_store hF d_Tr_add_11 (by decide), ?_⟩
  refine List.forall_mem_cons.mpr ⟨fs_loada_n hF d_Tr_add_13 rfl, ?_⟩
  refine List.forall_mem_cons.mpr ⟨g9 _ 14 d_Tr_add_14, ?_⟩
  refine List.forall_mem_cons.mpr ⟨fs_load hF d_Tr_add_17, ?_⟩
  refine List.forall_mem_cons.mpr ⟨fs_load_n hF d_Tr_add_19 rfl, ?_⟩
  refine List.forall_mem_cons.mpr ⟨fs_ast hC lkXI d_Tr_add_20, ?_⟩
  refine List.forall_mem_cons.mpr ⟨fs_loada_n hF d_Tr_add_21 rfl, ?_⟩
  refine List.forall_mem_cons.mpr ⟨g15 _ 22 d_Tr_add_22, ?_⟩
  refine List.forall_mem_cons.mpr ⟨fs_load hF d_Tr_add_25, ?_⟩
  refine List.forall_mem_cons.mpr ⟨fs_load_n hF d_Tr_add_27 rfl, ?_⟩
  refine List.forall_mem_cons.mpr ⟨fs_ast hC lkXI d_Tr_add_28, ?_⟩
  refine List.forall_mem_cons.mpr ⟨fs_loada_n hF d_Tr_add_29 rfl, ?_⟩
  refine List.forall_mem_cons.mpr ⟨g18 _ 30 d_Tr_add_30, ?_⟩
  refine List.forall_mem_cons.mpr ⟨fs_load hF d_Tr_add_33, ?_⟩
  refine List.forall_mem_cons.mpr ⟨fs_load hF d_Tr_add_35, ?_⟩
  refine List.forall_mem_cons.mpr ⟨fs_ast hC lkXI d_Tr_add_37, ?_⟩
  refine List.forall_mem_cons.mpr ⟨fs_loada_n hF d_Tr_add_38 rfl, ?_⟩
  refine List.forall_mem_cons.mpr ⟨g21 _ 39 d_Tr_add_39, ?_⟩
  refine List.forall_mem_cons.mpr ⟨fs_load_n hF d_Tr_add_42 rfl, ?_⟩
  refine List.forall_mem_cons.mpr ⟨fs_dup2 hF d_Tr_add_43, ?_⟩
  refine List.forall_mem_cons.mpr ⟨fs_ald hC lkXI d_Tr_add_44, ?_⟩
  refine List.forall_mem_cons.mpr ⟨fs_const hF d_Tr_add_45 (by decide), ?_⟩
  refine List.forall_mem_cons.mpr ⟨fs_load hF d_Tr_add_46, ?_⟩
  refine List.forall_mem_cons.mpr ⟨fs_ishl hF d_Tr_add_48, ?_⟩
  refine List.forall_mem_cons.mpr ⟨fs_ior hF d_Tr_add_49, ?_⟩
  refine List.forall_mem_cons.mpr ⟨fs_ast hC lkXI d_Tr_add_50, ?_⟩
  refine List.forall_mem_cons.mpr ⟨fs_load hF d_Tr_add_51, ?_⟩
  refine List.forall_mem_cons.mpr ⟨fs_ret hC hr d_Tr_add_53, ?_⟩
  exact fun _ h => absurd h List.not_mem_nil
abbrev rm_Tr_enabledIn : Room := { frames := 0, cells := 0, slots := 0, locals := 0 }
def ws_Tr_enabledIn : List Cond := .code y_Tr_enabledIn c_Tr_enabledIn 4 (some .int) :: TB
abbrev MC_Tr_enabledIn (κ : fx_K) : List fx_V → fx_S → (Int32 → fx_S → Prop) → Prop := fx_Met κ.1 κ.2.1 vwCl κ.2.2.1 κ.2.2.2 lyX nwl y_Tr_enabledIn ws_Tr_enabledIn rm_Tr_enabledIn true
def tt_Tr_enabledIn (κ : fx_K) (post : Int32 → fx_S → Prop) : List (Nat × fx_M fx_S) := [(0, fm_const 0 1),
  (1, fm_store 2 2),
  (2, fm_const 0 3),
  (3, fm_store 3 4),
  (4, fm_load 3 5),
  (5, fm_loada 0 6),
  (6, fm_get 3 4 9),
  (9, fm_cmpge 37 12),
  (12, fm_loada 0 13),
  (13, fm_getr 3 14 16),
  (16, fm_load 3 17),
  (17, fm_ald lnXI 18),
  (18, fm_load 1 19),
  (19, fm_const (-1) 20),
  (20, fm_ixor 21),
  (21, fm_iand 22),
  (22, fm_ifne 31 25),
  (25, fm_load 2 26),
  (26, fm_const 1 27),
  (27, fm_load 3 28),
  (28, fm_ishl 29),
  (29, fm_ior 30),
  (30, fm_store 2 31),
  (31, fm_inc 3 1 34),
  (34, fm_goto 4),
  (37, fm_load 2 38),
  (38, fm_ret post)]
set_option maxHeartbeats 4000000 in
set_option maxRecDepth 100000 in
theorem mo_Tr_enabledIn {κ : fx_K} (hq : fx_I κ lyX.length) {av : List fx_V} {S : fx_S} {post : Int32 → fx_S → Prop} (hlen : av.length ≤ 4) (body : ∀ J : fx_J fx_S, (∀ r ∈ tt_Tr_enabledIn κ post, fx_Snd J r.1 r.2) → (∀ pc k ls st S, J pc (ls.take k) st S → J pc ls st S) → J 0 av [] S) : MC_Tr_enabledIn κ av S post := by
  refine fx_Met_of (cc := c_Tr_enabledIn) (nL := 4) (ret := (some .int)) (by decide) rfl hq hlen ?_
  intro p e s m args below meth c hC hr hnw
  refine body _ ?_ fx_W_take
  have hF := hC.1
  have hts := hC.1.2.2.2.2
  have hm : ∀ {w : Cond}, w ∈ TB → w.before args s = true := fun h => hts _ (List.mem_cons_of_mem _ h)
  have g24 : ∀ (Q : State → Prop) (pc : Nat), decode c_Tr_enabledIn pc = .ok (.getfield 24, 3) → fx_Snd (fx_W p κ.1 e rm_Tr_enabledIn s m args below meth c Q (fx_A κ.2.2.2 lyX.length) 0 0 (fx_P κ.2.1 vwCl κ.2.2.1 κ.2.2.2 lyX) κ.2.2.2 4) pc (fm_get 3 4 (pc + 3)) := fun Q pc hd => fs_get hC (cN := 3) (j := 4) (ci := 3) (C := R_Tr) (T := T_Tr) (N := 5) rfl rfl rfl (by decide) (fun w h => List.mem_cons_of_mem _ (in_Tr w h)) (hm wd_107) hd
  have g9 : ∀ (Q : State → Prop) (pc : Nat), decode c_Tr_enabledIn pc = .ok (.getfield 9, 3) → fx_Snd (fx_W p κ.1 e rm_Tr_enabledIn s m args below meth c Q (fx_A κ.2.2.2 lyX.length) 0 0 (fx_P κ.2.1 vwCl κ.2.2.1 κ.2.2.2 lyX) κ.2.2.2 4) pc (fm_getr 3 14 (pc + 3)) := fun Q pc hd => fs_getr hC (cN := 3) (j := 0) (ci := 3) (C := R_Tr) (T := T_Tr) (N := 5) rfl rfl rfl (by decide) (fun w h => List.mem_cons_of_mem _ (in_Tr w h)) (hm wd_102) hd
  refine List.forall_mem_cons.mpr ⟨fs_const hF d_Tr_enabledIn_0 (by decide), ?_⟩
  refine List.forall_mem_cons.mpr ⟨fs_store_n hF d_Tr_enabledIn_1 rfl (by decide), ?_⟩
  refine List.forall_mem_cons.mpr ⟨fs_const hF d_Tr_enabledIn_2 (by decide), ?_⟩
  refine List.forall_mem_cons.mpr ⟨fs_store_n hF d_Tr_enabledIn_3 rfl (by decide), ?_⟩
  refine List.forall_mem_cons.mpr ⟨fs_load_n hF d_Tr_enabledIn_4 rfl, ?_⟩
  refine List.forall_mem_cons.mpr ⟨fs_loada_n hF d_Tr_enabledIn_5 rfl, ?_⟩
  refine List.forall_mem_cons.mpr ⟨g24 _ 6 d_Tr_enabledIn_6, ?_⟩
  refine List.forall_mem_cons.mpr ⟨fs_cmpge hF d_Tr_enabledIn_9 (by decide), ?_⟩
  refine List.forall_mem_cons.mpr ⟨fs_loada_n hF d_Tr_enabledIn_12 rfl, ?_⟩
  refine List.forall_mem_cons.mpr ⟨g9 _ 13 d_Tr_enabledIn_13, ?_⟩
  refine List.forall_mem_cons.mpr ⟨fs_load_n hF d_Tr_enabledIn_16 rfl, ?_⟩
  refine List.forall_mem_cons.mpr ⟨fs_ald hC lkXI d_Tr_enabledIn_17, ?_⟩
  refine List.forall_mem_cons.mpr ⟨fs_load_n hF d_Tr_enabledIn_18 rfl, ?_⟩
  refine List.forall_mem_cons.mpr ⟨fs_const hF d_Tr_enabledIn_19 (by decide), ?_⟩
  refine List.forall_mem_cons.mpr ⟨fs_ixor hF d_Tr_enabledIn_20, ?_⟩
  refine List.forall_mem_cons.mpr ⟨fs_iand hF d_Tr_enabledIn_21, ?_⟩
  refine List.forall_mem_cons.mpr ⟨fs_ifne hF d_Tr_enabledIn_22 (by decide), ?_⟩
  refine List.forall_mem_cons.mpr ⟨fs_load_n hF d_Tr_enabledIn_25 rfl, ?_⟩
  refine List.forall_mem_cons.mpr ⟨fs_const hF d_Tr_enabledIn_26 (by decide), ?_⟩
  refine List.forall_mem_cons.mpr ⟨fs_load_n hF d_Tr_enabledIn_27 rfl, ?_⟩
  refine List.forall_mem_cons.mpr ⟨fs_ishl hF d_Tr_enabledIn_28, ?_⟩
  refine List.forall_mem_cons.mpr ⟨fs_ior hF d_Tr_enabledIn_29, ?_⟩
  refine List.forall_mem_cons.mpr ⟨fs_store_n hF d_Tr_enabledIn_30 rfl (by decide), ?_⟩
  refine List.forall_mem_cons.mpr ⟨fs_inc hF d_Tr_enabledIn_31 (by decide) (by decide), ?_⟩
  refine List.forall_mem_cons.mpr ⟨fs_goto hF d_Tr_enabledIn_34 (by decide), ?_⟩
  refine List.forall_mem_cons.mpr ⟨fs_load_n hF d_Tr_enabledIn_37 rfl, ?_⟩
  refine List.forall_mem_cons.mpr ⟨fs_ret hC hr d_Tr_enabledIn_38, ?_⟩
  exact fun _ h => absurd h List.not_mem_nil
abbrev rm_Tr_dueIn : Room := { frames := 1, cells := 0, slots := 0, locals := 23 }
def ws_Tr_dueIn : List Cond := .code y_Tr_dueIn c_Tr_dueIn 5 (some .int) :: TB
abbrev MC_Tr_dueIn (κ : fx_K) : List fx_V → fx_S → (Int32 → fx_S → Prop) → Prop := fx_Met κ.1 κ.2.1 vwCl κ.2.2.1 κ.2.2.2 lyX nwl y_Tr_dueIn ws_Tr_dueIn rm_Tr_dueIn true
def tt_Tr_dueIn (κ : fx_K) (post : Int32 → fx_S → Prop) : List (Nat × fx_M fx_S) := [(0, fm_loada 0 1),
  (1, fm_load 1 2),
  (2, fm_call true 3 1 (MC_Tr_enabledIn κ) 5),
  (5, fm_store 3 6),
  (6, fm_const 0 7),
  (7, fm_store 4 9),
  (9, fm_load 4 11),
  (11, fm_loada 0 12),
  (12, fm_get 3 4 15),
  (15, fm_cmpge 47 18),
  (18, fm_loada 0 19),
  (19, fm_getr 3 16 22),
  (22, fm_load 4 24),
  (24, fm_ald lnXI 25),
  (25, fm_load 2 26),
  (26, fm_calls true 2 (MC_Fc_isIn κ) 29),
  (29, fm_ifne 41 32),
  (32, fm_load 3 33),
  (33, fm_const 1 34),
  (34, fm_load 4 36),
  (36, fm_ishl 37),
  (37, fm_const (-1) 38),
  (38, fm_ixor 39),
  (39, fm_iand 40),
  (40, fm_store 3 41),
  (41, fm_inc 4 1 44),
  (44, fm_goto 9),
  (47, fm_load 3 48),
  (48, fm_ret post)]
set_option maxHeartbeats 4000000 in
set_option maxRecDepth 100000 in
theorem mo_Tr_dueIn {κ : fx_K} (hq : fx_I κ lyX.length) {av : List fx_V} {S : fx_S} {post : Int32 → fx_S → Prop} (hlen : av.length ≤ 5) (body : ∀ J : fx_J fx_S, (∀ r ∈ tt_Tr_dueIn κ post, fx_Snd J r.1 r.2) → (∀ pc k ls st S, J pc (ls.take k) st S → J pc ls st S) → J 0 av [] S) : MC_Tr_dueIn κ av S post := by
  refine fx_Met_of (cc := c_Tr_dueIn) (nL := 5) (ret := (some .int)) (by decide) rfl hq hlen ?_
  intro p e s m args below meth c hC hr hnw
  refine body _ ?_ fx_W_take
  have hF := hC.1
  have hts := hC.1.2.2.2.2
  have hm : ∀ {w : Cond}, w ∈ TB → w.before args s = true := fun h => hts _ (List.mem_cons_of_mem _ h)
  have g24 : ∀ (Q : State → Prop) (pc : Nat), decode c_Tr_dueIn pc = .ok (.getfield 24, 3) → fx_Snd (fx_W p κ.1 e rm_Tr_dueIn s m args below meth c Q (fx_A κ.2.2.2 lyX.length) 0 0 (fx_P κ.2.1 vwCl κ.2.2.1 κ.2.2.2 lyX) κ.2.2.2 5) pc (fm_get 3 4 (pc + 3)) := fun Q pc hd => fs_get hC (cN := 3) (j := 4) (ci := 3) (C := R_Tr) (T := T_Tr) (N := 5) rfl rfl rfl (by decide) (fun w h => List.mem_cons_of_mem _ (in_Tr w h)) (hm wd_107) hd
  have g18 : ∀ (Q : State → Prop) (pc : Nat), decode c_Tr_dueIn pc = .ok (.getfield 18, 3) → fx_Snd (fx_W p κ.1 e rm_Tr_dueIn s m args below meth c Q (fx_A κ.2.2.2 lyX.length) 0 0 (fx_P κ.2.1 vwCl κ.2.2.1 κ.2.2.2 lyX) κ.2.2.2 5) pc (fm_getr 3 16 (pc + 3)) := fun Q pc hd => fs_getr hC (cN := 3) (j := 2) (ci := 3) (C := R_Tr) (T := T_Tr) (N := 5) rfl rfl rfl (by decide) (fun w h => List.mem_cons_of_mem _ (in_Tr w h)) (hm wd_104) hd
  refine List.forall_mem_cons.mpr ⟨fs_loada_n hF d_Tr_dueIn_0 rfl, ?_⟩
  refine List.forall_mem_cons.mpr ⟨fs_load_n hF d_Tr_dueIn_1 rfl, ?_⟩
  refine List.forall_mem_cons.mpr ⟨fs_callV hC nwl_ok hnw (cN := 3) (ci := 3) (C := R_Tr) rfl rfl ⟨callB_of 1 hts (tb_good wd_358) rfl rfl rfl (hm wd_35) (hm wd_437) pd_Tr_enabledIn ⟨Nat.le_of_ble_eq_true rfl, Nat.le_of_ble_eq_true rfl⟩, hm wd_356, hm wd_357⟩ d_Tr_dueIn_2, ?_⟩
  refine List.forall_mem_cons.mpr ⟨fs_store_n hF d_Tr_dueIn_5 rfl (by decide), ?_⟩
  refine List.forall_mem_cons.mpr ⟨fs_const hF d_Tr_dueIn_6 (by decide), ?_⟩
  refine List.forall_mem_cons.mpr ⟨fs_store hF d_Tr_dueIn_7 (by decide), ?_⟩
  refine List.forall_mem_cons.mpr ⟨fs_load hF d_Tr_dueIn_9, ?_⟩
  refine List.forall_mem_cons.mpr ⟨fs_loada_n hF d_Tr_dueIn_11 rfl, ?_⟩
  refine List.forall_mem_cons.mpr ⟨g24 _ 12 d_Tr_dueIn_12, ?_⟩
  refine List.forall_mem_cons.mpr ⟨fs_cmpge hF d_Tr_dueIn_15 (by decide), ?_⟩
  refine List.forall_mem_cons.mpr ⟨fs_loada_n hF d_Tr_dueIn_18 rfl, ?_⟩
  refine List.forall_mem_cons.mpr ⟨g18 _ 19 d_Tr_dueIn_19, ?_⟩
  refine List.forall_mem_cons.mpr ⟨fs_load hF d_Tr_dueIn_22, ?_⟩
  refine List.forall_mem_cons.mpr ⟨fs_ald hC lkXI d_Tr_dueIn_24, ?_⟩
  refine List.forall_mem_cons.mpr ⟨fs_load_n hF d_Tr_dueIn_25 rfl, ?_⟩
  refine List.forall_mem_cons.mpr ⟨fs_callSN hC nwl_ok hnw ⟨va_cnB 2 hts (tb_good wd_369) rfl rfl rfl (hnw _ (List.mem_of_getElem? (i := 26) rfl)) (hm wd_32) pd_Fc_isIn ⟨Nat.le_of_ble_eq_true rfl, Nat.le_of_ble_eq_true rfl⟩, hm wd_368⟩ d_Tr_dueIn_26, ?_⟩
  refine List.forall_mem_cons.mpr ⟨fs_ifne hF d_Tr_dueIn_29 (by decide), ?_⟩
  refine List.forall_mem_cons.mpr ⟨fs_load_n hF d_Tr_dueIn_32 rfl, ?_⟩
  refine List.forall_mem_cons.mpr ⟨fs_const hF d_Tr_dueIn_33 (by decide), ?_⟩
  refine List.forall_mem_cons.mpr ⟨fs_load hF d_Tr_dueIn_34, ?_⟩
  refine List.forall_mem_cons.mpr ⟨fs_ishl hF d_Tr_dueIn_36, ?_⟩
  refine List.forall_mem_cons.mpr ⟨fs_const hF d_Tr_dueIn_37 (by decide), ?_⟩
  refine List.forall_mem_cons.mpr ⟨fs_ixor hF d_Tr_dueIn_38, ?_⟩
  refine List.forall_mem_cons.mpr ⟨fs_iand hF d_Tr_dueIn_39, ?_⟩
  refine List.forall_mem_cons.mpr ⟨fs_store_n hF d_Tr_dueIn_40 rfl (by decide), ?_⟩
  refine List.forall_mem_cons.mpr ⟨fs_inc hF d_Tr_dueIn_41 (by decide) (by decide), ?_⟩
  refine List.forall_mem_cons.mpr ⟨fs_goto hF d_Tr_dueIn_44 (by decide), ?_⟩
  refine List.forall_mem_cons.mpr ⟨fs_load_n hF d_Tr_dueIn_47 rfl, ?_⟩
  refine List.forall_mem_cons.mpr ⟨fs_ret hC hr d_Tr_dueIn_48, ?_⟩
  exact fun _ h => absurd h List.not_mem_nil
abbrev rm_Tr_withoutRivals : Room := { frames := 1, cells := 0, slots := 0, locals := 21 }
def ws_Tr_withoutRivals : List Cond := .code y_Tr_withoutRivals c_Tr_withoutRivals 5 (some .int) :: TB
abbrev MC_Tr_withoutRivals (κ : fx_K) : List fx_V → fx_S → (Int32 → fx_S → Prop) → Prop := fx_Met κ.1 κ.2.1 vwCl κ.2.2.1 κ.2.2.2 lyX nwl y_Tr_withoutRivals ws_Tr_withoutRivals rm_Tr_withoutRivals true
def tt_Tr_withoutRivals (κ : fx_K) (post : Int32 → fx_S → Prop) : List (Nat × fx_M fx_S) := [(0, fm_const 0 1),
  (1, fm_store 2 2),
  (2, fm_const 0 3),
  (3, fm_store 3 4),
  (4, fm_const 0 5),
  (5, fm_store 4 7),
  (7, fm_load 4 9),
  (9, fm_loada 0 10),
  (10, fm_get 3 4 13),
  (13, fm_cmpge 60 16),
  (16, fm_load 4 18),
  (18, fm_load 1 19),
  (19, fm_calls true 2 (MC_Fc_isIn κ) 22),
  (22, fm_ifeq 54 25),
  (25, fm_loada 0 26),
  (26, fm_getr 3 14 29),
  (29, fm_load 4 31),
  (31, fm_ald lnXI 32),
  (32, fm_load 3 33),
  (33, fm_iand 34),
  (34, fm_ifne 54 37),
  (37, fm_load 2 38),
  (38, fm_const 1 39),
  (39, fm_load 4 41),
  (41, fm_ishl 42),
  (42, fm_ior 43),
  (43, fm_store 2 44),
  (44, fm_load 3 45),
  (45, fm_loada 0 46),
  (46, fm_getr 3 14 49),
  (49, fm_load 4 51),
  (51, fm_ald lnXI 52),
  (52, fm_ior 53),
  (53, fm_store 3 54),
  (54, fm_inc 4 1 57),
  (57, fm_goto 7),
  (60, fm_load 2 61),
  (61, fm_ret post)]
set_option maxHeartbeats 4000000 in
set_option maxRecDepth 100000 in
theorem mo_Tr_withoutRivals {κ : fx_K} (hq : fx_I κ lyX.length) {av : List fx_V} {S : fx_S} {post : Int32 → fx_S → Prop} (hlen : av.length ≤ 5) (body : ∀ J : fx_J fx_S, (∀ r ∈ tt_Tr_withoutRivals κ post, fx_Snd J r.1 r.2) → (∀ pc k ls st S, J pc (ls.take k) st S → J pc ls st S) → J 0 av [] S) : MC_Tr_withoutRivals κ av S post := by
  refine fx_Met_of (cc := c_Tr_withoutRivals) (nL := 5) (ret := (some .int)) (by decide) rfl hq hlen ?_
  intro p e s m args below meth c hC hr hnw
  refine body _ ?_ fx_W_take
  have hF := hC.1
  have hts := hC.1.2.2.2.2
  have hm : ∀ {w : Cond}, w ∈ TB → w.before args s = true := fun h => hts _ (List.mem_cons_of_mem _ h)
  have g24 : ∀ (Q : State → Prop) (pc : Nat), decode c_Tr_withoutRivals pc = .ok (.getfield 24, 3) → fx_Snd (fx_W p κ.1 e rm_Tr_withoutRivals s m args below meth c Q (fx_A κ.2.2.2 lyX.length) 0 0 (fx_P κ.2.1 vwCl κ.2.2.1 κ.2.2.2 lyX) κ.2.2.2 5) pc (fm_get 3 4 (pc + 3)) := fun Q pc hd => fs_get hC (cN := 3) (j := 4) (ci := 3) (C := R_Tr) (T := T_Tr) (N := 5) rfl rfl rfl (by decide) (fun w h => List.mem_cons_of_mem _ (in_Tr w h)) (hm wd_107) hd
  have g9 : ∀ (Q : State → Prop) (pc : Nat), decode c_Tr_withoutRivals pc = .ok (.getfield 9, 3) → fx_Snd (fx_W p κ.1 e rm_Tr_withoutRivals s m args below meth c Q (fx_A κ.2.2.2 lyX.length) 0 0 (fx_P κ.2.1 vwCl κ.2.2.1 κ.2.2.2 lyX) κ.2.2.2 5) pc (fm_getr 3 14 (pc + 3)) := fun Q pc hd => fs_getr hC (cN := 3) (j := 0) (ci := 3) (C := R_Tr) (T := T_Tr) (N := 5) rfl rfl rfl (by decide) (fun w h => List.mem_cons_of_mem _ (in_Tr w h)) (hm wd_102) hd
  refine List.forall_mem_cons.mpr ⟨fs_const hF d_Tr_withoutRivals_0 (by decide), ?_⟩
  refine List.forall_mem_cons.mpr ⟨fs_store_n hF d_Tr_withoutRivals_1 rfl (by decide), ?_⟩
  refine List.forall_mem_cons.mpr ⟨fs_const hF d_Tr_withoutRivals_2 (by decide), ?_⟩
  refine List.forall_mem_cons.mpr ⟨fs_store_n hF d_Tr_withoutRivals_3 rfl (by decide), ?_⟩
  refine List.forall_mem_cons.mpr ⟨fs_const hF d_Tr_withoutRivals_4 (by decide), ?_⟩
  refine List.forall_mem_cons.mpr ⟨fs_store hF d_Tr_withoutRivals_5 (by decide), ?_⟩
  refine List.forall_mem_cons.mpr ⟨fs_load hF d_Tr_withoutRivals_7, ?_⟩
  refine List.forall_mem_cons.mpr ⟨fs_loada_n hF d_Tr_withoutRivals_9 rfl, ?_⟩
  refine List.forall_mem_cons.mpr ⟨g24 _ 10 d_Tr_withoutRivals_10, ?_⟩
  refine List.forall_mem_cons.mpr ⟨fs_cmpge hF d_Tr_withoutRivals_13 (by decide), ?_⟩
  refine List.forall_mem_cons.mpr ⟨fs_load hF d_Tr_withoutRivals_16, ?_⟩
  refine List.forall_mem_cons.mpr ⟨fs_load_n hF d_Tr_withoutRivals_18 rfl, ?_⟩
  refine List.forall_mem_cons.mpr ⟨fs_callSN hC nwl_ok hnw ⟨va_cnB 2 hts (tb_good wd_369) rfl rfl rfl (hnw _ (List.mem_of_getElem? (i := 26) rfl)) (hm wd_32) pd_Fc_isIn ⟨Nat.le_of_ble_eq_true rfl, Nat.le_of_ble_eq_true rfl⟩, hm wd_368⟩ d_Tr_withoutRivals_19, ?_⟩
  refine List.forall_mem_cons.mpr ⟨fs_ifeq hF d_Tr_withoutRivals_22 (by decide), ?_⟩
  refine List.forall_mem_cons.mpr ⟨fs_loada_n hF d_Tr_withoutRivals_25 rfl, ?_⟩
  refine List.forall_mem_cons.mpr ⟨g9 _ 26 d_Tr_withoutRivals_26, ?_⟩
  refine List.forall_mem_cons.mpr ⟨fs_load hF d_Tr_withoutRivals_29, ?_⟩
  refine List.forall_mem_cons.mpr ⟨fs_ald hC lkXI d_Tr_withoutRivals_31, ?_⟩
  refine List.forall_mem_cons.mpr ⟨fs_load_n hF d_Tr_withoutRivals_32 rfl, ?_⟩
  refine List.forall_mem_cons.mpr ⟨fs_iand hF d_Tr_withoutRivals_33, ?_⟩
  refine List.forall_mem_cons.mpr ⟨fs_ifne hF d_Tr_withoutRivals_34 (by decide), ?_⟩
  refine List.forall_mem_cons.mpr ⟨fs_load_n hF d_Tr_withoutRivals_37 rfl, ?_⟩
  refine List.forall_mem_cons.mpr ⟨fs_const hF d_Tr_withoutRivals_38 (by decide), ?_⟩
  refine List.forall_mem_cons.mpr ⟨fs_load hF d_Tr_withoutRivals_39, ?_⟩
  refine List.forall_mem_cons.mpr ⟨fs_ishl hF d_Tr_withoutRivals_41, ?_⟩
  refine List.forall_mem_cons.mpr ⟨fs_ior hF d_Tr_withoutRivals_42, ?_⟩
  refine List.forall_mem_cons.mpr ⟨fs_store_n hF d_Tr_withoutRivals_43 rfl (by decide), ?_⟩
  refine List.forall_mem_cons.mpr ⟨fs_load_n hF d_Tr_withoutRivals_44 rfl, ?_⟩
  refine List.forall_mem_cons.mpr ⟨fs_loada_n hF d_Tr_withoutRivals_45 rfl, ?_⟩
  refine List.forall_mem_cons.mpr ⟨g9 _ 46 d_Tr_withoutRivals_46, ?_⟩
  refine List.forall_mem_cons.mpr ⟨fs_load hF d_Tr_withoutRivals_49, ?_⟩
  refine List.forall_mem_cons.mpr ⟨fs_ald hC lkXI d_Tr_withoutRivals_51, ?_⟩
  refine List.forall_mem_cons.mpr ⟨fs_ior hF d_Tr_withoutRivals_52, ?_⟩
  refine List.forall_mem_cons.mpr ⟨fs_store_n hF d_Tr_withoutRivals_53 rfl (by decide), ?_⟩
  refine List.forall_mem_cons.mpr ⟨fs_inc hF d_Tr_withoutRivals_54 (by decide) (by decide), ?_⟩
  refine List.forall_mem_cons.mpr ⟨fs_goto hF d_Tr_withoutRivals_57 (by decide), ?_⟩
  refine List.forall_mem_cons.mpr ⟨fs_load_n hF d_Tr_withoutRivals_60 rfl, ?_⟩
  refine List.forall_mem_cons.mpr ⟨fs_ret hC hr d_Tr_withoutRivals_61, ?_⟩
  exact fun _ h => absurd h List.not_mem_nil
abbrev rm_Tr_union : Room := { frames := 1, cells := 0, slots := 0, locals := 21 }
def ws_Tr_union : List Cond := .code y_Tr_union c_Tr_union 5 (some .int) :: TB
abbrev MC_Tr_union (κ : fx_K) : List fx_V → fx_S → (Int32 → fx_S → Prop) → Prop := fx_Met κ.1 κ.2.1 vwCl κ.2.2.1 κ.2.2.2 lyX nwl y_Tr_union ws_Tr_union rm_Tr_union true
def tt_Tr_union (κ : fx_K) (post : Int32 → fx_S → Prop) : List (Nat × fx_M fx_S) := [(0, fm_const 0 1),
  (1, fm_store 3 2),
  (2, fm_const 0 3),
  (3, fm_store 4 5),
  (5, fm_load 4 7),
  (7, fm_loada 0 8),
  (8, fm_get 3 4 11),
  (11, fm_cmpge 36 14),
  (14, fm_load 4 16),
  (16, fm_load 2 17),
  (17, fm_calls true 2 (MC_Fc_isIn κ) 20),
  (20, fm_ifeq 30 23),
  (23, fm_load 3 24),
  (24, fm_loada 1 25),
  (25, fm_load 4 27),
  (27, fm_ald lnXI 28),
  (28, fm_ior 29),
  (29, fm_store 3 30),
  (30, fm_inc 4 1 33),
  (33, fm_goto 5),
  (36, fm_load 3 37),
  (37, fm_ret post)]
set_option maxHeartbeats 4000000 in
set_option maxRecDepth 100000 in
theorem mo_Tr_union {κ : fx_K} (hq : fx_I κ lyX.length) {av : List fx_V} {S : fx_S} {post : Int32 → fx_S → Prop} (hlen : av.length ≤ 5) (body : ∀ J : fx_J fx_S, (∀ r ∈ tt_Tr_union κ post, fx_Snd J r.1 r.2) → (∀ pc k ls st S, J pc (ls.take k) st S → J pc ls st S) → J 0 av [] S) : MC_Tr_union κ av S post := by
  refine fx_Met_of (cc := c_Tr_union) (nL := 5) (ret := (some .int)) (by decide) rfl hq hlen ?_
  intro p e s m args below meth c hC hr hnw
  refine body _ ?_ fx_W_take
  have hF := hC.1
  have hts := hC.1.2.2.2.2
  have hm : ∀ {w : Cond}, w ∈ TB → w.before args s = true := fun h => hts _ (List.mem_cons_of_mem _ h)
  have g24 : ∀ (Q : State → Prop) (pc : Nat), decode c_Tr_union pc = .ok (.getfield 24, 3) → fx_Snd (fx_W p κ.1 e rm_Tr_union s m args below meth c Q (fx_A κ.2.2.2 lyX.length) 0 0 (fx_P κ.2.1 vwCl κ.2.2.1 κ.2.2.2 lyX) κ.2.2.2 5) pc (fm_get 3 4 (pc + 3)) := fun Q pc hd => fs_get hC (cN := 3) (j := 4) (ci := 3) (C := R_Tr) (T := T_Tr) (N := 5) rfl rfl rfl (by decide) (fun w h => List.mem_cons_of_mem _ (in_Tr w h)) (hm wd_107) hd
  refine List.forall_mem_cons.mpr ⟨fs_const hF d_Tr_union_0 (by decide), ?_⟩
  refine List.forall_mem_cons.mpr ⟨fs_store_n hF d_Tr_union_1 rfl (by decide), ?_⟩
  refine List.forall_mem_cons.mpr ⟨fs_const hF d_Tr_union_2 (by decide), ?_⟩
  refine List.forall_mem_cons.mpr ⟨fs_store hF d_Tr_union_3 (by decide), ?_⟩
  refine List.forall_mem_cons.mpr ⟨fs_load hF d_Tr_union_5, ?_⟩
  refine List.forall_mem_cons.mpr ⟨fs_loada_n hF d_Tr_union_7 rfl, ?_⟩
  refine List.forall_mem_cons.mpr ⟨g24 _ 8 d_Tr_union_8, ?_⟩
  refine List.forall_mem_cons.mpr ⟨fs_cmpge hF d_Tr_union_11 (by decide), ?_⟩
  refine List.forall_mem_cons.mpr ⟨fs_load hF d_Tr_union_14, ?_⟩
  refine List.forall_mem_cons.mpr ⟨fs_load_n hF d_Tr_union_16 rfl, ?_⟩
  refine List.forall_mem_cons.mpr ⟨fs_callSN hC nwl_ok hnw ⟨va_cnB 2 hts (tb_good wd_369) rfl rfl rfl (hnw _ (List.mem_of_getElem? (i := 26) rfl)) (hm wd_32) pd_Fc_isIn ⟨Nat.le_of_ble_eq_true rfl, Nat.le_of_ble_eq_true rfl⟩, hm wd_368⟩ d_Tr_union_17, ?_⟩
  refine List.forall_mem_cons.mpr ⟨fs_ifeq hF d_Tr_union_20 (by decide), ?_⟩
  refine List.forall_mem_cons.mpr ⟨fs_load_n hF d_Tr_union_23 rfl, ?_⟩
  refine List.forall_mem_cons.mpr ⟨fs_loada_n hF d_Tr_union_24 rfl, ?_⟩
  refine List.forall_mem_cons.mpr ⟨fs_load hF d_Tr_union_25, ?_⟩
  refine List.forall_mem_cons.mpr ⟨fs_ald hC lkXI d_Tr_union_27, ?_⟩
  refine List.forall_mem_cons.mpr ⟨fs_ior hF d_Tr_union_28, ?_⟩
  refine List.forall_mem_cons.mpr ⟨fs_store_n hF d_Tr_union_29 rfl (by decide), ?_⟩
  refine List.forall_mem_cons.mpr ⟨fs_inc hF d_Tr_union_30 (by decide) (by decide), ?_⟩
  refine List.forall_mem_cons.mpr ⟨fs_goto hF d_Tr_union_33 (by decide), ?_⟩
  refine List.forall_mem_cons.mpr ⟨fs_load_n hF d_Tr_union_36 rfl, ?_⟩
  refine List.forall_mem_cons.mpr ⟨fs_ret hC hr d_Tr_union_37, ?_⟩
  exact fun _ h => absurd h List.not_mem_nil
abbrev rm_Tr_preceding : Room := { frames := 2, cells := 0, slots := 0, locals := 45 }
def ws_Tr_preceding : List Cond := .code y_Tr_preceding c_Tr_preceding 2 (some .int) :: TB
abbrev MC_Tr_preceding (κ : fx_K) : List fx_V → fx_S → (Int32 → fx_S → Prop) → Prop := fx_Met κ.1 κ.2.1 vwCl κ.2.2.1 κ.2.2.2 lyX nwl y_Tr_preceding ws_Tr_preceding rm_Tr_preceding true
def tt_Tr_preceding (κ : fx_K) (post : Int32 → fx_S → Prop) : List (Nat × fx_M fx_S) := [(0, fm_loada 0 1),
  (1, fm_loada 0 2),
  (2, fm_getr 3 14 5),
  (5, fm_load 1 6),
  (6, fm_call true 3 2 (MC_Tr_union κ) 9),
  (9, fm_ret post)]
set_option maxHeartbeats 4000000 in
set_option maxRecDepth 100000 in
theorem mo_Tr_preceding {κ : fx_K} (hq : fx_I κ lyX.length) {av : List fx_V} {S : fx_S} {post : Int32 → fx_S → Prop} (hlen : av.length ≤ 2) (body : ∀ J : fx_J fx_S, (∀ r ∈ tt_Tr_preceding κ post, fx_Snd J r.1 r.2) → (∀ pc k ls st S, J pc (ls.take k) st S → J pc ls st S) → J 0 av [] S) : MC_Tr_preceding κ av S post := by
  refine fx_Met_of (cc := c_Tr_preceding) (nL := 2) (ret := (some .int)) (by decide) rfl hq hlen ?_
  intro p e s m args below meth c hC hr hnw
  refine body _ ?_ fx_W_take
  have hF := hC.1
  have hts := hC.1.2.2.2.2
  have hm : ∀ {w : Cond}, w ∈ TB → w.before args s = true := fun h => hts _ (List.mem_cons_of_mem _ h)
  have g9 : ∀ (Q : State → Prop) (pc : Nat), decode c_Tr_preceding pc = .ok (.getfield 9, 3) → fx_Snd (fx_W p κ.1 e rm_Tr_preceding s m args below meth c Q (fx_A κ.2.2.2 lyX.length) 0 0 (fx_P κ.2.1 vwCl κ.2.2.1 κ.2.2.2 lyX) κ.2.2.2 2) pc (fm_getr 3 14 (pc + 3)) := fun Q pc hd => fs_getr hC (cN := 3) (j := 0) (ci := 3) (C := R_Tr) (T := T_Tr) (N := 5) rfl rfl rfl (by decide) (fun w h => List.mem_cons_of_mem _ (in_Tr w h)) (hm wd_102) hd
  refine List.forall_mem_cons.mpr ⟨fs_loada_n hF d_Tr_preceding_0 rfl, ?_⟩
  refine List.forall_mem_cons.mpr ⟨fs_loada_n hF d_Tr_preceding_1 rfl, ?_⟩
  refine List.forall_mem_cons.mpr ⟨g9 _ 2 d_Tr_preceding_2, ?_⟩
  refine List.forall_mem_cons.mpr ⟨fs_load_n hF d_Tr_preceding_5 rfl, ?_⟩
  refine List.forall_mem_cons.mpr ⟨fs_callV hC nwl_ok hnw (cN := 3) (ci := 3) (C := R_Tr) rfl rfl ⟨callB_of 2 hts (tb_good wd_366) rfl rfl rfl (hm wd_35) (hm wd_363) pd_Tr_union ⟨Nat.le_of_ble_eq_true rfl, Nat.le_of_ble_eq_true rfl⟩, hm wd_365, hm wd_2⟩ d_Tr_preceding_6, ?_⟩
  refine List.forall_mem_cons.mpr ⟨fs_ret hC hr d_Tr_preceding_9, ?_⟩
  exact fun _ h => absurd h List.not_mem_nil
abbrev rm_Tr_succeeding : Room := { frames := 2, cells := 0, slots := 0, locals := 45 }
def ws_Tr_succeeding : List Cond := .code y_Tr_succeeding c_Tr_succeeding 2 (some .int) :: TB
abbrev MC_Tr_succeeding (κ : fx_K) : List fx_V → fx_S → (Int32 → fx_S → Prop) → Prop := fx_Met κ.1 κ.2.1 vwCl κ.2.2.1 κ.2.2.2 lyX nwl y_Tr_succeeding ws_Tr_succeeding rm_Tr_succeeding true
def tt_Tr_succeeding (κ : fx_K) (post : Int32 → fx_S → Prop) : List (Nat × fx_M fx_S) := [(0, fm_loada 0 1),
  (1, fm_loada 0 2),
  (2, fm_getr 3 15 5),
  (5, fm_load 1 6),
  (6, fm_call true 3 2 (MC_Tr_union κ) 9),
  (9, fm_ret post)]
set_option maxHeartbeats 4000000 in
set_option maxRecDepth 100000 in
theorem mo_Tr_succeeding {κ : fx_K} (hq : fx_I κ lyX.length) {av : List fx_V} {S : fx_S} {post : Int32 → fx_S → Prop} (hlen : av.length ≤ 2) (body : ∀ J : fx_J fx_S, (∀ r ∈ tt_Tr_succeeding κ post, fx_Snd J r.1 r.2) → (∀ pc k ls st S, J pc (ls.take k) st S → J pc ls st S) → J 0 av [] S) : MC_Tr_succeeding κ av S post := by
  refine fx_Met_of (cc := c_Tr_succeeding) (nL := 2) (ret := (some .int)) (by decide) rfl hq hlen ?_
  intro p e s m args below meth c hC hr hnw
  refine body _ ?_ fx_W_take
  have hF := hC.1
  have hts := hC.1.2.2.2.2
  have hm : ∀ {w : Cond}, w ∈ TB → w.before args s = true := fun h => hts _ (List.mem_cons_of_mem _ h)
  have g15 : ∀ (Q : State → Prop) (pc : Nat), decode c_Tr_succeeding pc = .ok (.getfield 15, 3) → fx_Snd (fx_W p κ.1 e rm_Tr_succeeding s m args below meth c Q (fx_A κ.2.2.2 lyX.length) 0 0 (fx_P κ.2.1 vwCl κ.2.2.1 κ.2.2.2 lyX) κ.2.2.2 2) pc (fm_getr 3 15 (pc + 3)) := fun Q pc hd => fs_getr hC (cN := 3) (j := 1) (ci := 3) (C := R_Tr) (T := T_Tr) (N := 5) rfl rfl rfl (by decide) (fun w h => List.mem_cons_of_mem _ (in_Tr w h)) (hm wd_103) hd
  refine List.forall_mem_cons.mpr ⟨fs_loada_n hF d_Tr_succeeding_0 rfl, ?_⟩
  refine List.forall_mem_cons.mpr ⟨fs_loada_n hF d_Tr_succeeding_1 rfl, ?_⟩
  refine List.forall_mem_cons.mpr ⟨g15 _ 2 d_Tr_succeeding_2, ?_⟩
  refine List.forall_mem_cons.mpr ⟨fs_load_n hF d_Tr_succeeding_5 rfl, ?_⟩
  refine List.forall_mem_cons.mpr ⟨fs_callV hC nwl_ok hnw (cN := 3) (ci := 3) (C := R_Tr) rfl rfl ⟨callB_of 2 hts (tb_good wd_366) rfl rfl rfl (hm wd_35) (hm wd_363) pd_Tr_union ⟨Nat.le_of_ble_eq_true rfl, Nat.le_of_ble_eq_true rfl⟩, hm wd_365, hm wd_2⟩ d_Tr_succeeding_6, ?_⟩
  refine List.forall_mem_cons.mpr ⟨fs_ret hC hr d_Tr_succeeding_9, ?_⟩
  exact fun _ h => absurd h List.not_mem_nil
abbrev rm_Or_add : Room := { frames := 0, cells := 0, slots := 0, locals := 0 }
def ws_Or_add : List Cond := .code y_Or_add c_Or_add 5 (some .int) :: TB
abbrev MC_Or_add (κ : fx_K) : List fx_V → fx_S → (Int32 → fx_S → Prop) → Prop := fx_Met κ.1 κ.2.1 vwCl κ.2.2.1 κ.2.2.2 lyX nwl y_Or_add ws_Or_add rm_Or_add true
def tt_Or_add (κ : fx_K) (post : Int32 → fx_S → Prop) : List (Nat × fx_M fx_S) := [(0, fm_loada 0 1),
  (1, fm_dup 2),
  (2, fm_get 4 3 5),
  (5, fm_dupx1 6),
  (6, fm_const 1 7),
  (7, fm_iadd 8),
  (8, fm_put 4 3 11),
  (11, fm_store 4 13),
  (13, fm_loada 0 14),
  (14, fm_getr 4 18 17),
  (17, fm_load 4 19),
  (19, fm_load 1 20),
  (20, fm_ast lnXI 21),
  (21, fm_loada 0 22),
  (22, fm_getr 4 19 25),
  (25, fm_load 4 27),
  (27, fm_load 2 28),
  (28, fm_ast lnXI 29),
  (29, fm_loada 0 30),
  (30, fm_getr 4 20 33),
  (33, fm_load 4 35),
  (35, fm_load 3 36),
  (36, fm_ast lnXI 37),
  (37, fm_load 4 39),
  (39, fm_ret post)]
set_option maxHeartbeats 4000000 in
set_option maxRecDepth 100000 in
theorem mo_Or_add {κ : fx_K} (hq : fx_I κ lyX.length) {av : List fx_V} {S : fx_S} {post : Int32 → fx_S → Prop} (hlen : av.length ≤ 5) (body : ∀ J : fx_J fx_S, (∀ r ∈ tt_Or_add κ post, fx_Snd J r.1 r.2) → (∀ pc k ls st S, J pc (ls.take k) st S → J pc ls st S) → J 0 av [] S) : MC_Or_add κ av S post := by
  refine fx_Met_of (cc := c_Or_add) (nL := 5) (ret := (some .int)) (by decide) rfl hq hlen ?_
  intro p e s m args below meth c hC hr hnw
  refine body _ ?_ fx_W_take
  have hF := hC.1
  have hts := hC.1.2.2.2.2
  have hm : ∀ {w : Cond}, w ∈ TB → w.before args s = true := fun h => hts _ (List.mem_cons_of_mem _ h)
  have g21 : ∀ (Q : State → Prop) (pc : Nat), decode c_Or_add pc = .ok (.getfield 21, 3) → fx_Snd (fx_W p κ.1 e rm_Or_add s m args below meth c Q (fx_A κ.2.2.2 lyX.length) 0 0 (fx_P κ.2.1 vwCl κ.2.2.1 κ.2.2.2 lyX) κ.2.2.2 5) pc (fm_get 4 3 (pc + 3)) := fun Q pc hd => fs_get hC (cN := 4) (j := 3) (ci := 4) (C := R_Or) (T := T_Or) (N := 4) rfl rfl rfl (by decide) (fun w h => List.mem_cons_of_mem _ (in_Or w h)) (hm wd_129) hd
  have g9 : ∀ (Q : State → Prop) (pc : Nat), decode c_Or_add pc = .ok (.getfield 9, 3) → fx_Snd (fx_W p κ.1 e rm_Or_add s m args below meth c Q (fx_A κ.2.2.2 lyX.length) 0 0 (fx_P κ.2.1 vwCl κ.2.2.1 κ.2.2.2 lyX) κ.2.2.2 5) pc (fm_getr 4 18 (pc + 3)) := fun Q pc hd => fs_getr hC (cN := 4) (j := 0) (ci := 4) (C := R_Or) (T := T_Or) (N := 4) rfl rfl rfl (by decide) (fun w h => List.mem_cons_of_mem _ (in_Or w h)) (hm wd_126) hd
  have g15 : ∀ (Q : State → Prop) (pc : Nat), decode c_Or_add pc = .ok (.getfield 15, 3) → fx_Snd (fx_W p κ.1 e rm_Or_add s m args below meth c Q (fx_A κ.2.2.2 lyX.length) 0 0 (fx_P κ.2.1 vwCl κ.2.2.1 κ.2.2.2 lyX) κ.2.2.2 5) pc (fm_getr 4 19 (pc + 3)) := fun Q pc hd => fs_getr hC (cN := 4) (j := 1) (ci := 4) (C := R_Or) (T := T_Or) (N := 4) rfl rfl rfl (by decide) (fun w h => List.mem_cons_of_mem _ (in_Or w h)) (hm wd_127) hd
  have g18 : ∀ (Q : State → Prop) (pc : Nat), decode c_Or_add pc = .ok (.getfield 18, 3) → fx_Snd (fx_W p κ.1 e rm_Or_add s m args below meth c Q (fx_A κ.2.2.2 lyX.length) 0 0 (fx_P κ.2.1 vwCl κ.2.2.1 κ.2.2.2 lyX) κ.2.2.2 5) pc (fm_getr 4 20 (pc + 3)) := fun Q pc hd => fs_getr hC (cN := 4) (j := 2) (ci := 4) (C := R_Or) (T := T_Or) (N := 4) rfl rfl rfl (by decide) (fun w h => List.mem_cons_of_mem _ (in_Or w h)) (hm wd_128) hd
  refine List.forall_mem_cons.mpr ⟨fs_loada_n hF d_Or_add_0 rfl, ?_⟩
  refine List.forall_mem_cons.mpr ⟨fs_dup hF d_Or_add_1, ?_⟩
  refine List.forall_mem_cons.mpr ⟨g21 _ 2 d_Or_add_2, ?_⟩
  refine List.forall_mem_cons.mpr ⟨fs_dupx1 hF d_Or_add_5, ?_⟩
  refine List.forall_mem_cons.mpr ⟨fs_const hF d_Or_add_6 (by decide), ?_⟩
  refine List.forall_mem_cons.mpr ⟨fs_iadd hF d_Or_add_7, ?_⟩
  refine List.forall_mem_cons.mpr ⟨fs_put hC (cN := 4) (j := 3) (ci := 4) (C := R_Or) (T := T_Or) (N := 4) rfl rfl rfl (by decide) ty_Or tk_Or nm_Or rfl (by decide +kernel) (fun w h => List.mem_cons_of_mem _ (in_Or w h)) (hm wd_129) d_Or_add_8, ?_⟩
  refine List.forall_mem_cons.mpr ⟨fs_store hF d_Or_add_11 (by decide), ?_⟩
  refine List.forall_mem_cons.mpr ⟨fs_loada_n hF d_Or_add_13 rfl, ?_⟩
  refine List.forall_mem_cons.mpr ⟨g9 _ 14 d_Or_add_14, ?_⟩
  refine List.forall_mem_cons.mpr ⟨fs_load hF d_Or_add_17, ?_⟩
  refine List.forall_mem_cons.mpr ⟨fs_load_n hF d_Or_add_19 rfl, ?_⟩
  refine List.forall_mem_cons.mpr ⟨fs_ast hC lkXI d_Or_add_20, ?_⟩
  refine List.forall_mem_cons.mpr ⟨fs_loada_n hF d_Or_add_21 rfl, ?_⟩
  refine List.forall_mem_cons.mpr ⟨g15 _ 22 d_Or_add_22, ?_⟩
  refine List.forall_mem_cons.mpr ⟨fs_load hF d_Or_add_25, ?_⟩
  refine List.forall_mem_cons.mpr ⟨fs_load_n hF d_Or_add_27 rfl, ?_⟩
  refine List.forall_mem_cons.mpr ⟨fs_ast hC lkXI d_Or_add_28, ?_⟩
  refine List.forall_mem_cons.mpr ⟨fs_loada_n hF d_Or_add_29 rfl, ?_⟩
  refine List.forall_mem_cons.mpr ⟨g18 _ 30 d_Or_add_30, ?_⟩
  refine List.forall_mem_cons.mpr ⟨fs_load hF d_Or_add_33, ?_⟩
  refine List.forall_mem_cons.mpr ⟨fs_load_n hF d_Or_add_35 rfl, ?_⟩
  refine List.forall_mem_cons.mpr ⟨fs_ast hC lkXI d_Or_add_36, ?_⟩
  refine List.forall_mem_cons.mpr ⟨fs_load hF d_Or_add_37, ?_⟩
  refine List.forall_mem_cons.mpr ⟨fs_ret hC hr d_Or_add_39, ?_⟩
  exact fun _ h => absurd h List.not_mem_nil
abbrev rm_Or_rulingOver : Room := { frames := 1, cells := 0, slots := 0, locals := 21 }
def ws_Or_rulingOver : List Cond := .code y_Or_rulingOver c_Or_rulingOver 4 (some .int) :: TB
abbrev MC_Or_rulingOver (κ : fx_K) : List fx_V → fx_S → (Int32 → fx_S → Prop) → Prop := fx_Met κ.1 κ.2.1 vwCl κ.2.2.1 κ.2.2.2 lyX nwl y_Or_rulingOver ws_Or_rulingOver rm_Or_rulingOver true
def tt_Or_rulingOver (κ : fx_K) (post : Int32 → fx_S → Prop) : List (Nat × fx_M fx_S) := [(0, fm_const 0 1),
  (1, fm_store 3 2),
  (2, fm_load 3 3),
  (3, fm_loada 0 4),
  (4, fm_get 4 3 7),
  (7, fm_cmpge 41 10),
  (10, fm_loada 0 11),
  (11, fm_getr 4 19 14),
  (14, fm_load 3 15),
  (15, fm_ald lnXI 16),
  (16, fm_load 1 17),
  (17, fm_cmpne 35 20),
  (20, fm_loada 0 21),
  (21, fm_getr 4 18 24),
  (24, fm_load 3 25),
  (25, fm_ald lnXI 26),
  (26, fm_load 2 27),
  (27, fm_calls true 2 (MC_Fc_isIn κ) 30),
  (30, fm_ifeq 35 33),
  (33, fm_load 3 34),
  (34, fm_ret post),
  (35, fm_inc 3 1 38),
  (38, fm_goto 2),
  (41, fm_const (-1) 42),
  (42, fm_ret post)]
set_option maxHeartbeats 4000000 in
set_option maxRecDepth 100000 in
theorem mo_Or_rulingOver {κ : fx_K} (hq : fx_I κ lyX.length) {av : List fx_V} {S : fx_S} {post : Int32 → fx_S → Prop} (hlen : av.length ≤ 4) (body : ∀ J : fx_J fx_S, (∀ r ∈ tt_Or_rulingOver κ post, fx_Snd J r.1 r.2) → (∀ pc k ls st S, J pc (ls.take k) st S → J pc ls st S) → J 0 av [] S) : MC_Or_rulingOver κ av S post := by
  refine fx_Met_of (cc := c_Or_rulingOver) (nL := 4) (ret := (some .int)) (by decide) rfl hq hlen ?_
  intro p e s m args below meth c hC hr hnw
  refine body _ ?_ fx_W_take
  have hF := hC.1
  have hts := hC.1.2.2.2.2
  have hm : ∀ {w : Cond}, w ∈ TB → w.before args s = true := fun h => hts _ (List.mem_cons_of_mem _ h)
  have g21 : ∀ (Q : State → Prop) (pc : Nat), decode c_Or_rulingOver pc = .ok (.getfield 21, 3) → fx_Snd (fx_W p κ.1 e rm_Or_rulingOver s m args below meth c Q (fx_A κ.2.2.2 lyX.length) 0 0 (fx_P κ.2.1 vwCl κ.2.2.1 κ.2.2.2 lyX) κ.2.2.2 4) pc (fm_get 4 3 (pc + 3)) := fun Q pc hd => fs_get hC (cN := 4) (j := 3) (ci := 4) (C := R_Or) (T := T_Or) (N := 4) rfl rfl rfl (by decide) (fun w h => List.mem_cons_of_mem _ (in_Or w h)) (hm wd_129) hd
  have g15 : ∀ (Q : State → Prop) (pc : Nat), decode c_Or_rulingOver pc = .ok (.getfield 15, 3) → fx_Snd (fx_W p κ.1 e rm_Or_rulingOver s m args below meth c Q (fx_A κ.2.2.2 lyX.length) 0 0 (fx_P κ.2.1 vwCl κ.2.2.1 κ.2.2.2 lyX) κ.2.2.2 4) pc (fm_getr 4 19 (pc + 3)) := fun Q pc hd => fs_getr hC (cN := 4) (j := 1) (ci := 4) (C := R_Or) (T := T_Or) (N := 4) rfl rfl rfl (by decide) (fun w h => List.mem_cons_of_mem _ (in_Or w h)) (hm wd_127) hd
  have g9 : ∀ (Q : State → Prop) (pc : Nat), decode c_Or_rulingOver pc = .ok (.getfield 9, 3) → fx_Snd (fx_W p κ.1 e rm_Or_rulingOver s m args below meth c Q (fx_A κ.2.2.2 lyX.length) 0 0 (fx_P κ.2.1 vwCl κ.2.2.1 κ.2.2.2 lyX) κ.2.2.2 4) pc (fm_getr 4 18 (pc + 3)) := fun Q pc hd => fs_getr hC (cN := 4) (j := 0) (ci := 4) (C := R_Or) (T := T_Or) (N := 4) rfl rfl rfl (by decide) (fun w h => List.mem_cons_of_mem _ (in_Or w h)) (hm wd_126) hd
  refine List.forall_mem_cons.mpr ⟨fs_const hF d_Or_rulingOver_0 (by decide), ?_⟩
  refine List.forall_mem_cons.mpr ⟨fs_store_n hF d_Or_rulingOver_1 rfl (by decide), ?_⟩
  refine List.forall_mem_cons.mpr ⟨fs_load_n hF d_Or_rulingOver_2 rfl, ?_⟩
  refine List.forall_mem_cons.mpr ⟨fs_loada_n hF d_Or_rulingOver_3 rfl, ?_⟩
  refine List.forall_mem_cons.mpr ⟨g21 _ 4 d_Or_rulingOver_4, ?_⟩
  refine List.forall_mem_cons.mpr ⟨fs_cmpge hF d_Or_rulingOver_7 (by decide), ?_⟩
  refine List.forall_mem_cons.mpr ⟨fs_loada_n hF d_Or_rulingOver_10 rfl, ?_⟩
  refine List.forall_mem_cons.mpr ⟨g15 _ 11 d_Or_rulingOver_11, ?_⟩
  refine List.forall_mem_cons.mpr ⟨fs_load_n hF d_Or_rulingOver_14 rfl, ?_⟩
  refine List.forall_mem_cons.mpr ⟨fs_ald hC lkXI d_Or_rulingOver_15, ?_⟩
  refine List.forall_mem_cons.mpr ⟨fs_load_n hF d_Or_rulingOver_16 rfl, ?_⟩
  refine List.forall_mem_cons.mpr ⟨fs_cmpne hF d_Or_rulingOver_17 (by decide), ?_⟩
  refine List.forall_mem_cons.mpr ⟨fs_loada_n hF d_Or_rulingOver_20 rfl, ?_⟩
  refine List.forall_mem_cons.mpr ⟨g9 _ 21 d_Or_rulingOver_21, ?_⟩
  refine List.forall_mem_cons.mpr ⟨fs_load_n hF d_Or_rulingOver_24 rfl, ?_⟩
  refine List.forall_mem_cons.mpr ⟨fs_ald hC lkXI d_Or_rulingOver_25, ?_⟩
  refine List.forall_mem_cons.mpr ⟨fs_load_n hF d_Or_rulingOver_26 rfl, ?_⟩
  refine List.forall_mem_cons.mpr ⟨fs_callSN hC nwl_ok hnw ⟨va_cnB 2 hts (tb_good wd_369) rfl rfl rfl (hnw _ (List.mem_of_getElem? (i := 27) rfl)) (hm wd_32) pd_Fc_isIn ⟨Nat.le_of_ble_eq_true rfl, Nat.le_of_ble_eq_true rfl⟩, hm wd_368⟩ d_Or_rulingOver_27, ?_⟩
  refine List.forall_mem_cons.mpr ⟨fs_ifeq hF d_Or_rulingOver_30 (by decide), ?_⟩
  refine List.forall_mem_cons.mpr ⟨fs_load_n hF d_Or_rulingOver_33 rfl, ?_⟩
  refine List.forall_mem_cons.mpr ⟨fs_ret hC hr d_Or_rulingOver_34, ?_⟩
  refine List.forall_mem_cons.mpr ⟨fs_inc hF d_Or_rulingOver_35 (by decide) (by decide), ?_⟩
  refine List.forall_mem_cons.mpr ⟨fs_goto hF d_Or_rulingOver_38 (by decide), ?_⟩
  refine List.forall_mem_cons.mpr ⟨fs_const hF d_Or_rulingOver_41 (by decide), ?_⟩
  refine List.forall_mem_cons.mpr ⟨fs_ret hC hr d_Or_rulingOver_42, ?_⟩
  exact fun _ h => absurd h List.not_mem_nil
abbrev rm_Or_forcedSteps : Room := { frames := 0, cells := 0, slots := 0, locals := 0 }
def ws_Or_forcedSteps : List Cond := .code y_Or_forcedSteps c_Or_forcedSteps 3 (some .int) :: TB
abbrev MC_Or_forcedSteps (κ : fx_K) : List fx_V → fx_S → (Int32 → fx_S → Prop) → Prop := fx_Met κ.1 κ.2.1 vwCl κ.2.2.1 κ.2.2.2 lyX nwl y_Or_forcedSteps ws_Or_forcedSteps rm_Or_forcedSteps true
def tt_Or_forcedSteps (κ : fx_K) (post : Int32 → fx_S → Prop) : List (Nat × fx_M fx_S) := [(0, fm_loada 0 1),
  (1, fm_getr 4 20 4),
  (4, fm_load 1 5),
  (5, fm_ald lnXI 6),
  (6, fm_const (-1) 7),
  (7, fm_cmpne 14 10),
  (10, fm_load 2 11),
  (11, fm_goto 20),
  (14, fm_loada 0 15),
  (15, fm_getr 4 20 18),
  (18, fm_load 1 19),
  (19, fm_ald lnXI 20),
  (20, fm_ret post)]
set_option maxHeartbeats 4000000 in
set_option maxRecDepth 100000 in
theorem mo_Or_forcedSteps {κ : fx_K} (hq : fx_I κ lyX.length) {av : List fx_V} {S : fx_S} {post : Int32 → fx_S → Prop} (hlen : av.length ≤ 3) (body : ∀ J : fx_J fx_S, (∀ r ∈ tt_Or_forcedSteps κ post, fx_Snd J r.1 r.2) → (∀ pc k ls st S, J pc (ls.take k) st S → J pc ls st S) → J 0 av [] S) : MC_Or_forcedSteps κ av S post := by
  refine fx_Met_of (cc := c_Or_forcedSteps) (nL := 3) (ret := (some .int)) (by decide) rfl hq hlen ?_
  intro p e s m args below meth c hC hr hnw
  refine body _ ?_ fx_W_take
  have hF := hC.1
  have hts := hC.1.2.2.2.2
  have hm : ∀ {w : Cond}, w ∈ TB → w.before args s = true := fun h => hts _ (List.mem_cons_of_mem _ h)
  have g18 : ∀ (Q : State → Prop) (pc : Nat), decode c_Or_forcedSteps pc = .ok (.getfield 18, 3) → fx_Snd (fx_W p κ.1 e rm_Or_forcedSteps s m args below meth c Q (fx_A κ.2.2.2 lyX.length) 0 0 (fx_P κ.2.1 vwCl κ.2.2.1 κ.2.2.2 lyX) κ.2.2.2 3) pc (fm_getr 4 20 (pc + 3)) := fun Q pc hd => fs_getr hC (cN := 4) (j := 2) (ci := 4) (C := R_Or) (T := T_Or) (N := 4) rfl rfl rfl (by decide) (fun w h => List.mem_cons_of_mem _ (in_Or w h)) (hm wd_128) hd
  refine List.forall_mem_cons.mpr ⟨fs_loada_n hF d_Or_forcedSteps_0 rfl, ?_⟩
  refine List.forall_mem_cons.mpr ⟨g18 _ 1 d_Or_forcedSteps_1, ?_⟩
  refine List.forall_mem_cons.mpr ⟨fs_load_n hF d_Or_forcedSteps_4 rfl, ?_⟩
  refine List.forall_mem_cons.mpr ⟨fs_ald hC lkXI d_Or_forcedSteps_5, ?_⟩
  refine List.forall_mem_cons.mpr ⟨fs_const hF d_Or_forcedSteps_6 (by decide), ?_⟩
  refine List.forall_mem_cons.mpr ⟨fs_cmpne hF d_Or_forcedSteps_7 (by decide), ?_⟩
  refine List.forall_mem_cons.mpr ⟨fs_load_n hF d_Or_forcedSteps_10 rfl, ?_⟩
  refine List.forall_mem_cons.mpr ⟨fs_goto hF d_Or_forcedSteps_11 (by decide), ?_⟩
  refine List.forall_mem_cons.mpr ⟨fs_loada_n hF d_Or_forcedSteps_14 rfl, ?_⟩
  refine List.forall_mem_cons.mpr ⟨g18 _ 15 d_Or_forcedSteps_15, ?_⟩
  refine List.forall_mem_cons.mpr ⟨fs_load_n hF d_Or_forcedSteps_18 rfl, ?_⟩
  refine List.forall_mem_cons.mpr ⟨fs_ald hC lkXI d_Or_forcedSteps_19, ?_⟩
  refine List.forall_mem_cons.mpr ⟨fs_ret hC hr d_Or_forcedSteps_20, ?_⟩
  exact fun _ h => absurd h List.not_mem_nil
abbrev rm_Or_fixedBy : Room := { frames := 1, cells := 0, slots := 0, locals := 22 }
def ws_Or_fixedBy : List Cond := .code y_Or_fixedBy c_Or_fixedBy 4 (some .int) :: TB
abbrev MC_Or_fixedBy (κ : fx_K) : List fx_V → fx_S → (Int32 → fx_S → Prop) → Prop := fx_Met κ.1 κ.2.1 vwCl κ.2.2.1 κ.2.2.2 lyX nwl y_Or_fixedBy ws_Or_fixedBy rm_Or_fixedBy true
def tt_Or_fixedBy (κ : fx_K) (post : Int32 → fx_S → Prop) : List (Nat × fx_M fx_S) := [(0, fm_const 0 1),
  (1, fm_store 2 2),
  (2, fm_const 0 3),
  (3, fm_store 3 4),
  (4, fm_load 3 5),
  (5, fm_loada 0 6),
  (6, fm_get 4 3 9),
  (9, fm_cmpge 40 12),
  (12, fm_loada 0 13),
  (13, fm_getr 4 18 16),
  (16, fm_load 3 17),
  (17, fm_ald lnXI 18),
  (18, fm_load 1 19),
  (19, fm_calls true 2 (MC_Fc_isIn κ) 22),
  (22, fm_ifeq 34 25),
  (25, fm_load 2 26),
  (26, fm_loada 0 27),
  (27, fm_load 3 28),
  (28, fm_const 0 29),
  (29, fm_call true 4 2 (MC_Or_forcedSteps κ) 32),
  (32, fm_ior 33),
  (33, fm_store 2 34),
  (34, fm_inc 3 1 37),
  (37, fm_goto 4),
  (40, fm_load 2 41),
  (41, fm_ret post)]
set_option maxHeartbeats 4000000 in
set_option maxRecDepth 100000 in
theorem mo_Or_fixedBy {κ : fx_K} (hq : fx_I κ lyX.length) {av : List fx_V} {S : fx_S} {post : Int32 → fx_S → Prop} (hlen : av.length ≤ 4) (body : ∀ J : fx_J fx_S, (∀ r ∈ tt_Or_fixedBy κ post, fx_Snd J r.1 r.2) → (∀ pc k ls st S, J pc (ls.take k) st S → J pc ls st S) → J 0 av [] S) : MC_Or_fixedBy κ av S post := by
  refine fx_Met_of (cc := c_Or_fixedBy) (nL := 4) (ret := (some .int)) (by decide) rfl hq hlen ?_
  intro p e s m args below meth c hC hr hnw
  refine body _ ?_ fx_W_take
  have hF := hC.1
  have hts := hC.1.2.2.2.2
  have hm : ∀ {w : Cond}, w ∈ TB → w.before args s = true := fun h => hts _ (List.mem_cons_of_mem _ h)
  have g21 : ∀ (Q : State → Prop) (pc : Nat), decode c_Or_fixedBy pc = .ok (.getfield 21, 3) → fx_Snd (fx_W p κ.1 e rm_Or_fixedBy s m args below meth c Q (fx_A κ.2.2.2 lyX.length) 0 0 (fx_P κ.2.1 vwCl κ.2.2.1 κ.2.2.2 lyX) κ.2.2.2 4) pc (fm_get 4 3 (pc + 3)) := fun Q pc hd => fs_get hC (cN := 4) (j := 3) (ci := 4) (C := R_Or) (T := T_Or) (N := 4) rfl rfl rfl (by decide) (fun w h => List.mem_cons_of_mem _ (in_Or w h)) (hm wd_129) hd
  have g9 : ∀ (Q : State → Prop) (pc : Nat), decode c_Or_fixedBy pc = .ok (.getfield 9, 3) → fx_Snd (fx_W p κ.1 e rm_Or_fixedBy s m args below meth c Q (fx_A κ.2.2.2 lyX.length) 0 0 (fx_P κ.2.1 vwCl κ.2.2.1 κ.2.2.2 lyX) κ.2.2.2 4) pc (fm_getr 4 18 (pc + 3)) := fun Q pc hd => fs_getr hC (cN := 4) (j := 0) (ci := 4) (C := R_Or) (T := T_Or) (N := 4) rfl rfl rfl (by decide) (fun w h => List.mem_cons_of_mem _ (in_Or w h)) (hm wd_126) hd
  refine List.forall_mem_cons.mpr ⟨fs_const hF d_Or_fixedBy_0 (by decide), ?_⟩
  refine List.forall_mem_cons.mpr ⟨fs_store_n hF d_Or_fixedBy_1 rfl (by decide), ?_⟩
  refine List.forall_mem_cons.mpr ⟨fs_const hF d_Or_fixedBy_2 (by decide), ?_⟩
  refine List.forall_mem_cons.mpr ⟨fs_store_n hF d_Or_fixedBy_3 rfl (by decide), ?_⟩
  refine List.forall_mem_cons.mpr ⟨fs_load_n hF d_Or_fixedBy_4 rfl, ?_⟩
  refine List.forall_mem_cons.mpr ⟨fs_loada_n hF d_Or_fixedBy_5 rfl, ?_⟩
  refine List.forall_mem_cons.mpr ⟨g21 _ 6 d_Or_fixedBy_6, ?_⟩
  refine List.forall_mem_cons.mpr ⟨fs_cmpge hF d_Or_fixedBy_9 (by decide), ?_⟩
  refine List.forall_mem_cons.mpr ⟨fs_loada_n hF d_Or_fixedBy_12 rfl, ?_⟩
  refine List.forall_mem_cons.mpr ⟨g9 _ 13 d_Or_fixedBy_13, ?_⟩
  refine List.forall_mem_cons.mpr ⟨fs_load_n hF d_Or_fixedBy_16 rfl, ?_⟩
  refine List.forall_mem_cons.mpr ⟨fs_ald hC lkXI d_Or_fixedBy_17, ?_⟩
  refine List.forall_mem_cons.mpr ⟨fs_load_n hF d_Or_fixedBy_18 rfl, ?_⟩
  refine List.forall_mem_cons.mpr ⟨fs_callSN hC nwl_ok hnw ⟨va_cnB 2 hts (tb_good wd_369) rfl rfl rfl (hnw _ (List.mem_of_getElem? (i := 27) rfl)) (hm wd_32) pd_Fc_isIn ⟨Nat.le_of_ble_eq_true rfl, Nat.le_of_ble_eq_true rfl⟩, hm wd_368⟩ d_Or_fixedBy_19, ?_⟩
  refine List.forall_mem_cons.mpr ⟨fs_ifeq hF d_Or_fixedBy_22 (by decide), ?_⟩
  refine List.forall_mem_cons.mpr ⟨fs_load_n hF d_Or_fixedBy_25 rfl, ?_⟩
  refine List.forall_mem_cons.mpr ⟨fs_loada_n hF d_Or_fixedBy_26 rfl, ?_⟩
  refine List.forall_mem_cons.mpr ⟨fs_load_n hF d_Or_fixedBy_27 rfl, ?_⟩
  refine List.forall_mem_cons.mpr ⟨fs_const hF d_Or_fixedBy_28 (by decide), ?_⟩
  refine List.forall_mem_cons.mpr ⟨fs_callV hC nwl_ok hnw (cN := 4) (ci := 4) (C := R_Or) rfl rfl ⟨callB_of 2 hts (tb_good wd_378) rfl rfl rfl (hm wd_36) (hm wd_375) pd_Or_forcedSteps ⟨Nat.le_of_ble_eq_true rfl, Nat.le_of_ble_eq_true rfl⟩, hm wd_376, hm wd_377⟩ d_Or_fixedBy_29, ?_⟩
  refine List.forall_mem_cons.mpr ⟨fs_ior hF d_Or_fixedBy_32, ?_⟩
  refine List.forall_mem_cons.mpr ⟨fs_store_n hF d_Or_fixedBy_33 rfl (by decide), ?_⟩
  refine List.forall_mem_cons.mpr ⟨fs_inc hF d_Or_fixedBy_34 (by decide) (by decide), ?_⟩
  refine List.forall_mem_cons.mpr ⟨fs_goto hF d_Or_fixedBy_37 (by decide), ?_⟩
  refine List.forall_mem_cons.mpr ⟨fs_load_n hF d_Or_fixedBy_40 rfl, ?_⟩
  refine List.forall_mem_cons.mpr ⟨fs_ret hC hr d_Or_fixedBy_41, ?_⟩
  exact fun _ h => absurd h List.not_mem_nil
abbrev rm_Ac_isQualifier : Room := { frames := 0, cells := 0, slots := 0, locals := 0 }
def ws_Ac_isQualifier : List Cond := .code y_Ac_isQualifier c_Ac_isQualifier 1 (some .boolean) :: TB
abbrev MC_Ac_isQualifier (κ : fx_K) : List fx_V → fx_S → (Int32 → fx_S → Prop) → Prop := fx_Met κ.1 κ.2.1 vwCl κ.2.2.1 κ.2.2.2 lyX nwl y_Ac_isQualifier ws_Ac_isQualifier rm_Ac_isQualifier true
def tt_Ac_isQualifier (κ : fx_K) (post : Int32 → fx_S → Prop) : List (Nat × fx_M fx_S) := [(0, fm_load 0 1),
  (1, fm_iflt 14 4),
  (4, fm_load 0 5),
  (5, fm_const 9 7),
  (7, fm_cmpgt 14 10),
  (10, fm_const 1 11),
  (11, fm_goto 15),
  (14, fm_const 0 15),
  (15, fm_zret post)]
set_option maxHeartbeats 4000000 in
set_option maxRecDepth 100000 in
theorem mo_Ac_isQualifier {κ : fx_K} (hq : fx_I κ lyX.length) {av : List fx_V} {S : fx_S} {post : Int32 → fx_S → Prop} (hlen : av.length ≤ 1) (body : ∀ J : fx_J fx_S, (∀ r ∈ tt_Ac_isQualifier κ post, fx_Snd J r.1 r.2) → (∀ pc k ls st S, J pc (ls.take k) st S → J pc ls st S) → J 0 av [] S) : MC_Ac_isQualifier κ av S post := by
  refine fx_Met_of (cc := c_Ac_isQualifier) (nL := 1) (ret := (some .boolean)) (by decide) rfl hq hlen ?_
  intro p e s m args below meth c hC hr hnw
  refine body _ ?_ fx_W_take
  have hF := hC.1
  have hts := hC.1.2.2.2.2
  have hm : ∀ {w : Cond}, w ∈ TB → w.before args s = true := fun h => hts _ (List.mem_cons_of_mem _ h)
  refine List.forall_mem_cons.mpr ⟨fs_load_n hF d_Ac_isQualifier_0 rfl, ?_⟩
  refine List.forall_mem_cons.mpr ⟨fs_iflt hF d_Ac_isQualifier_1 (by decide), ?_⟩
  refine List.forall_mem_cons.mpr ⟨fs_load_n hF d_Ac_isQualifier_4 rfl, ?_⟩
  refine List.forall_mem_cons.mpr ⟨fs_bipush hF d_Ac_isQualifier_5 (by decide), ?_⟩
  refine List.forall_mem_cons.mpr ⟨fs_cmpgt hF d_Ac_isQualifier_7 (by decide), ?_⟩
  refine List.forall_mem_cons.mpr ⟨fs_const hF d_Ac_isQualifier_10 (by decide), ?_⟩
  refine List.forall_mem_cons.mpr ⟨fs_goto hF d_Ac_isQualifier_11 (by decide), ?_⟩
  refine List.forall_mem_cons.mpr ⟨fs_const hF d_Ac_isQualifier_14 (by decide), ?_⟩
  refine List.forall_mem_cons.mpr ⟨fs_zret hC hr d_Ac_isQualifier_15, ?_⟩
  exact fun _ h => absurd h List.not_mem_nil
abbrev rm_Ac_add : Room := { frames := 0, cells := 0, slots := 0, locals := 0 }
def ws_Ac_add : List Cond := .code y_Ac_add c_Ac_add 6 (some .int) :: TB
abbrev MC_Ac_add (κ : fx_K) : List fx_V → fx_S → (Int32 → fx_S → Prop) → Prop := fx_Met κ.1 κ.2.1 vwCl κ.2.2.1 κ.2.2.2 lyX nwl y_Ac_add ws_Ac_add rm_Ac_add true
def tt_Ac_add (κ : fx_K) (post : Int32 → fx_S → Prop) : List (Nat × fx_M fx_S) := [(0, fm_loada 0 1),
  (1, fm_dup 2),
  (2, fm_get 5 5 5),
  (5, fm_dupx1 6),
  (6, fm_const 1 7),
  (7, fm_iadd 8),
  (8, fm_put 5 5 11),
  (11, fm_store 5 13),
  (13, fm_loada 0 14),
  (14, fm_getr 5 21 17),
  (17, fm_load 5 19),
  (19, fm_load 1 20),
  (20, fm_ast lnXI 21),
  (21, fm_loada 0 22),
  (22, fm_getr 5 22 25),
  (25, fm_load 5 27),
  (27, fm_load 2 28),
  (28, fm_ast lnXI 29),
  (29, fm_loada 0 30),
  (30, fm_getr 5 23 33),
  (33, fm_load 5 35),
  (35, fm_load 3 36),
  (36, fm_ast lnXI 37),
  (37, fm_loada 0 38),
  (38, fm_getr 5 24 41),
  (41, fm_load 5 43),
  (43, fm_load 4 45),
  (45, fm_ast lnXI 46),
  (46, fm_load 5 48),
  (48, fm_ret post)]
set_option maxHeartbeats 4000000 in
set_option maxRecDepth 100000 in
theorem mo_Ac_add {κ : fx_K} (hq : fx_I κ lyX.length) {av : List fx_V} {S : fx_S} {post : Int32 → fx_S → Prop} (hlen : av.length ≤ 6) (body : ∀ J : fx_J fx_S, (∀ r ∈ tt_Ac_add κ post, fx_Snd J r.1 r.2) → (∀ pc k ls st S, J pc (ls.take k) st S → J pc ls st S) → J 0 av [] S) : MC_Ac_add κ av S post := by
  refine fx_Met_of (cc := c_Ac_add) (nL := 6) (ret := (some .int)) (by decide) rfl hq hlen ?_
  intro p e s m args below meth c hC hr hnw
  refine body _ ?_ fx_W_take
  have hF := hC.1
  have hts := hC.1.2.2.2.2
  have hm : ∀ {w : Cond}, w ∈ TB → w.before args s = true := fun h => hts _ (List.mem_cons_of_mem _ h)
  have g27 : ∀ (Q : State → Prop) (pc : Nat), decode c_Ac_add pc = .ok (.getfield 27, 3) → fx_Snd (fx_W p κ.1 e rm_Ac_add s m args below meth c Q (fx_A κ.2.2.2 lyX.length) 0 0 (fx_P κ.2.1 vwCl κ.2.2.1 κ.2.2.2 lyX) κ.2.2.2 6) pc (fm_get 5 5 (pc + 3)) := fun Q pc hd => fs_get hC (cN := 5) (j := 5) (ci := 5) (C := R_Ac) (T := T_Ac) (N := 7) rfl rfl rfl (by decide) (fun w h => List.mem_cons_of_mem _ (in_Ac w h)) (hm wd_151) hd
  have g9 : ∀ (Q : State → Prop) (pc : Nat), decode c_Ac_add pc = .ok (.getfield 9, 3) → fx_Snd (fx_W p κ.1 e rm_Ac_add s m args below meth c Q (fx_A κ.2.2.2 lyX.length) 0 0 (fx_P κ.2.1 vwCl κ.2.2.1 κ.2.2.2 lyX) κ.2.2.2 6) pc (fm_getr 5 21 (pc + 3)) := fun Q pc hd => fs_getr hC (cN := 5) (j := 0) (ci := 5) (C := R_Ac) (T := T_Ac) (N := 7) rfl rfl rfl (by decide) (fun w h => List.mem_cons_of_mem _ (in_Ac w h)) (hm wd_146) hd
  have g15 : ∀ (Q : State → Prop) (pc : Nat), decode c_Ac_add pc = .ok (.getfield 15, 3) → fx_Snd (fx_W p κ.1 e rm_Ac_add s m args below meth c Q (fx_A κ.2.2.2 lyX.length) 0 0 (fx_P κ.2.1 vwCl κ.2.2.1 κ.2.2.2 lyX) κ.2.2.2 6) pc (fm_getr 5 22 (pc + 3)) := fun Q pc hd => fs_getr hC (cN := 5) (j := 1) (ci := 5) (C := R_Ac) (T := T_Ac) (N := 7) rfl rfl rfl (by decide) (fun w h => List.mem_cons_of_mem _ (in_Ac w h)) (hm wd_147) hd
  have g18 : ∀ (Q : State → Prop) (pc : Nat), decode c_Ac_add pc = .ok (.getfield 18, 3) → fx_Snd (fx_W p κ.1 e rm_Ac_add s m args below meth c Q (fx_A κ.2.2.2 lyX.length) 0 0 (fx_P κ.2.1 vwCl κ.2.2.1 κ.2.2.2 lyX) κ.2.2.2 6) pc (fm_getr 5 23 (pc + 3)) := fun Q pc hd => fs_getr hC (cN := 5) (j := 2) (ci := 5) (C := R_Ac) (T := T_Ac) (N := 7) rfl rfl rfl (by decide) (fun w h => List.mem_cons_of_mem _ (in_Ac w h)) (hm wd_148) hd
  have g21 : ∀ (Q : State → Prop) (pc : Nat), decode c_Ac_add pc = .ok (.getfield 21, 3) → fx_Snd (fx_W p κ.1 e rm_Ac_add s m args below meth c Q (fx_A κ.2.2.2 lyX.length) 0 0 (fx_P κ.2.1 vwCl κ.2.2.1 κ.2.2.2 lyX) κ.2.2.2 6) pc (fm_getr 5 24 (pc + 3)) := fun Q pc hd => fs_getr hC (cN := 5) (j := 3) (ci := 5) (C := R_Ac) (T := T_Ac) (N := 7) rfl rfl rfl (by decide) (fun w h => List.mem_cons_of_mem _ (in_Ac w h)) (hm wd_149) hd
  refine List.forall_mem_cons.mpr ⟨fs_loada_n hF d_Ac_add_0 rfl, ?_⟩
  refine List.forall_mem_cons.mpr ⟨fs_dup hF d_Ac_add_1, ?_⟩
  refine List.forall_mem_cons.mpr ⟨g27 _ 2 d_Ac_add_2, ?_⟩
  refine List.forall_mem_cons.mpr ⟨fs_dupx1 hF d_Ac_add_5, ?_⟩
  refine List.forall_mem_cons.mpr ⟨fs_const hF d_Ac_add_6 (by decide), ?_⟩
  refine List.forall_mem_cons.mpr ⟨fs_iadd hF d_Ac_add_7, ?_⟩
  refine List.forall_mem_cons.mpr ⟨fs_put hC (cN := 5) (j := 5) (ci := 5) (C := R_Ac) (T := T_Ac) (N := 7) rfl rfl rfl (by decide) ty_Ac tk_Ac nm_Ac rfl (by decide +kernel) (fun w h => List.mem_cons_of_mem _ (in_Ac w h)) (hm wd_151) d_Ac_add_8, ?_⟩
  refine List.forall_mem_cons.mpr ⟨fs_store hF d_Ac_add_11 (by decide), ?_⟩
  refine List.forall_mem_cons.mpr ⟨fs_loada_n hF d_Ac_add_13 rfl, ?_⟩
  refine List.forall_mem_cons.mpr ⟨g9 _ 14 d_Ac_add_14, ?_⟩
  refine List.forall_mem_cons.mpr ⟨fs_load hF d_Ac_add_17, ?_⟩
  refine List.forall_mem_cons.mpr ⟨fs_load_n hF d_Ac_add_19 rfl, ?_⟩
  refine List.forall_mem_cons.mpr ⟨fs_ast hC lkXI d_Ac_add_20, ?_⟩
  refine List.forall_mem_cons.mpr ⟨fs_loada_n hF d_Ac_add_21 rfl, ?_⟩
  refine List.forall_mem_cons.mpr ⟨g15 _ 22 d_Ac_add_22, ?_⟩
  refine List.forall_mem_cons.mpr ⟨fs_load hF d_Ac_add_25, ?_⟩
  refine List.forall_mem_cons.mpr ⟨fs_load_n hF d_Ac_add_27 rfl, ?_⟩
  refine List.forall_mem_cons.mpr ⟨fs_ast hC lkXI d_Ac_add_28, ?_⟩
  refine List.forall_mem_cons.mpr ⟨fs_loada_n hF d_Ac_add_29 rfl, ?_⟩
  refine List.forall_mem_cons.mpr ⟨g18 _ 30 d_Ac_add_30, ?_⟩
  refine List.forall_mem_cons.mpr ⟨fs_load hF d_Ac_add_33, ?_⟩
  refine List.forall_mem_cons.mpr ⟨fs_load_n hF d_Ac_add_35 rfl, ?_⟩
  refine List.forall_mem_cons.mpr ⟨fs_ast hC lkXI d_Ac_add_36, ?_⟩
  refine List.forall_mem_cons.mpr ⟨fs_loada_n hF d_Ac_add_37 rfl, ?_⟩
  refine List.forall_mem_cons.mpr ⟨g21 _ 38 d_Ac_add_38, ?_⟩
  refine List.forall_mem_cons.mpr ⟨fs_load hF d_Ac_add_41, ?_⟩
  refine List.forall_mem_cons.mpr ⟨fs_load hF d_Ac_add_43, ?_⟩
  refine List.forall_mem_cons.mpr ⟨fs_ast hC lkXI d_Ac_add_45, ?_⟩
  refine List.forall_mem_cons.mpr ⟨fs_load hF d_Ac_add_46, ?_⟩
  refine List.forall_mem_cons.mpr ⟨fs_ret hC hr d_Ac_add_48, ?_⟩
  exact fun _ h => absurd h List.not_mem_nil
abbrev rm_Ac_isStored : Room := { frames := 1, cells := 0, slots := 0, locals := 21 }
def ws_Ac_isStored : List Cond := .code y_Ac_isStored c_Ac_isStored 2 (some .boolean) :: TB
abbrev MC_Ac_isStored (κ : fx_K) : List fx_V → fx_S → (Int32 → fx_S → Prop) → Prop := fx_Met κ.1 κ.2.1 vwCl κ.2.2.1 κ.2.2.2 lyX nwl y_Ac_isStored ws_Ac_isStored rm_Ac_isStored true
def tt_Ac_isStored (κ : fx_K) (post : Int32 → fx_S → Prop) : List (Nat × fx_M fx_S) := [(0, fm_load 1 1),
  (1, fm_iflt 27 4),
  (4, fm_load 1 5),
  (5, fm_loada 0 6),
  (6, fm_get 5 5 9),
  (9, fm_cmpge 27 12),
  (12, fm_load 1 13),
  (13, fm_loada 0 14),
  (14, fm_get 5 6 17),
  (17, fm_calls true 2 (MC_Fc_isIn κ) 20),
  (20, fm_ifeq 27 23),
  (23, fm_const 1 24),
  (24, fm_goto 28),
  (27, fm_const 0 28),
  (28, fm_zret post)]
set_option maxHeartbeats 4000000 in
set_option maxRecDepth 100000 in
theorem mo_Ac_isStored {κ : fx_K} (hq : fx_I κ lyX.length) {av : List fx_V} {S : fx_S} {post : Int32 → fx_S → Prop} (hlen : av.length ≤ 2) (body : ∀ J : fx_J fx_S, (∀ r ∈ tt_Ac_isStored κ post, fx_Snd J r.1 r.2) → (∀ pc k ls st S, J pc (ls.take k) st S → J pc ls st S) → J 0 av [] S) : MC_Ac_isStored κ av S post := by
  refine fx_Met_of (cc := c_Ac_isStored) (nL := 2) (ret := (some .boolean)) (by decide) rfl hq hlen ?_
  intro p e s m args below meth c hC hr hnw
  refine body _ ?_ fx_W_take
  have hF := hC.1
  have hts := hC.1.2.2.2.2
  have hm : ∀ {w : Cond}, w ∈ TB → w.before args s = true := fun h => hts _ (List.mem_cons_of_mem _ h)
  have g27 : ∀ (Q : State → Prop) (pc : Nat), decode c_Ac_isStored pc = .ok (.getfield 27, 3) → fx_Snd (fx_W p κ.1 e rm_Ac_isStored s m args below meth c Q (fx_A κ.2.2.2 lyX.length) 0 0 (fx_P κ.2.1 vwCl κ.2.2.1 κ.2.2.2 lyX) κ.2.2.2 2) pc (fm_get 5 5 (pc + 3)) := fun Q pc hd => fs_get hC (cN := 5) (j := 5) (ci := 5) (C := R_Ac) (T := T_Ac) (N := 7) rfl rfl rfl (by decide) (fun w h => List.mem_cons_of_mem _ (in_Ac w h)) (hm wd_151) hd
  have g31 : ∀ (Q : State → Prop) (pc : Nat), decode c_Ac_isStored pc = .ok (.getfield 31, 3) → fx_Snd (fx_W p κ.1 e rm_Ac_isStored s m args below meth c Q (fx_A κ.2.2.2 lyX.length) 0 0 (fx_P κ.2.1 vwCl κ.2.2.1 κ.2.2.2 lyX) κ.2.2.2 2) pc (fm_get 5 6 (pc + 3)) := fun Q pc hd => fs_get hC (cN := 5) (j := 6) (ci := 5) (C := R_Ac) (T := T_Ac) (N := 7) rfl rfl rfl (by decide) (fun w h => List.mem_cons_of_mem _ (in_Ac w h)) (hm wd_153) hd
  refine List.forall_mem_cons.mpr ⟨fs_load_n hF d_Ac_isStored_0 rfl, ?_⟩
  refine List.forall_mem_cons.mpr ⟨fs_iflt hF d_Ac_isStored_1 (by decide), ?_⟩
  refine List.forall_mem_cons.mpr ⟨fs_load_n hF d_Ac_isStored_4 rfl, ?_⟩
  refine List.forall_mem_cons.mpr ⟨fs_loada_n hF d_Ac_isStored_5 rfl, ?_⟩
  refine List.forall_mem_cons.mpr ⟨g27 _ 6 d_Ac_isStored_6, ?_⟩
  refine List.forall_mem_cons.mpr ⟨fs_cmpge hF d_Ac_isStored_9 (by decide), ?_⟩
  refine List.forall_mem_cons.mpr ⟨fs_load_n hF d_Ac_isStored_12 rfl, ?_⟩
  refine List.forall_mem_cons.mpr ⟨fs_loada_n hF d_Ac_isStored_13 rfl, ?_⟩
  refine List.forall_mem_cons.mpr ⟨g31 _ 14 d_Ac_isStored_14, ?_⟩
  refine List.forall_mem_cons.mpr ⟨fs_callSN hC nwl_ok hnw ⟨va_cnB 2 hts (tb_good wd_369) rfl rfl rfl (hnw _ (List.mem_of_getElem? (i := 30) rfl)) (hm wd_32) pd_Fc_isIn ⟨Nat.le_of_ble_eq_true rfl, Nat.le_of_ble_eq_true rfl⟩, hm wd_368⟩ d_Ac_isStored_17, ?_⟩
  refine List.forall_mem_cons.mpr ⟨fs_ifeq hF d_Ac_isStored_20 (by decide), ?_⟩
  refine List.forall_mem_cons.mpr ⟨fs_const hF d_Ac_isStored_23 (by decide), ?_⟩
  refine List.forall_mem_cons.mpr ⟨fs_goto hF d_Ac_isStored_24 (by decide), ?_⟩
  refine List.forall_mem_cons.mpr ⟨fs_const hF d_Ac_isStored_27 (by decide), ?_⟩
  refine List.forall_mem_cons.mpr ⟨fs_zret hC hr d_Ac_isStored_28, ?_⟩
  exact fun _ h => absurd h List.not_mem_nil
abbrev rm_Ac_forgetStored : Room := { frames := 0, cells := 0, slots := 0, locals := 0 }
def ws_Ac_forgetStored : List Cond := .code y_Ac_forgetStored c_Ac_forgetStored 1 none :: TB
abbrev MC_Ac_forgetStored (κ : fx_K) : List fx_V → fx_S → (Int32 → fx_S → Prop) → Prop := fx_Met κ.1 κ.2.1 vwCl κ.2.2.1 κ.2.2.2 lyX nwl y_Ac_forgetStored ws_Ac_forgetStored rm_Ac_forgetStored false
def tt_Ac_forgetStored (κ : fx_K) (post : Int32 → fx_S → Prop) : List (Nat × fx_M fx_S) := [(0, fm_loada 0 1),
  (1, fm_const 0 2),
  (2, fm_put 5 6 5),
  (5, fm_vret post)]
set_option maxHeartbeats 4000000 in
set_option maxRecDepth 100000 in
theorem mo_Ac_forgetStored {κ : fx_K} (hq : fx_I κ lyX.length) {av : List fx_V} {S : fx_S} {post : Int32 → fx_S → Prop} (hlen : av.length ≤ 1) (body : ∀ J : fx_J fx_S, (∀ r ∈ tt_Ac_forgetStored κ post, fx_Snd J r.1 r.2) → (∀ pc k ls st S, J pc (ls.take k) st S → J pc ls st S) → J 0 av [] S) : MC_Ac_forgetStored κ av S post := by
  refine fx_Met_of (cc := c_Ac_forgetStored) (nL := 1) (ret := none) (by decide) rfl hq hlen ?_
  intro p e s m args below meth c hC hr hnw
  refine body _ ?_ fx_W_take
  have hF := hC.1
  have hts := hC.1.2.2.2.2
  have hm : ∀ {w : Cond}, w ∈ TB → w.before args s = true := fun h => hts _ (List.mem_cons_of_mem _ h)
  refine List.forall_mem_cons.mpr ⟨fs_loada_n hF d_Ac_forgetStored_0 rfl, ?_⟩
  refine List.forall_mem_cons.mpr ⟨fs_const hF d_Ac_forgetStored_1 (by decide), ?_⟩
  refine List.forall_mem_cons.mpr ⟨fs_put hC (cN := 5) (j := 6) (ci := 5) (C := R_Ac) (T := T_Ac) (N := 7) rfl rfl rfl (by decide) ty_Ac tk_Ac nm_Ac rfl (by decide +kernel) (fun w h => List.mem_cons_of_mem _ (in_Ac w h)) (hm wd_153) d_Ac_forgetStored_2, ?_⟩
  refine List.forall_mem_cons.mpr ⟨fs_vret hC hr d_Ac_forgetStored_5, ?_⟩
  exact fun _ h => absurd h List.not_mem_nil
abbrev rm_Ac_grow : Room := { frames := 1, cells := 0, slots := 0, locals := 21 }
def ws_Ac_grow : List Cond := .code y_Ac_grow c_Ac_grow 3 none :: TB
abbrev MC_Ac_grow (κ : fx_K) : List fx_V → fx_S → (Int32 → fx_S → Prop) → Prop := fx_Met κ.1 κ.2.1 vwCl κ.2.2.1 κ.2.2.2 lyX nwl y_Ac_grow ws_Ac_grow rm_Ac_grow false
def tt_Ac_grow (κ : fx_K) (post : Int32 → fx_S → Prop) : List (Nat × fx_M fx_S) := [(0, fm_const 0 1),
  (1, fm_store 2 2),
  (2, fm_load 2 3),
  (3, fm_loada 0 4),
  (4, fm_get 5 5 7),
  (7, fm_cmpge 37 10),
  (10, fm_load 2 11),
  (11, fm_loada 0 12),
  (12, fm_get 5 6 15),
  (15, fm_calls true 2 (MC_Fc_isIn κ) 18),
  (18, fm_ifeq 31 21),
  (21, fm_loada 0 22),
  (22, fm_getr 5 25 25),
  (25, fm_load 2 26),
  (26, fm_dup2 27),
  (27, fm_ald lnXI 28),
  (28, fm_load 1 29),
  (29, fm_iadd 30),
  (30, fm_ast lnXI 31),
  (31, fm_inc 2 1 34),
  (34, fm_goto 2),
  (37, fm_vret post)]
set_option maxHeartbeats 4000000 in
set_option maxRecDepth 100000 in
theorem mo_Ac_grow {κ : fx_K} (hq : fx_I κ lyX.length) {av : List fx_V} {S : fx_S} {post : Int32 → fx_S → Prop} (hlen : av.length ≤ 3) (body : ∀ J : fx_J fx_S, (∀ r ∈ tt_Ac_grow κ post, fx_Snd J r.1 r.2) → (∀ pc k ls st S, J pc (ls.take k) st S → J pc ls st S) → J 0 av [] S) : MC_Ac_grow κ av S post := by
  refine fx_Met_of (cc := c_Ac_grow) (nL := 3) (ret := none) (by decide) rfl hq hlen ?_
  intro p e s m args below meth c hC hr hnw
  refine body _ ?_ fx_W_take
  have hF := hC.1
  have hts := hC.1.2.2.2.2
  have hm : ∀ {w : Cond}, w ∈ TB → w.before args s = true := fun h => hts _ (List.mem_cons_of_mem _ h)
  have g27 : ∀ (Q : State → Prop) (pc : Nat), decode c_Ac_grow pc = .ok (.getfield 27, 3) → fx_Snd (fx_W p κ.1 e rm_Ac_grow s m args below meth c Q (fx_A κ.2.2.2 lyX.length) 0 0 (fx_P κ.2.1 vwCl κ.2.2.1 κ.2.2.2 lyX) κ.2.2.2 3) pc (fm_get 5 5 (pc + 3)) := fun Q pc hd => fs_get hC (cN := 5) (j := 5) (ci := 5) (C := R_Ac) (T := T_Ac) (N := 7) rfl rfl rfl (by decide) (fun w h => List.mem_cons_of_mem _ (in_Ac w h)) (hm wd_151) hd
  have g31 : ∀ (Q : State → Prop) (pc : Nat), decode c_Ac_grow pc = .ok (.getfield 31, 3) → fx_Snd (fx_W p κ.1 e rm_Ac_grow s m args below meth c Q (fx_A κ.2.2.2 lyX.length) 0 0 (fx_P κ.2.1 vwCl κ.2.2.1 κ.2.2.2 lyX) κ.2.2.2 3) pc (fm_get 5 6 (pc + 3)) := fun Q pc hd => fs_get hC (cN := 5) (j := 6) (ci := 5) (C := R_Ac) (T := T_Ac) (N := 7) rfl rfl rfl (by decide) (fun w h => List.mem_cons_of_mem _ (in_Ac w h)) (hm wd_153) hd
  have g24 : ∀ (Q : State → Prop) (pc : Nat), decode c_Ac_grow pc = .ok (.getfield 24, 3) → fx_Snd (fx_W p κ.1 e rm_Ac_grow s m args below meth c Q (fx_A κ.2.2.2 lyX.length) 0 0 (fx_P κ.2.1 vwCl κ.2.2.1 κ.2.2.2 lyX) κ.2.2.2 3) pc (fm_getr 5 25 (pc + 3)) := fun Q pc hd => fs_getr hC (cN := 5) (j := 4) (ci := 5) (C := R_Ac) (T := T_Ac) (N := 7) rfl rfl rfl (by decide) (fun w h => List.mem_cons_of_mem _ (in_Ac w h)) (hm wd_150) hd
  refine List.forall_mem_cons.mpr ⟨fs_const hF d_Ac_grow_0 (by decide), ?_⟩
  refine List.forall_mem_cons.mpr ⟨fs_store_n hF d_Ac_grow_1 rfl (by decide), ?_⟩
  refine List.forall_mem_cons.mpr ⟨fs_load_n hF d_Ac_grow_2 rfl, ?_⟩
  refine List.forall_mem_cons.mpr ⟨fs_loada_n hF d_Ac_grow_3 rfl, ?_⟩
  refine List.forall_mem_cons.mpr ⟨g27 _ 4 d_Ac_grow_4, ?_⟩
  refine List.forall_mem_cons.mpr ⟨fs_cmpge hF d_Ac_grow_7 (by decide), ?_⟩
  refine List.forall_mem_cons.mpr ⟨fs_load_n hF d_Ac_grow_10 rfl, ?_⟩
  refine List.forall_mem_cons.mpr ⟨fs_loada_n hF d_Ac_grow_11 rfl, ?_⟩
  refine List.forall_mem_cons.mpr ⟨g31 _ 12 d_Ac_grow_12, ?_⟩
  refine List.forall_mem_cons.mpr ⟨fs_callSN hC nwl_ok hnw ⟨va_cnB 2 hts (tb_good wd_369) rfl rfl rfl (hnw _ (List.mem_of_getElem? (i := 30) rfl)) (hm wd_32) pd_Fc_isIn ⟨Nat.le_of_ble_eq_true rfl, Nat.le_of_ble_eq_true rfl⟩, hm wd_368⟩ d_Ac_grow_15, ?_⟩
  refine List.forall_mem_cons.mpr ⟨fs_ifeq hF d_Ac_grow_18 (by decide), ?_⟩
  refine List.forall_mem_cons.mpr ⟨fs_loada_n hF d_Ac_grow_21 rfl, ?_⟩
  refine List.forall_mem_cons.mpr ⟨g24 _ 22 d_Ac_grow_22, ?_⟩
  refine List.forall_mem_cons.mpr ⟨fs_load_n hF d_Ac_grow_25 rfl, ?_⟩
  refine List.forall_mem_cons.mpr ⟨fs_dup2 hF d_Ac_grow_26, ?_⟩
  refine List.forall_mem_cons.mpr ⟨fs_ald hC lkXI d_Ac_grow_27, ?_⟩
  refine List.forall_mem_cons.mpr ⟨fs_load_n hF d_Ac_grow_28 rfl, ?_⟩
  refine List.forall_mem_cons.mpr ⟨fs_iadd hF d_Ac_grow_29, ?_⟩
  refine List.forall_mem_cons.mpr ⟨fs_ast hC lkXI d_Ac_grow_30, ?_⟩
  refine List.forall_mem_cons.mpr ⟨fs_inc hF d_Ac_grow_31 (by decide) (by decide), ?_⟩
  refine List.forall_mem_cons.mpr ⟨fs_goto hF d_Ac_grow_34 (by decide), ?_⟩
  refine List.forall_mem_cons.mpr ⟨fs_vret hC hr d_Ac_grow_37, ?_⟩
  exact fun _ h => absurd h List.not_mem_nil
abbrev rm_Ac_resetVariables : Room := { frames := 1, cells := 0, slots := 0, locals := 21 }
def ws_Ac_resetVariables : List Cond := .code y_Ac_resetVariables c_Ac_resetVariables 4 (some .int) :: TB
abbrev MC_Ac_resetVariables (κ : fx_K) : List fx_V → fx_S → (Int32 → fx_S → Prop) → Prop := fx_Met κ.1 κ.2.1 vwCl κ.2.2.1 κ.2.2.2 lyX nwl y_Ac_resetVariables ws_Ac_resetVariables rm_Ac_resetVariables true
def tt_Ac_resetVariables (κ : fx_K) (post : Int32 → fx_S → Prop) : List (Nat × fx_M fx_S) := [(0, fm_const 0 1),
  (1, fm_store 2 2),
  (2, fm_const 0 3),
  (3, fm_store 3 4),
  (4, fm_load 3 5),
  (5, fm_loada 0 6),
  (6, fm_get 5 5 9),
  (9, fm_cmpge 52 12),
  (12, fm_loada 0 13),
  (13, fm_getr 5 22 16),
  (16, fm_load 3 17),
  (17, fm_ald lnXI 18),
  (18, fm_const 1 19),
  (19, fm_cmpne 46 22),
  (22, fm_loada 0 23),
  (23, fm_getr 5 21 26),
  (26, fm_load 3 27),
  (27, fm_ald lnXI 28),
  (28, fm_load 1 29),
  (29, fm_calls true 2 (MC_Fc_isIn κ) 32),
  (32, fm_ifeq 46 35),
  (35, fm_load 2 36),
  (36, fm_const 1 37),
  (37, fm_loada 0 38),
  (38, fm_getr 5 23 41),
  (41, fm_load 3 42),
  (42, fm_ald lnXI 43),
  (43, fm_ishl 44),
  (44, fm_ior 45),
  (45, fm_store 2 46),
  (46, fm_inc 3 1 49),
  (49, fm_goto 4),
  (52, fm_load 2 53),
  (53, fm_ret post)]
set_option maxHeartbeats 4000000 in
set_option maxRecDepth 100000 in
theorem mo_Ac_resetVariables {κ : fx_K} (hq : fx_I κ lyX.length) {av : List fx_V} {S : fx_S} {post : Int32 → fx_S → Prop} (hlen : av.length ≤ 4) (body : ∀ J : fx_J fx_S, (∀ r ∈ tt_Ac_resetVariables κ post, fx_Snd J r.1 r.2) → (∀ pc k ls st S, J pc (ls.take k) st S → J pc ls st S) → J 0 av [] S) : MC_Ac_resetVariables κ av S post := by
  refine fx_Met_of (cc := c_Ac_resetVariables) (nL := 4) (ret := (some .int)) (by decide) rfl hq hlen ?_
  intro p e s m args below meth c hC hr hnw
  refine body _ ?_ fx_W_take
  have hF := hC.1
  have hts := hC.1.2.2.2.2
  have hm : ∀ {w : Cond}, w ∈ TB → w.before args s = true := fun h => hts _ (List.mem_cons_of_mem _ h)
  have g27 : ∀ (Q : State → Prop) (pc : Nat), decode c_Ac_resetVariables pc = .ok (.getfield 27, 3) → fx_Snd (fx_W p κ.1 e rm_Ac_resetVariables s m args below meth c Q (fx_A κ.2.2.2 lyX.length) 0 0 (fx_P κ.2.1 vwCl κ.2.2.1 κ.2.2.2 lyX) κ.2.2.2 4) pc (fm_get 5 5 (pc + 3)) := fun Q pc hd => fs_get hC (cN := 5) (j := 5) (ci := 5) (C := R_Ac) (T := T_Ac) (N := 7) rfl rfl rfl (by decide) (fun w h => List.mem_cons_of_mem _ (in_Ac w h)) (hm wd_151) hd
  have g15 : ∀ (Q : State → Prop) (pc : Nat), decode c_Ac_resetVariables pc = .ok (.getfield 15, 3) → fx_Snd (fx_W p κ.1 e rm_Ac_resetVariables s m args below meth c Q (fx_A κ.2.2.2 lyX.length) 0 0 (fx_P κ.2.1 vwCl κ.2.2.1 κ.2.2.2 lyX) κ.2.2.2 4) pc (fm_getr 5 22 (pc + 3)) := fun Q pc hd => fs_getr hC (cN := 5) (j := 1) (ci := 5) (C := R_Ac) (T := T_Ac) (N := 7) rfl rfl rfl (by decide) (fun w h => List.mem_cons_of_mem _ (in_Ac w h)) (hm wd_147) hd
  have g9 : ∀ (Q : State → Prop) (pc : Nat), decode c_Ac_resetVariables pc = .ok (.getfield 9, 3) → fx_Snd (fx_W p κ.1 e rm_Ac_resetVariables s m args below meth c Q (fx_A κ.2.2.2 lyX.length) 0 0 (fx_P κ.2.1 vwCl κ.2.2.1 κ.2.2.2 lyX) κ.2.2.2 4) pc (fm_getr 5 21 (pc + 3)) := fun Q pc hd => fs_getr hC (cN := 5) (j := 0) (ci := 5) (C := R_Ac) (T := T_Ac) (N := 7) rfl rfl rfl (by decide) (fun w h => List.mem_cons_of_mem _ (in_Ac w h)) (hm wd_146) hd
  have g18 : ∀ (Q : State → Prop) (pc : Nat), decode c_Ac_resetVariables pc = .ok (.getfield 18, 3) → fx_Snd (fx_W p κ.1 e rm_Ac_resetVariables s m args below meth c Q (fx_A κ.2.2.2 lyX.length) 0 0 (fx_P κ.2.1 vwCl κ.2.2.1 κ.2.2.2 lyX) κ.2.2.2 4) pc (fm_getr 5 23 (pc + 3)) := fun Q pc hd => fs_getr hC (cN := 5) (j := 2) (ci := 5) (C := R_Ac) (T := T_Ac) (N := 7) rfl rfl rfl (by decide) (fun w h => List.mem_cons_of_mem _ (in_Ac w h)) (hm wd_148) hd
  refine List.forall_mem_cons.mpr ⟨fs_const hF d_Ac_resetVariables_0 (by decide), ?_⟩
  refine List.forall_mem_cons.mpr ⟨fs_store_n hF d_Ac_resetVariables_1 rfl (by decide), ?_⟩
  refine List.forall_mem_cons.mpr ⟨fs_const hF d_Ac_resetVariables_2 (by decide), ?_⟩
  refine List.forall_mem_cons.mpr ⟨fs_store_n hF d_Ac_resetVariables_3 rfl (by decide), ?_⟩
  refine List.forall_mem_cons.mpr ⟨fs_load_n hF d_Ac_resetVariables_4 rfl, ?_⟩
  refine List.forall_mem_cons.mpr ⟨fs_loada_n hF d_Ac_resetVariables_5 rfl, ?_⟩
  refine List.forall_mem_cons.mpr ⟨g27 _ 6 d_Ac_resetVariables_6, ?_⟩
  refine List.forall_mem_cons.mpr ⟨fs_cmpge hF d_Ac_resetVariables_9 (by decide), ?_⟩
  refine List.forall_mem_cons.mpr ⟨fs_loada_n hF d_Ac_resetVariables_12 rfl, ?_⟩
  refine List.forall_mem_cons.mpr ⟨g15 _ 13 d_Ac_resetVariables_13, ?_⟩
  refine List.forall_mem_cons.mpr ⟨fs_load_n hF d_Ac_resetVariables_16 rfl, ?_⟩
  refine List.forall_mem_cons.mpr ⟨fs_ald hC lkXI d_Ac_resetVariables_17, ?_⟩
  refine List.forall_mem_cons.mpr ⟨fs_const hF d_Ac_resetVariables_18 (by decide), ?_⟩
  refine List.forall_mem_cons.mpr ⟨fs_cmpne hF d_Ac_resetVariables_19 (by decide), ?_⟩
  refine List.forall_mem_cons.mpr ⟨fs_loada_n hF d_Ac_resetVariables_22 rfl, ?_⟩
  refine List.forall_mem_cons.mpr ⟨g9 _ 23 d_Ac_resetVariables_23, ?_⟩
  refine List.forall_mem_cons.mpr ⟨fs_load_n hF d_Ac_resetVariables_26 rfl, ?_⟩
  refine List.forall_mem_cons.mpr ⟨fs_ald hC lkXI d_Ac_resetVariables_27, ?_⟩
  refine List.forall_mem_cons.mpr ⟨fs_load_n hF d_Ac_resetVariables_28 rfl, ?_⟩
  refine List.forall_mem_cons.mpr ⟨fs_callSN hC nwl_ok hnw ⟨va_cnB 2 hts (tb_good wd_369) rfl rfl rfl (hnw _ (List.mem_of_getElem? (i := 30) rfl)) (hm wd_32) pd_Fc_isIn ⟨Nat.le_of_ble_eq_true rfl, Nat.le_of_ble_eq_true rfl⟩, hm wd_368⟩ d_Ac_resetVariables_29, ?_⟩
  refine List.forall_mem_cons.mpr ⟨fs_ifeq hF d_Ac_resetVariables_32 (by decide), ?_⟩
  refine List.forall_mem_cons.mpr ⟨fs_load_n hF d_Ac_resetVariables_35 rfl, ?_⟩
  refine List.forall_mem_cons.mpr ⟨fs_const hF d_Ac_resetVariables_36 (by decide), ?_⟩
  refine List.forall_mem_cons.mpr ⟨fs_loada_n hF d_Ac_resetVariables_37 rfl, ?_⟩
  refine List.forall_mem_cons.mpr ⟨g18 _ 38 d_Ac_resetVariables_38, ?_⟩
  refine List.forall_mem_cons.mpr ⟨fs_load_n hF d_Ac_resetVariables_41 rfl, ?_⟩
  refine List.forall_mem_cons.mpr ⟨fs_ald hC lkXI d_Ac_resetVariables_42, ?_⟩
  refine List.forall_mem_cons.mpr ⟨fs_ishl hF d_Ac_resetVariables_43, ?_⟩
  refine List.forall_mem_cons.mpr ⟨fs_ior hF d_Ac_resetVariables_44, ?_⟩
  refine List.forall_mem_cons.mpr ⟨fs_store_n hF d_Ac_resetVariables_45 rfl (by decide), ?_⟩
  refine List.forall_mem_cons.mpr ⟨fs_inc hF d_Ac_resetVariables_46 (by decide) (by decide), ?_⟩
  refine List.forall_mem_cons.mpr ⟨fs_goto hF d_Ac_resetVariables_49 (by decide), ?_⟩
  refine List.forall_mem_cons.mpr ⟨fs_load_n hF d_Ac_resetVariables_52 rfl, ?_⟩
  refine List.forall_mem_cons.mpr ⟨fs_ret hC hr d_Ac_resetVariables_53, ?_⟩
  exact fun _ h => absurd h List.not_mem_nil
abbrev rm_Ac_storesAt : Room := { frames := 0, cells := 0, slots := 0, locals := 0 }
def ws_Ac_storesAt : List Cond := .code y_Ac_storesAt c_Ac_storesAt 3 (some .boolean) :: TB
abbrev MC_Ac_storesAt (κ : fx_K) : List fx_V → fx_S → (Int32 → fx_S → Prop) → Prop := fx_Met κ.1 κ.2.1 vwCl κ.2.2.1 κ.2.2.2 lyX nwl y_Ac_storesAt ws_Ac_storesAt rm_Ac_storesAt true
def tt_Ac_storesAt (κ : fx_K) (post : Int32 → fx_S → Prop) : List (Nat × fx_M fx_S) := [(0, fm_loada 0 1),
  (1, fm_getr 5 22 4),
  (4, fm_load 1 5),
  (5, fm_ald lnXI 6),
  (6, fm_sw [(2, 52), (7, 52), (8, 54), (9, 52)] 70),
  (52, fm_const 1 53),
  (53, fm_zret post),
  (54, fm_load 2 55),
  (55, fm_loada 0 56),
  (56, fm_getr 5 24 59),
  (59, fm_load 1 60),
  (60, fm_ald lnXI 61),
  (61, fm_cmplt 68 64),
  (64, fm_const 1 65),
  (65, fm_goto 69),
  (68, fm_const 0 69),
  (69, fm_zret post),
  (70, fm_const 0 71),
  (71, fm_zret post)]
set_option maxHeartbeats 4000000 in
set_option maxRecDepth 100000 in
theorem mo_Ac_storesAt {κ : fx_K} (hq : fx_I κ lyX.length) {av : List fx_V} {S : fx_S} {post : Int32 → fx_S → Prop} (hlen : av.length ≤ 3) (body : ∀ J : fx_J fx_S, (∀ r ∈ tt_Ac_storesAt κ post, fx_Snd J r.1 r.2) → (∀ pc k ls st S, J pc (ls.take k) st S → J pc ls st S) → J 0 av [] S) : MC_Ac_storesAt κ av S post := by
  refine fx_Met_of (cc := c_Ac_storesAt) (nL := 3) (ret := (some .boolean)) (by decide) rfl hq hlen ?_
  intro p e s m args below meth c hC hr hnw
  refine body _ ?_ fx_W_take
  have hF := hC.1
  have hts := hC.1.2.2.2.2
  have hm : ∀ {w : Cond}, w ∈ TB → w.before args s = true := fun h => hts _ (List.mem_cons_of_mem _ h)
  have g15 : ∀ (Q : State → Prop) (pc : Nat), decode c_Ac_storesAt pc = .ok (.getfield 15, 3) → fx_Snd (fx_W p κ.1 e rm_Ac_storesAt s m args below meth c Q (fx_A κ.2.2.2 lyX.length) 0 0 (fx_P κ.2.1 vwCl κ.2.2.1 κ.2.2.2 lyX) κ.2.2.2 3) pc (fm_getr 5 22 (pc + 3)) := fun Q pc hd => fs_getr hC (cN := 5) (j := 1) (ci := 5) (C := R_Ac) (T := T_Ac) (N := 7) rfl rfl rfl (by decide) (fun w h => List.mem_cons_of_mem _ (in_Ac w h)) (hm wd_147) hd
  have g21 : ∀ (Q : State → Prop) (pc : Nat), decode c_Ac_storesAt pc = .ok (.getfield 21, 3) → fx_Snd (fx_W p κ.1 e rm_Ac_storesAt s m args below meth c Q (fx_A κ.2.2.2 lyX.length) 0 0 (fx_P κ.2.1 vwCl κ.2.2.1 κ.2.2.2 lyX) κ.2.2.2 3) pc (fm_getr 5 24 (pc + 3)) := fun Q pc hd => fs_getr hC (cN := 5) (j := 3) (ci := 5) (C := R_Ac) (T := T_Ac) (N := 7) rfl rfl rfl (by decide) (fun w h => List.mem_cons_of_mem _ (in_Ac w h)) (hm wd_149) hd
  refine List.forall_mem_cons.mpr ⟨fs_loada_n hF d_Ac_storesAt_0 rfl, ?_⟩
  refine List.forall_mem_cons.mpr ⟨g15 _ 1 d_Ac_storesAt_1, ?_⟩
  refine List.forall_mem_cons.mpr ⟨fs_load_n hF d_Ac_storesAt_4 rfl, ?_⟩
  refine List.forall_mem_cons.mpr ⟨fs_ald hC lkXI d_Ac_storesAt_5, ?_⟩
  refine List.forall_mem_cons.mpr ⟨fs_table hC 8 d_Ac_storesAt_6 (by decide) (by decide +kernel) (by decide +kernel) (by decide), ?_⟩
  refine List.forall_mem_cons.mpr ⟨fs_const hF d_Ac_storesAt_52 (by decide), ?_⟩
  refine List.forall_mem_cons.mpr ⟨fs_zret hC hr d_Ac_storesAt_53, ?_⟩
  refine List.forall_mem_cons.mpr ⟨fs_load_n hF d_Ac_storesAt_54 rfl, ?_⟩
  refine List.forall_mem_cons.mpr ⟨fs_loada_n hF d_Ac_storesAt_55 rfl, ?_⟩
  refine List.forall_mem_cons.mpr ⟨g21 _ 56 d_Ac_storesAt_56, ?_⟩
  refine List.forall_mem_cons.mpr ⟨fs_load_n hF d_Ac_storesAt_59 rfl, ?_⟩
  refine List.forall_mem_cons.mpr ⟨fs_ald hC lkXI d_Ac_storesAt_60, ?_⟩
  refine List.forall_mem_cons.mpr ⟨fs_cmplt hF d_Ac_storesAt_61 (by decide), ?_⟩
  refine List.forall_mem_cons.mpr ⟨fs_const hF d_Ac_storesAt_64 (by decide), ?_⟩
  refine List.forall_mem_cons.mpr ⟨fs_goto hF d_Ac_storesAt_65 (by decide), ?_⟩
  refine List.forall_mem_cons.mpr ⟨fs_const hF d_Ac_storesAt_68 (by decide), ?_⟩
  refine List.forall_mem_cons.mpr ⟨fs_zret hC hr d_Ac_storesAt_69, ?_⟩
  refine List.forall_mem_cons.mpr ⟨fs_const hF d_Ac_storesAt_70 (by decide), ?_⟩
  refine List.forall_mem_cons.mpr ⟨fs_zret hC hr d_Ac_storesAt_71, ?_⟩
  exact fun _ h => absurd h List.not_mem_nil
abbrev rm_Ac_store : Room := { frames := 1, cells := 0, slots := 0, locals := 22 }
def ws_Ac_store : List Cond := .code y_Ac_store c_Ac_store 5 none :: TB
abbrev MC_Ac_store (κ : fx_K) : List fx_V → fx_S → (Int32 → fx_S → Prop) → Prop := fx_Met κ.1 κ.2.1 vwCl κ.2.2.1 κ.2.2.2 lyX nwl y_Ac_store ws_Ac_store rm_Ac_store false
def tt_Ac_store (κ : fx_K) (post : Int32 → fx_S → Prop) : List (Nat × fx_M fx_S) := [(0, fm_load 2 1),
  (1, fm_ifeq 21 4),
  (4, fm_loada 0 5),
  (5, fm_dup 6),
  (6, fm_get 5 6 9),
  (9, fm_const 1 10),
  (10, fm_load 1 11),
  (11, fm_ishl 12),
  (12, fm_const (-1) 13),
  (13, fm_ixor 14),
  (14, fm_iand 15),
  (15, fm_put 5 6 18),
  (18, fm_goto 65),
  (21, fm_load 3 22),
  (22, fm_ifeq 65 25),
  (25, fm_load 1 26),
  (26, fm_loada 0 27),
  (27, fm_get 5 6 30),
  (30, fm_calls true 2 (MC_Fc_isIn κ) 33),
  (33, fm_ifne 65 36),
  (36, fm_loada 0 37),
  (37, fm_load 1 38),
  (38, fm_load 4 40),
  (40, fm_call true 5 2 (MC_Ac_storesAt κ) 43),
  (43, fm_ifeq 65 46),
  (46, fm_loada 0 47),
  (47, fm_dup 48),
  (48, fm_get 5 6 51),
  (51, fm_const 1 52),
  (52, fm_load 1 53),
  (53, fm_ishl 54),
  (54, fm_ior 55),
  (55, fm_put 5 6 58),
  (58, fm_loada 0 59),
  (59, fm_getr 5 25 62),
  (62, fm_load 1 63),
  (63, fm_const 0 64),
  (64, fm_ast lnXI 65),
  (65, fm_vret post)]
set_option maxHeartbeats 4000000 in
set_option maxRecDepth 100000 in
theorem mo_Ac_store {κ : fx_K} (hq : fx_I κ lyX.length) {av : List fx_V} {S : fx_S} {post : Int32 → fx_S → Prop} (hlen : av.length ≤ 5) (body : ∀ J : fx_J fx_S, (∀ r ∈ tt_Ac_store κ post, fx_Snd J r.1 r.2) → (∀ pc k ls st S, J pc (ls.take k) st S → J pc ls st S) → J 0 av [] S) : MC_Ac_store κ av S post := by
  refine fx_Met_of (cc := c_Ac_store) (nL := 5) (ret := none) (by decide) rfl hq hlen ?_
  intro p e s m args below meth c hC hr hnw
  refine body _ ?_ fx_W_take
  have hF := hC.1
  have hts := hC.1.2.2.2.2
  have hm : ∀ {w : Cond}, w ∈ TB → w.before args s = true := fun h => hts _ (List.mem_cons_of_mem _ h)
  have g31 : ∀ (Q : State → Prop) (pc : Nat), decode c_Ac_store pc = .ok (.getfield 31, 3) → fx_Snd (fx_W p κ.1 e rm_Ac_store s m args below meth c Q (fx_A κ.2.2.2 lyX.length) 0 0 (fx_P κ.2.1 vwCl κ.2.2.1 κ.2.2.2 lyX) κ.2.2.2 5) pc (fm_get 5 6 (pc + 3)) := fun Q pc hd => fs_get hC (cN := 5) (j := 6) (ci := 5) (C := R_Ac) (T := T_Ac) (N := 7) rfl rfl rfl (by decide) (fun w h => List.mem_cons_of_mem _ (in_Ac w h)) (hm wd_153) hd
  have g24 : ∀ (Q : State → Prop) (pc : Nat), decode c_Ac_store pc = .ok (.getfield 24, 3) → fx_Snd (fx_W p κ.1 e rm_Ac_store s m args below meth c Q (fx_A κ.2.2.2 lyX.length) 0 0 (fx_P κ.2.1 vwCl κ.2.2.1 κ.2.2.2 lyX) κ.2.2.2 5) pc (fm_getr 5 25 (pc + 3)) := fun Q pc hd => fs_getr hC (cN := 5) (j := 4) (ci := 5) (C := R_Ac) (T := T_Ac) (N := 7) rfl rfl rfl (by decide) (fun w h => List.mem_cons_of_mem _ (in_Ac w h)) (hm wd_150) hd
  refine List.forall_mem_cons.mpr ⟨fs_load_n hF d_Ac_store_0 rfl, ?_⟩
  refine List.forall_mem_cons.mpr ⟨fs_ifeq hF d_Ac_store_1 (by decide), ?_⟩
  refine List.forall_mem_cons.mpr ⟨fs_loada_n hF d_Ac_store_4 rfl, ?_⟩
  refine List.forall_mem_cons.mpr ⟨fs_dup hF d_Ac_store_5, ?_⟩
  refine List.forall_mem_cons.mpr ⟨g31 _ 6 d_Ac_store_6, ?_⟩
  refine List.forall_mem_cons.mpr ⟨fs_const hF d_Ac_store_9 (by decide), ?_⟩
  refine List.forall_mem_cons.mpr ⟨fs_load_n hF d_Ac_store_10 rfl, ?_⟩
  refine List.forall_mem_cons.mpr ⟨fs_ishl hF d_Ac_store_11, ?_⟩
  refine List.forall_mem_cons.mpr ⟨fs_const hF d_Ac_store_12 (by decide), ?_⟩
  refine List.forall_mem_cons.mpr ⟨fs_ixor hF d_Ac_store_13, ?_⟩
  refine List.forall_mem_cons.mpr ⟨fs_iand hF d_Ac_store_14, ?_⟩
  refine List.forall_mem_cons.mpr ⟨fs_put hC (cN := 5) (j := 6) (ci := 5) (C := R_Ac) (T := T_Ac) (N := 7) rfl rfl rfl (by decide) ty_Ac tk_Ac nm_Ac rfl (by decide +kernel) (fun w h => List.mem_cons_of_mem _ (in_Ac w h)) (hm wd_153) d_Ac_store_15, ?_⟩
  refine List.forall_mem_cons.mpr ⟨fs_goto hF d_Ac_store_18 (by decide), ?_⟩
  refine List.forall_mem_cons.mpr ⟨fs_load_n hF d_Ac_store_21 rfl, ?_⟩
  refine List.forall_mem_cons.mpr ⟨fs_ifeq hF d_Ac_store_22 (by decide), ?_⟩
  refine List.forall_mem_cons.mpr ⟨fs_load_n hF d_Ac_store_25 rfl, ?_⟩
  refine List.forall_mem_cons.mpr ⟨fs_loada_n hF d_Ac_store_26 rfl, ?_⟩
  refine List.forall_mem_cons.mpr ⟨g31 _ 27 d_Ac_store_27, ?_⟩
  refine List.forall_mem_cons.mpr ⟨fs_callSN hC nwl_ok hnw ⟨va_cnB 2 hts (tb_good wd_369) rfl rfl rfl (hnw _ (List.mem_of_getElem? (i := 30) rfl)) (hm wd_32) pd_Fc_isIn ⟨Nat.le_of_ble_eq_true rfl, Nat.le_of_ble_eq_true rfl⟩, hm wd_368⟩ d_Ac_store_30, ?_⟩
  refine List.forall_mem_cons.mpr ⟨fs_ifne hF d_Ac_store_33 (by decide), ?_⟩
  refine List.forall_mem_cons.mpr ⟨fs_loada_n hF d_Ac_store_36 rfl, ?_⟩
  refine List.forall_mem_cons.mpr ⟨fs_load_n hF d_Ac_store_37 rfl, ?_⟩
  refine List.forall_mem_cons.mpr ⟨fs_load hF d_Ac_store_38, ?_⟩
  refine List.forall_mem_cons.mpr ⟨fs_callV hC nwl_ok hnw (cN := 5) (ci := 5) (C := R_Ac) rfl rfl ⟨callB_of 2 hts (tb_good wd_488) rfl rfl rfl (hm wd_37) (hm wd_485) pd_Ac_storesAt ⟨Nat.le_of_ble_eq_true rfl, Nat.le_of_ble_eq_true rfl⟩, hm wd_487, hm wd_10⟩ d_Ac_store_40, ?_⟩
  refine List.forall_mem_cons.mpr ⟨fs_ifeq hF d_Ac_store_43 (by decide), ?_⟩
  refine List.forall_mem_cons.mpr ⟨fs_loada_n hF d_Ac_store_46 rfl, ?_⟩
  refine List.forall_mem_cons.mpr ⟨fs_dup hF d_Ac_store_47, ?_⟩
  refine List.forall_mem_cons.mpr ⟨g31 _ 48 d_Ac_store_48, ?_⟩
  refine List.forall_mem_cons.mpr ⟨fs_const hF d_Ac_store_51 (by decide), ?_⟩
  refine List.forall_mem_cons.mpr ⟨fs_load_n hF d_Ac_store_52 rfl, ?_⟩
  refine List.forall_mem_cons.mpr ⟨fs_ishl hF d_Ac_store_53, ?_⟩
  refine List.forall_mem_cons.mpr ⟨fs_ior hF d_Ac_store_54, ?_⟩
  refine List.forall_mem_cons.mpr ⟨fs_put hC (cN := 5) (j := 6) (ci := 5) (C := R_Ac) (T := T_Ac) (N := 7) rfl rfl rfl (by decide) ty_Ac tk_Ac nm_Ac rfl (by decide +kernel) (fun w h => List.mem_cons_of_mem _ (in_Ac w h)) (hm wd_153) d_Ac_store_55, ?_⟩
  refine List.forall_mem_cons.mpr ⟨fs_loada_n hF d_Ac_store_58 rfl, ?_⟩
  refine List.forall_mem_cons.mpr ⟨g24 _ 59 d_Ac_store_59, ?_⟩
  refine List.forall_mem_cons.mpr ⟨fs_load_n hF d_Ac_store_62 rfl, ?_⟩
  refine List.forall_mem_cons.mpr ⟨fs_const hF d_Ac_store_63 (by decide), ?_⟩
  refine List.forall_mem_cons.mpr ⟨fs_ast hC lkXI d_Ac_store_64, ?_⟩
  refine List.forall_mem_cons.mpr ⟨fs_vret hC hr d_Ac_store_65, ?_⟩
  exact fun _ h => absurd h List.not_mem_nil
abbrev rm_Ac_isOn : Room := { frames := 1, cells := 0, slots := 0, locals := 21 }
def ws_Ac_isOn : List Cond := .code y_Ac_isOn c_Ac_isOn 7 (some .boolean) :: TB
abbrev MC_Ac_isOn (κ : fx_K) : List fx_V → fx_S → (Int32 → fx_S → Prop) → Prop := fx_Met κ.1 κ.2.1 vwCl κ.2.2.1 κ.2.2.2 lyX nwl y_Ac_isOn ws_Ac_isOn rm_Ac_isOn true
def tt_Ac_isOn (κ : fx_K) (post : Int32 → fx_S → Prop) : List (Nat × fx_M fx_S) := [(0, fm_load 1 1),
  (1, fm_loada 0 2),
  (2, fm_get 5 6 5),
  (5, fm_calls true 2 (MC_Fc_isIn κ) 8),
  (8, fm_store 5 10),
  (10, fm_loada 0 11),
  (11, fm_getr 5 24 14),
  (14, fm_load 1 15),
  (15, fm_ald lnXI 16),
  (16, fm_store 6 18),
  (18, fm_loada 0 19),
  (19, fm_getr 5 22 22),
  (22, fm_load 1 23),
  (23, fm_ald lnXI 24),
  (24, fm_sw [(0, 80), (2, 82), (3, 85), (4, 102), (5, 119), (6, 133), (7, 147), (8, 82), (9, 169)] 191),
  (80, fm_load 2 81),
  (81, fm_zret post),
  (82, fm_load 5 84),
  (84, fm_zret post),
  (85, fm_load 2 86),
  (86, fm_ifeq 100 89),
  (89, fm_load 4 91),
  (91, fm_load 6 93),
  (93, fm_cmpge 100 96),
  (96, fm_const 1 97),
  (97, fm_goto 101),
  (100, fm_const 0 101),
  (101, fm_zret post),
  (102, fm_load 2 103),
  (103, fm_ifeq 117 106),
  (106, fm_load 4 108),
  (108, fm_load 6 110),
  (110, fm_cmplt 117 113),
  (113, fm_const 1 114),
  (114, fm_goto 118),
  (117, fm_const 0 118),
  (118, fm_zret post),
  (119, fm_load 2 120),
  (120, fm_ifeq 131 123),
  (123, fm_load 3 124),
  (124, fm_ifne 131 127),
  (127, fm_const 1 128),
  (128, fm_goto 132),
  (131, fm_const 0 132),
  (132, fm_zret post),
  (133, fm_load 3 134),
  (134, fm_ifeq 145 137),
  (137, fm_load 2 138),
  (138, fm_ifne 145 141),
  (141, fm_const 1 142),
  (142, fm_goto 146),
  (145, fm_const 0 146),
  (146, fm_zret post),
  (147, fm_load 5 149),
  (149, fm_ifeq 167 152),
  (152, fm_loada 0 153),
  (153, fm_getr 5 25 156),
  (156, fm_load 1 157),
  (157, fm_ald lnXI 158),
  (158, fm_load 6 160),
  (160, fm_cmplt 167 163),
  (163, fm_const 1 164),
  (164, fm_goto 168),
  (167, fm_const 0 168),
  (168, fm_zret post),
  (169, fm_load 5 171),
  (171, fm_ifeq 189 174),
  (174, fm_loada 0 175),
  (175, fm_getr 5 25 178),
  (178, fm_load 1 179),
  (179, fm_ald lnXI 180),
  (180, fm_load 6 182),
  (182, fm_cmpge 189 185),
  (185, fm_const 1 186),
  (186, fm_goto 190),
  (189, fm_const 0 190),
  (190, fm_zret post),
  (191, fm_const 0 192),
  (192, fm_zret post)]
set_option maxHeartbeats 4000000 in
set_option maxRecDepth 100000 in
theorem mo_Ac_isOn {κ : fx_K} (hq : fx_I κ lyX.length) {av : List fx_V} {S : fx_S} {post : Int32 → fx_S → Prop} (hlen : av.length ≤ 7) (body : ∀ J : fx_J fx_S, (∀ r ∈ tt_Ac_isOn κ post, fx_Snd J r.1 r.2) → (∀ pc k ls st S, J pc (ls.take k) st S → J pc ls st S) → J 0 av [] S) : MC_Ac_isOn κ av S post := by
  refine fx_Met_of (cc := c_Ac_isOn) (nL := 7) (ret := (some .boolean)) (by decide) rfl hq hlen ?_
  intro p e s m args below meth c hC hr hnw
  refine body _ ?_ fx_W_take
  have hF := hC.1
  have hts := hC.1.2.2.2.2
  have hm : ∀ {w : Cond}, w ∈ TB → w.before args s = true := fun h => hts _ (List.mem_cons_of_mem _ h)
  have g31 : ∀ (Q : State → Prop) (pc : Nat), decode c_Ac_isOn pc = .ok (.getfield 31, 3) → fx_Snd (fx_W p κ.1 e rm_Ac_isOn s m args below meth c Q (fx_A κ.2.2.2 lyX.length) 0 0 (fx_P κ.2.1 vwCl κ.2.2.1 κ.2.2.2 lyX) κ.2.2.2 7) pc (fm_get 5 6 (pc + 3)) := fun Q pc hd => fs_get hC (cN := 5) (j := 6) (ci := 5) (C := R_Ac) (T := T_Ac) (N := 7) rfl rfl rfl (by decide) (fun w h => List.mem_cons_of_mem _ (in_Ac w h)) (hm wd_153) hd
  have g21 : ∀ (Q : State → Prop) (pc : Nat), decode c_Ac_isOn pc = .ok (.getfield 21, 3) → fx_Snd (fx_W p κ.1 e rm_Ac_isOn s m args below meth c Q (fx_A κ.2.2.2 lyX.length) 0 0 (fx_P κ.2.1 vwCl κ.2.2.1 κ.2.2.2 lyX) κ.2.2.2 7) pc (fm_getr 5 24 (pc + 3)) := fun Q pc hd => fs_getr hC (cN := 5) (j := 3) (ci := 5) (C := R_Ac) (T := T_Ac) (N := 7) rfl rfl rfl (by decide) (fun w h => List.mem_cons_of_mem _ (in_Ac w h)) (hm wd_149) hd
  have g15 : ∀ (Q : State → Prop) (pc : Nat), decode c_Ac_isOn pc = .ok (.getfield 15, 3) → fx_Snd (fx_W p κ.1 e rm_Ac_isOn s m args below meth c Q (fx_A κ.2.2.2 lyX.length) 0 0 (fx_P κ.2.1 vwCl κ.2.2.1 κ.2.2.2 lyX) κ.2.2.2 7) pc (fm_getr 5 22 (pc + 3)) := fun Q pc hd => fs_getr hC (cN := 5) (j := 1) (ci := 5) (C := R_Ac) (T := T_Ac) (N := 7) rfl rfl rfl (by decide) (fun w h => List.mem_cons_of_mem _ (in_Ac w h)) (hm wd_147) hd
  have g24 : ∀ (Q : State → Prop) (pc : Nat), decode c_Ac_isOn pc = .ok (.getfield 24, 3) → fx_Snd (fx_W p κ.1 e rm_Ac_isOn s m args below meth c Q (fx_A κ.2.2.2 lyX.length) 0 0 (fx_P κ.2.1 vwCl κ.2.2.1 κ.2.2.2 lyX) κ.2.2.2 7) pc (fm_getr 5 25 (pc + 3)) := fun Q pc hd => fs_getr hC (cN := 5) (j := 4) (ci := 5) (C := R_Ac) (T := T_Ac) (N := 7) rfl rfl rfl (by decide) (fun w h => List.mem_cons_of_mem _ (in_Ac w h)) (hm wd_150) hd
  refine List.forall_mem_cons.mpr ⟨fs_load_n hF d_Ac_isOn_0 rfl, ?_⟩
  refine List.forall_mem_cons.mpr ⟨fs_loada_n hF d_Ac_isOn_1 rfl, ?_⟩
  refine List.forall_mem_cons.mpr ⟨g31 _ 2 d_Ac_isOn_2, ?_⟩
  refine List.forall_mem_cons.mpr ⟨fs_callSN hC nwl_ok hnw ⟨va_cnB 2 hts (tb_good wd_369) rfl rfl rfl (hnw _ (List.mem_of_getElem? (i := 30) rfl)) (hm wd_32) pd_Fc_isIn ⟨Nat.le_of_ble_eq_true rfl, Nat.le_of_ble_eq_true rfl⟩, hm wd_368⟩ d_Ac_isOn_5, ?_⟩
  refine List.forall_mem_cons.mpr ⟨fs_store hF d_Ac_isOn_8 (by decide), ?_⟩
  refine List.forall_mem_cons.mpr ⟨fs_loada_n hF d_Ac_isOn_10 rfl, ?_⟩
  refine List.forall_mem_cons.mpr ⟨g21 _ 11 d_Ac_isOn_11, ?_⟩
  refine List.forall_mem_cons.mpr ⟨fs_load_n hF d_Ac_isOn_14 rfl, ?_⟩
  refine List.forall_mem_cons.mpr ⟨fs_ald hC lkXI d_Ac_isOn_15, ?_⟩
  refine List.forall_mem_cons.mpr ⟨fs_store hF d_Ac_isOn_16 (by decide), ?_⟩
  refine List.forall_mem_cons.mpr ⟨fs_loada_n hF d_Ac_isOn_18 rfl, ?_⟩
  refine List.forall_mem_cons.mpr ⟨g15 _ 19 d_Ac_isOn_19, ?_⟩
  refine List.forall_mem_cons.mpr ⟨fs_load_n hF d_Ac_isOn_22 rfl, ?_⟩
  refine List.forall_mem_cons.mpr ⟨fs_ald hC lkXI d_Ac_isOn_23, ?_⟩
  refine List.forall_mem_cons.mpr ⟨fs_table hC 10 d_Ac_isOn_24 (by decide) (by decide +kernel) (by decide +kernel) (by decide), ?_⟩
  refine List.forall_mem_cons.mpr ⟨fs_load_n hF d_Ac_isOn_80 rfl, ?_⟩
  refine List.forall_mem_cons.mpr ⟨fs_zret hC hr d_Ac_isOn_81, ?_⟩
  refine List.forall_mem_cons.mpr ⟨fs_load hF d_Ac_isOn_82, ?_⟩
  refine List.forall_mem_cons.mpr ⟨fs_zret hC hr d_Ac_isOn_84, ?_⟩
  refine List.forall_mem_cons.mpr ⟨fs_load_n hF d_Ac_isOn_85 rfl, ?_⟩
  refine List.forall_mem_cons.mpr ⟨fs_ifeq hF d_Ac_isOn_86 (by decide), ?_⟩
  refine List.forall_mem_cons.mpr ⟨fs_load hF d_Ac_isOn_89, ?_⟩
  refine List.forall_mem_cons.mpr ⟨fs_load hF d_Ac_isOn_91, ?_⟩
  refine List.forall_mem_cons.mpr ⟨fs_cmpge hF d_Ac_isOn_93 (by decide), ?_⟩
  refine List.forall_mem_cons.mpr ⟨fs_const hF d_Ac_isOn_96 (by decide), ?_⟩
  refine List.forall_mem_cons.mpr ⟨fs_goto hF d_Ac_isOn_97 (by decide), ?_⟩
  refine List.forall_mem_cons.mpr ⟨fs_const hF d_Ac_isOn_100 (by decide), ?_⟩
  refine List.forall_mem_cons.mpr ⟨fs_zret hC hr d_Ac_isOn_101, ?_⟩
  refine List.forall_mem_cons.mpr ⟨fs_load_n hF d_Ac_isOn_102 rfl, ?_⟩
  refine List.forall_mem_cons.mpr ⟨fs_ifeq hF d_Ac_isOn_103 (by decide), ?_⟩
  refine List.forall_mem_cons.mpr ⟨fs_load hF d_Ac_isOn_106, ?_⟩
  refine List.forall_mem_cons.mpr ⟨fs_load hF d_Ac_isOn_108, ?_⟩
  refine List.forall_mem_cons.mpr ⟨fs_cmplt hF d_Ac_isOn_110 (by decide), ?_⟩
  refine List.forall_mem_cons.mpr ⟨fs_const hF d_Ac_isOn_113 (by decide), ?_⟩
  refine List.forall_mem_cons.mpr ⟨fs_goto hF d_Ac_isOn_114 (by decide), ?_⟩
  refine List.forall_mem_cons.mpr ⟨fs_const hF d_Ac_isOn_117 (by decide), ?_⟩
  refine List.forall_mem_cons.mpr ⟨fs_zret hC hr d_Ac_isOn_118, ?_⟩
  refine List.forall_mem_cons.mpr ⟨fs_load_n hF d_Ac_isOn_119 rfl, ?_⟩
  refine List.forall_mem_cons.mpr ⟨fs_ifeq hF d_Ac_isOn_120 (by decide), ?_⟩
  refine List.forall_mem_cons.mpr ⟨fs_load_n hF d_Ac_isOn_123 rfl, ?_⟩
  refine List.forall_mem_cons.mpr ⟨fs_ifne hF d_Ac_isOn_124 (by decide), ?_⟩
  refine List.forall_mem_cons.mpr ⟨fs_const hF d_Ac_isOn_127 (by decide), ?_⟩
  refine List.forall_mem_cons.mpr ⟨fs_goto hF d_Ac_isOn_128 (by decide), ?_⟩
  refine List.forall_mem_cons.mpr ⟨fs_const hF d_Ac_isOn_131 (by decide), ?_⟩
  refine List.forall_mem_cons.mpr ⟨fs_zret hC hr d_Ac_isOn_132, ?_⟩
  refine List.forall_mem_cons.mpr ⟨fs_load_n hF d_Ac_isOn_133 rfl, ?_⟩
  refine List.forall_mem_cons.mpr ⟨fs_ifeq hF d_Ac_isOn_134 (by decide), ?_⟩
  refine List.forall_mem_cons.mpr ⟨fs_load_n hF d_Ac_isOn_137 rfl, ?_⟩
  refine List.forall_mem_cons.mpr ⟨fs_ifne hF d_Ac_isOn_138 (by decide), ?_⟩
  refine List.forall_mem_cons.mpr ⟨fs_const hF d_Ac_isOn_141 (by decide), ?_⟩
  refine List.forall_mem_cons.mpr ⟨fs_goto hF d_Ac_isOn_142 (by decide), ?_⟩
  refine List.forall_mem_cons.mpr ⟨fs_const hF d_Ac_isOn_145 (by decide), ?_⟩
  refine List.forall_mem_cons.mpr ⟨fs_zret hC hr d_Ac_isOn_146, ?_⟩
  refine List.forall_mem_cons.mpr ⟨fs_load hF d_Ac_isOn_147, ?_⟩
  refine List.forall_mem_cons.mpr ⟨fs_ifeq hF d_Ac_isOn_149 (by decide), ?_⟩
  refine List.forall_mem_cons.mpr ⟨fs_loada_n hF d_Ac_isOn_152 rfl, ?_⟩
  refine List.forall_mem_cons.mpr ⟨g24 _ 153 d_Ac_isOn_153, ?_⟩
  refine List.forall_mem_cons.mpr ⟨fs_load_n hF d_Ac_isOn_156 rfl, ?_⟩
  refine List.forall_mem_cons.mpr ⟨fs_ald hC lkXI d_Ac_isOn_157, ?_⟩
  refine List.forall_mem_cons.mpr ⟨fs_load hF d_Ac_isOn_158, ?_⟩
  refine List.forall_mem_cons.mpr ⟨fs_cmplt hF d_Ac_isOn_160 (by decide), ?_⟩
  refine List.forall_mem_cons.mpr ⟨fs_const hF d_Ac_isOn_163 (by decide), ?_⟩
  refine List.forall_mem_cons.mpr ⟨fs_goto hF d_Ac_isOn_164 (by decide), ?_⟩
  refine List.forall_mem_cons.mpr ⟨fs_const hF d_Ac_isOn_167 (by decide), ?_⟩
  refine List.forall_mem_cons.mpr ⟨fs_zret hC hr d_Ac_isOn_168, ?_⟩
  refine List.forall_mem_cons.mpr ⟨fs_load hF d_Ac_isOn_169, ?_⟩
  refine List.forall_mem_cons.mpr ⟨fs_ifeq hF d_Ac_isOn_171 (by decide), ?_⟩
  refine List.forall_mem_cons.mpr ⟨fs_loada_n hF d_Ac_isOn_174 rfl, ?_⟩
  refine List.forall_mem_cons.mpr ⟨g24 _ 175 d_Ac_isOn_175, ?_⟩
  refine List.forall_mem_cons.mpr ⟨fs_load_n hF d_Ac_isOn_178 rfl, ?_⟩
  refine List.forall_mem_cons.mpr ⟨fs_ald hC lkXI d_Ac_isOn_179, ?_⟩
  refine List.forall_mem_cons.mpr ⟨fs_load hF d_Ac_isOn_180, ?_⟩
  refine List.forall_mem_cons.mpr ⟨fs_cmpge hF d_Ac_isOn_182 (by decide), ?_⟩
  refine List.forall_mem_cons.mpr ⟨fs_const hF d_Ac_isOn_185 (by decide), ?_⟩
  refine List.forall_mem_cons.mpr ⟨fs_goto hF d_Ac_isOn_186 (by decide), ?_⟩
  refine List.forall_mem_cons.mpr ⟨fs_const hF d_Ac_isOn_189 (by decide), ?_⟩
  refine List.forall_mem_cons.mpr ⟨fs_zret hC hr d_Ac_isOn_190, ?_⟩
  refine List.forall_mem_cons.mpr ⟨fs_const hF d_Ac_isOn_191 (by decide), ?_⟩
  refine List.forall_mem_cons.mpr ⟨fs_zret hC hr d_Ac_isOn_192, ?_⟩
  exact fun _ h => absurd h List.not_mem_nil
abbrev rm_Ac_workOut : Room := { frames := 2, cells := 0, slots := 0, locals := 47 }
def ws_Ac_workOut : List Cond := .code y_Ac_workOut c_Ac_workOut 10 (some .int) :: TB
abbrev MC_Ac_workOut (κ : fx_K) : List fx_V → fx_S → (Int32 → fx_S → Prop) → Prop := fx_Met κ.1 κ.2.1 vwCl κ.2.2.1 κ.2.2.2 lyX nwl y_Ac_workOut ws_Ac_workOut rm_Ac_workOut true
def tt_Ac_workOut (κ : fx_K) (post : Int32 → fx_S → Prop) : List (Nat × fx_M fx_S) := [(0, fm_loada 0 1),
  (1, fm_load 1 2),
  (2, fm_call true 5 1 (MC_Ac_resetVariables κ) 5),
  (5, fm_store 4 7),
  (7, fm_const 0 8),
  (8, fm_store 5 10),
  (10, fm_const 0 11),
  (11, fm_store 6 13),
  (13, fm_load 6 15),
  (15, fm_loada 0 16),
  (16, fm_get 5 5 19),
  (19, fm_cmpge 108 22),
  (22, fm_loada 0 23),
  (23, fm_getr 5 21 26),
  (26, fm_load 6 28),
  (28, fm_ald lnXI 29),
  (29, fm_store 7 31),
  (31, fm_load 7 33),
  (33, fm_load 1 34),
  (34, fm_calls true 2 (MC_Fc_isIn κ) 37),
  (37, fm_store 8 39),
  (39, fm_load 7 41),
  (41, fm_load 2 42),
  (42, fm_calls true 2 (MC_Fc_isIn κ) 45),
  (45, fm_store 9 47),
  (47, fm_loada 0 48),
  (48, fm_load 6 50),
  (50, fm_loada 0 51),
  (51, fm_getr 5 23 54),
  (54, fm_load 6 56),
  (56, fm_ald lnXI 57),
  (57, fm_load 4 59),
  (59, fm_calls true 2 (MC_Fc_isIn κ) 62),
  (62, fm_load 8 64),
  (64, fm_loada 3 65),
  (65, fm_load 7 67),
  (67, fm_ald lnXI 68),
  (68, fm_call false 5 4 (MC_Ac_store κ) 71),
  (71, fm_loada 0 72),
  (72, fm_load 6 74),
  (74, fm_load 8 76),
  (76, fm_load 9 78),
  (78, fm_loada 3 79),
  (79, fm_load 7 81),
  (81, fm_ald lnXI 82),
  (82, fm_call true 5 4 (MC_Ac_isOn κ) 85),
  (85, fm_ifeq 102 88),
  (88, fm_load 5 90),
  (90, fm_const 1 91),
  (91, fm_loada 0 92),
  (92, fm_getr 5 23 95),
  (95, fm_load 6 97),
  (97, fm_ald lnXI 98),
  (98, fm_ishl 99),
  (99, fm_ior 100),
  (100, fm_store 5 102),
  (102, fm_inc 6 1 105),
  (105, fm_goto 13),
  (108, fm_load 5 110),
  (110, fm_load 4 112),
  (112, fm_const (-1) 113),
  (113, fm_ixor 114),
  (114, fm_iand 115),
  (115, fm_ret post)]
set_option maxHeartbeats 4000000 in
set_option maxRecDepth 100000 in
theorem mo_Ac_workOut {κ : fx_K} (hq : fx_I κ lyX.length) {av : List fx_V} {S : fx_S} {post : Int32 → fx_S → Prop} (hlen : av.length ≤ 10) (body : ∀ J : fx_J fx_S, (∀ r ∈ tt_Ac_workOut κ post, fx_Snd J r.1 r.2) → (∀ pc k ls st S, J pc (ls.take k) st S → J pc ls st S) → J 0 av [] S) : MC_Ac_workOut κ av S post := by
  refine fx_Met_of (cc := c_Ac_workOut) (nL := 10) (ret := (some .int)) (by decide) rfl hq hlen ?_
  intro p e s m args below meth c hC hr hnw
  refine body _ ?_ fx_W_take
  have hF := hC.1
  have hts := hC.1.2.2.2.2
  have hm : ∀ {w : Cond}, w ∈ TB → w.before args s = true := fun h => hts _ (List.mem_cons_of_mem _ h)
  have g27 : ∀ (Q : State → Prop) (pc : Nat), decode c_Ac_workOut pc = .ok (.getfield 27, 3) → fx_Snd (fx_W p κ.1 e rm_Ac_workOut s m args below meth c Q (fx_A κ.2.2.2 lyX.length) 0 0 (fx_P κ.2.1 vwCl κ.2.2.1 κ.2.2.2 lyX) κ.2.2.2 10) pc (fm_get 5 5 (pc + 3)) := fun Q pc hd => fs_get hC (cN := 5) (j := 5) (ci := 5) (C := R_Ac) (T := T_Ac) (N := 7) rfl rfl rfl (by decide) (fun w h => List.mem_cons_of_mem _ (in_Ac w h)) (hm wd_151) hd
  have g9 : ∀ (Q : State → Prop) (pc : Nat), decode c_Ac_workOut pc = .ok (.getfield 9, 3) → fx_Snd (fx_W p κ.1 e rm_Ac_workOut s m args below meth c Q (fx_A κ.2.2.2 lyX.length) 0 0 (fx_P κ.2.1 vwCl κ.2.2.1 κ.2.2.2 lyX) κ.2.2.2 10) pc (fm_getr 5 21 (pc + 3)) := fun Q pc hd => fs_getr hC (cN := 5) (j := 0) (ci := 5) (C := R_Ac) (T := T_Ac) (N := 7) rfl rfl rfl (by decide) (fun w h => List.mem_cons_of_mem _ (in_Ac w h)) (hm wd_146) hd
  have g18 : ∀ (Q : State → Prop) (pc : Nat), decode c_Ac_workOut pc = .ok (.getfield 18, 3) → fx_Snd (fx_W p κ.1 e rm_Ac_workOut s m args below meth c Q (fx_A κ.2.2.2 lyX.length) 0 0 (fx_P κ.2.1 vwCl κ.2.2.1 κ.2.2.2 lyX) κ.2.2.2 10) pc (fm_getr 5 23 (pc + 3)) := fun Q pc hd => fs_getr hC (cN := 5) (j := 2) (ci := 5) (C := R_Ac) (T := T_Ac) (N := 7) rfl rfl rfl (by decide) (fun w h => List.mem_cons_of_mem _ (in_Ac w h)) (hm wd_148) hd
  refine List.forall_mem_cons.mpr ⟨fs_loada_n hF d_Ac_workOut_0 rfl, ?_⟩
  refine List.forall_mem_cons.mpr ⟨fs_load_n hF d_Ac_workOut_1 rfl, ?_⟩
  refine List.forall_mem_cons.mpr ⟨fs_callV hC nwl_ok hnw (cN := 5) (ci := 5) (C := R_Ac) rfl rfl ⟨callB_of 1 hts (tb_good wd_480) rfl rfl rfl (hm wd_37) (hm wd_477) pd_Ac_resetVariables ⟨Nat.le_of_ble_eq_true rfl, Nat.le_of_ble_eq_true rfl⟩, hm wd_479, hm wd_8⟩ d_Ac_workOut_2, ?_⟩
  refine List.forall_mem_cons.mpr ⟨fs_store hF d_Ac_workOut_5 (by decide), ?_⟩
  refine List.forall_mem_cons.mpr ⟨fs_const hF d_Ac_workOut_7 (by decide), ?_⟩
  refine List.forall_mem_cons.mpr ⟨fs_store hF d_Ac_workOut_8 (by decide), ?_⟩
  refine List.forall_mem_cons.mpr ⟨fs_const hF d_Ac_workOut_10 (by decide), ?_⟩
  refine List.forall_mem_cons.mpr ⟨fs_store hF d_Ac_workOut_11 (by decide), ?_⟩
  refine List.forall_mem_cons.mpr ⟨fs_load hF d_Ac_workOut_13, ?_⟩
  refine List.forall_mem_cons.mpr ⟨fs_loada_n hF d_Ac_workOut_15 rfl, ?_⟩
  refine List.forall_mem_cons.mpr ⟨g27 _ 16 d_Ac_workOut_16, ?_⟩
  refine List.forall_mem_cons.mpr ⟨fs_cmpge hF d_Ac_workOut_19 (by decide), ?_⟩
  refine List.forall_mem_cons.mpr ⟨fs_loada_n hF d_Ac_workOut_22 rfl, ?_⟩
  refine List.forall_mem_cons.mpr ⟨g9 _ 23 d_Ac_workOut_23, ?_⟩
  refine List.forall_mem_cons.mpr ⟨fs_load hF d_Ac_workOut_26, ?_⟩
  refine List.forall_mem_cons.mpr ⟨fs_ald hC lkXI d_Ac_workOut_28, ?_⟩
  refine List.forall_mem_cons.mpr ⟨fs_store hF d_Ac_workOut_29 (by decide), ?_⟩
  refine List.forall_mem_cons.mpr ⟨fs_load hF d_Ac_workOut_31, ?_⟩
  refine List.forall_mem_cons.mpr ⟨fs_load_n hF d_Ac_workOut_33 rfl, ?_⟩
  refine List.forall_mem_cons.mpr ⟨fs_callSN hC nwl_ok hnw ⟨va_cnB 2 hts (tb_good wd_369) rfl rfl rfl (hnw _ (List.mem_of_getElem? (i := 30) rfl)) (hm wd_32) pd_Fc_isIn ⟨Nat.le_of_ble_eq_true rfl, Nat.le_of_ble_eq_true rfl⟩, hm wd_368⟩ d_Ac_workOut_34, ?_⟩
  refine List.forall_mem_cons.mpr ⟨fs_store hF d_Ac_workOut_37 (by decide), ?_⟩
  refine List.forall_mem_cons.mpr ⟨fs_load hF d_Ac_workOut_39, ?_⟩
  refine List.forall_mem_cons.mpr ⟨fs_load_n hF d_Ac_workOut_41 rfl, ?_⟩
  refine List.forall_mem_cons.mpr ⟨fs_callSN hC nwl_ok hnw ⟨va_cnB 2 hts (tb_good wd_369) rfl rfl rfl (hnw _ (List.mem_of_getElem? (i := 30) rfl)) (hm wd_32) pd_Fc_isIn ⟨Nat.le_of_ble_eq_true rfl, Nat.le_of_ble_eq_true rfl⟩, hm wd_368⟩ d_Ac_workOut_42, ?_⟩
  refine List.forall_mem_cons.mpr ⟨fs_store hF d_Ac_workOut_45 (by decide), ?_⟩
  refine List.forall_mem_cons.mpr ⟨fs_loada_n hF d_Ac_workOut_47 rfl, ?_⟩
  refine List.forall_mem_cons.mpr ⟨fs_load hF d_Ac_workOut_48, ?_⟩
  refine List.forall_mem_cons.mpr ⟨fs_loada_n hF d_Ac_workOut_50 rfl, ?_⟩
  refine List.forall_mem_cons.mpr ⟨g18 _ 51 d_Ac_workOut_51, ?_⟩
  refine List.forall_mem_cons.mpr ⟨fs_load hF d_Ac_workOut_54, ?_⟩
  refine List.forall_mem_cons.mpr ⟨fs_ald hC lkXI d_Ac_workOut_56, ?_⟩
  refine List.forall_mem_cons.mpr ⟨fs_load hF d_Ac_workOut_57, ?_⟩
  refine List.forall_mem_cons.mpr ⟨fs_callSN hC nwl_ok hnw ⟨va_cnB 2 hts (tb_good wd_369) rfl rfl rfl (hnw _ (List.mem_of_getElem? (i := 30) rfl)) (hm wd_32) pd_Fc_isIn ⟨Nat.le_of_ble_eq_true rfl, Nat.le_of_ble_eq_true rfl⟩, hm wd_368⟩ d_Ac_workOut_59, ?_⟩
  refine List.forall_mem_cons.mpr ⟨fs_load hF d_Ac_workOut_62, ?_⟩
  refine List.forall_mem_cons.mpr ⟨fs_loada_n hF d_Ac_workOut_64 rfl, ?_⟩
  refine List.forall_mem_cons.mpr ⟨fs_load hF d_Ac_workOut_65, ?_⟩
  refine List.forall_mem_cons.mpr ⟨fs_ald hC lkXI d_Ac_workOut_67, ?_⟩
  refine List.forall_mem_cons.mpr ⟨fs_callV hC nwl_ok hnw (cN := 5) (ci := 5) (C := R_Ac) rfl rfl ⟨callB_of 4 hts (tb_good wd_484) rfl rfl rfl (hm wd_37) (hm wd_481) pd_Ac_store ⟨Nat.le_of_ble_eq_true rfl, Nat.le_of_ble_eq_true rfl⟩, hm wd_483, hm wd_9⟩ d_Ac_workOut_68, ?_⟩
  refine List.forall_mem_cons.mpr ⟨fs_loada_n hF d_Ac_workOut_71 rfl, ?_⟩
  refine List.forall_mem_cons.mpr ⟨fs_load hF d_Ac_workOut_72, ?_⟩
  refine List.forall_mem_cons.mpr ⟨fs_load hF d_Ac_workOut_74, ?_⟩
  refine List.forall_mem_cons.mpr ⟨fs_load hF d_Ac_workOut_76, ?_⟩
  refine List.forall_mem_cons.mpr ⟨fs_loada_n hF d_Ac_workOut_78 rfl, ?_⟩
  refine List.forall_mem_cons.mpr ⟨fs_load hF d_Ac_workOut_79, ?_⟩
  refine List.forall_mem_cons.mpr ⟨fs_ald hC lkXI d_Ac_workOut_81, ?_⟩
  refine List.forall_mem_cons.mpr ⟨fs_callV hC nwl_ok hnw (cN := 5) (ci := 5) (C := R_Ac) rfl rfl ⟨callB_of 4 hts (tb_good wd_492) rfl rfl rfl (hm wd_37) (hm wd_489) pd_Ac_isOn ⟨Nat.le_of_ble_eq_true rfl, Nat.le_of_ble_eq_true rfl⟩, hm wd_491, hm wd_11⟩ d_Ac_workOut_82, ?_⟩
  refine List.forall_mem_cons.mpr ⟨fs_ifeq hF d_Ac_workOut_85 (by decide), ?_⟩
  refine List.forall_mem_cons.mpr ⟨fs_load hF d_Ac_workOut_88, ?_⟩
  refine List.forall_mem_cons.mpr ⟨fs_const hF d_Ac_workOut_90 (by decide), ?_⟩
  refine List.forall_mem_cons.mpr ⟨fs_loada_n hF d_Ac_workOut_91 rfl, ?_⟩
  refine List.forall_mem_cons.mpr ⟨g18 _ 92 d_Ac_workOut_92, ?_⟩
  refine List.forall_mem_cons.mpr ⟨fs_load hF d_Ac_workOut_95, ?_⟩
  refine List.forall_mem_cons.mpr ⟨fs_ald hC lkXI d_Ac_workOut_97, ?_⟩
  refine List.forall_mem_cons.mpr ⟨fs_ishl hF d_Ac_workOut_98, ?_⟩
  refine List.forall_mem_cons.mpr ⟨fs_ior hF d_Ac_workOut_99, ?_⟩
  refine List.forall_mem_cons.mpr ⟨fs_store hF d_Ac_workOut_100 (by decide), ?_⟩
  refine List.forall_mem_cons.mpr ⟨fs_inc hF d_Ac_workOut_102 (by decide) (by decide), ?_⟩
  refine List.forall_mem_cons.mpr ⟨fs_goto hF d_Ac_workOut_105 (by decide), ?_⟩
  refine List.forall_mem_cons.mpr ⟨fs_load hF d_Ac_workOut_108, ?_⟩
  refine List.forall_mem_cons.mpr ⟨fs_load hF d_Ac_workOut_110, ?_⟩
  refine List.forall_mem_cons.mpr ⟨fs_const hF d_Ac_workOut_112 (by decide), ?_⟩
  refine List.forall_mem_cons.mpr ⟨fs_ixor hF d_Ac_workOut_113, ?_⟩
  refine List.forall_mem_cons.mpr ⟨fs_iand hF d_Ac_workOut_114, ?_⟩
  refine List.forall_mem_cons.mpr ⟨fs_ret hC hr d_Ac_workOut_115, ?_⟩
  exact fun _ h => absurd h List.not_mem_nil
abbrev rm_Fc_step : Room := { frames := 1, cells := 0, slots := 0, locals := 23 }
def ws_Fc_step : List Cond := .code y_Fc_step c_Fc_step 3 (some .int) :: TB
abbrev MC_Fc_step (κ : fx_K) : List fx_V → fx_S → (Int32 → fx_S → Prop) → Prop := fx_Met κ.1 κ.2.1 vwCl κ.2.2.1 κ.2.2.2 lyX nwl y_Fc_step ws_Fc_step rm_Fc_step true
def tt_Fc_step (κ : fx_K) (post : Int32 → fx_S → Prop) : List (Nat × fx_M fx_S) := [(0, fm_loada 0 1),
  (1, fm_get 0 7 4),
  (4, fm_ifne 28 7),
  (7, fm_loada 0 8),
  (8, fm_getr 0 1 11),
  (11, fm_get 1 2 14),
  (14, fm_const 8 16),
  (16, fm_cmpeq 28 19),
  (19, fm_load 1 20),
  (20, fm_iflt 28 23),
  (23, fm_load 1 24),
  (24, fm_const 3 25),
  (25, fm_cmplt 31 28),
  (28, fm_const (-2) 30),
  (30, fm_ret post),
  (31, fm_loada 0 32),
  (32, fm_getr 0 1 35),
  (35, fm_load 1 36),
  (36, fm_load 2 37),
  (37, fm_call true 1 2 (MC_St_add κ) 40),
  (40, fm_ret post)]
set_option maxHeartbeats 4000000 in
set_option maxRecDepth 100000 in
theorem mo_Fc_step {κ : fx_K} (hq : fx_I κ lyX.length) {av : List fx_V} {S : fx_S} {post : Int32 → fx_S → Prop} (hlen : av.length ≤ 3) (body : ∀ J : fx_J fx_S, (∀ r ∈ tt_Fc_step κ post, fx_Snd J r.1 r.2) → (∀ pc k ls st S, J pc (ls.take k) st S → J pc ls st S) → J 0 av [] S) : MC_Fc_step κ av S post := by
  refine fx_Met_of (cc := c_Fc_step) (nL := 3) (ret := (some .int)) (by decide) rfl hq hlen ?_
  intro p e s m args below meth c hC hr hnw
  refine body _ ?_ fx_W_take
  have hF := hC.1
  have hts := hC.1.2.2.2.2
  have hm : ∀ {w : Cond}, w ∈ TB → w.before args s = true := fun h => hts _ (List.mem_cons_of_mem _ h)
  have g55 : ∀ (Q : State → Prop) (pc : Nat), decode c_Fc_step pc = .ok (.getfield 55, 3) → fx_Snd (fx_W p κ.1 e rm_Fc_step s m args below meth c Q (fx_A κ.2.2.2 lyX.length) 0 0 (fx_P κ.2.1 vwCl κ.2.2.1 κ.2.2.2 lyX) κ.2.2.2 3) pc (fm_get 0 7 (pc + 3)) := fun Q pc hd => fs_get hC (cN := 0) (j := 7) (ci := 0) (C := R_Fc) (T := T_Fc) (N := 17) rfl rfl rfl (by decide) (fun w h => List.mem_cons_of_mem _ (in_Fc w h)) (hm wd_225) hd
  have g10 : ∀ (Q : State → Prop) (pc : Nat), decode c_Fc_step pc = .ok (.getfield 10, 3) → fx_Snd (fx_W p κ.1 e rm_Fc_step s m args below meth c Q (fx_A κ.2.2.2 lyX.length) 0 0 (fx_P κ.2.1 vwCl κ.2.2.1 κ.2.2.2 lyX) κ.2.2.2 3) pc (fm_getr 0 1 (pc + 3)) := fun Q pc hd => fs_getr hC (cN := 0) (j := 0) (ci := 0) (C := R_Fc) (T := T_Fc) (N := 17) rfl rfl rfl (by decide) (fun w h => List.mem_cons_of_mem _ (in_Fc w h)) (hm wd_218) hd
  have g59 : ∀ (Q : State → Prop) (pc : Nat), decode c_Fc_step pc = .ok (.getfield 59, 3) → fx_Snd (fx_W p κ.1 e rm_Fc_step s m args below meth c Q (fx_A κ.2.2.2 lyX.length) 0 0 (fx_P κ.2.1 vwCl κ.2.2.1 κ.2.2.2 lyX) κ.2.2.2 3) pc (fm_get 1 2 (pc + 3)) := fun Q pc hd => fs_getN hC (cN := 1) (j := 2) (ci := 1) (C := R_St) (T := T_St) (N := 4) rfl rfl rfl (by decide) (fun w h => List.mem_cons_of_mem _ (in_St w h)) (hnw _ (List.mem_of_getElem? (i := 3) rfl)) hd
  refine List.forall_mem_cons.mpr ⟨fs_loada_n hF d_Fc_step_0 rfl, ?_⟩
  refine List.forall_mem_cons.mpr ⟨g55 _ 1 d_Fc_step_1, ?_⟩
  refine List.forall_mem_cons.mpr ⟨fs_ifne hF d_Fc_step_4 (by decide), ?_⟩
  refine List.forall_mem_cons.mpr ⟨fs_loada_n hF d_Fc_step_7 rfl, ?_⟩
  refine List.forall_mem_cons.mpr ⟨g10 _ 8 d_Fc_step_8, ?_⟩
  refine List.forall_mem_cons.mpr ⟨g59 _ 11 d_Fc_step_11, ?_⟩
  refine List.forall_mem_cons.mpr ⟨fs_bipush hF d_Fc_step_14 (by decide), ?_⟩
  refine List.forall_mem_cons.mpr ⟨fs_cmpeq hF d_Fc_step_16 (by decide), ?_⟩
  refine List.forall_mem_cons.mpr ⟨fs_load_n hF d_Fc_step_19 rfl, ?_⟩
  refine List.forall_mem_cons.mpr ⟨fs_iflt hF d_Fc_step_20 (by decide), ?_⟩
  refine List.forall_mem_cons.mpr ⟨fs_load_n hF d_Fc_step_23 rfl, ?_⟩
  refine List.forall_mem_cons.mpr ⟨fs_const hF d_Fc_step_24 (by decide), ?_⟩
  refine List.forall_mem_cons.mpr ⟨fs_cmplt hF d_Fc_step_25 (by decide), ?_⟩
  refine List.forall_mem_cons.mpr ⟨fs_bipush hF d_Fc_step_28 (by decide), ?_⟩
  refine List.forall_mem_cons.mpr ⟨fs_ret hC hr d_Fc_step_30, ?_⟩
  refine List.forall_mem_cons.mpr ⟨fs_loada_n hF d_Fc_step_31 rfl, ?_⟩
  refine List.forall_mem_cons.mpr ⟨g10 _ 32 d_Fc_step_32, ?_⟩
  refine List.forall_mem_cons.mpr ⟨fs_load_n hF d_Fc_step_35 rfl, ?_⟩
  refine List.forall_mem_cons.mpr ⟨fs_load_n hF d_Fc_step_36 rfl, ?_⟩
  refine List.forall_mem_cons.mpr ⟨fs_callV hC nwl_ok hnw (cN := 1) (ci := 1) (C := R_St) rfl rfl ⟨callB_of 2 hts (tb_good wd_277) rfl rfl rfl (hm wd_33) (hm wd_274) pd_St_add ⟨Nat.le_of_ble_eq_true rfl, Nat.le_of_ble_eq_true rfl⟩, hm wd_275, hm wd_276⟩ d_Fc_step_37, ?_⟩
  refine List.forall_mem_cons.mpr ⟨fs_ret hC hr d_Fc_step_40, ?_⟩
  exact fun _ h => absurd h List.not_mem_nil
abbrev rm_Fc_expression : Room := { frames := 3, cells := 0, slots := 0, locals := 68 }
def ws_Fc_expression : List Cond := .code y_Fc_expression c_Fc_expression 4 (some .int) :: TB
abbrev MC_Fc_expression (κ : fx_K) : List fx_V → fx_S → (Int32 → fx_S → Prop) → Prop := fx_Met κ.1 κ.2.1 vwCl κ.2.2.1 κ.2.2.2 lyX nwl y_Fc_expression ws_Fc_expression rm_Fc_expression true
def tt_Fc_expression (κ : fx_K) (post : Int32 → fx_S → Prop) : List (Nat × fx_M fx_S) := [(0, fm_loada 0 1),
  (1, fm_get 0 7 4),
  (4, fm_ifne 36 7),
  (7, fm_loada 0 8),
  (8, fm_getr 0 2 11),
  (11, fm_get 2 4 14),
  (14, fm_const 24 16),
  (16, fm_cmpeq 36 19),
  (19, fm_loada 0 20),
  (20, fm_getr 0 2 23),
  (23, fm_load 1 24),
  (24, fm_load 2 25),
  (25, fm_load 3 26),
  (26, fm_loada 0 27),
  (27, fm_getr 0 1 30),
  (30, fm_call true 2 4 (MC_Ex_allow κ) 33),
  (33, fm_ifne 39 36),
  (36, fm_const (-2) 38),
  (38, fm_ret post),
  (39, fm_loada 0 40),
  (40, fm_getr 0 2 43),
  (43, fm_load 1 44),
  (44, fm_load 2 45),
  (45, fm_load 3 46),
  (46, fm_call true 2 3 (MC_Ex_add κ) 49),
  (49, fm_ret post)]
set_option maxHeartbeats 4000000 in
set_option maxRecDepth 100000 in
theorem mo_Fc_expression {κ : fx_K} (hq : fx_I κ lyX.length) {av : List fx_V} {S : fx_S} {post : Int32 → fx_S → Prop} (hlen : av.length ≤ 4) (body : ∀ J : fx_J fx_S, (∀ r ∈ tt_Fc_expression κ post, fx_Snd J r.1 r.2) → (∀ pc k ls st S, J pc (ls.take k) st S → J pc ls st S) → J 0 av [] S) : MC_Fc_expression κ av S post := by
  refine fx_Met_of (cc := c_Fc_expression) (nL := 4) (ret := (some .int)) (by decide) rfl hq hlen ?_
  intro p e s m args below meth c hC hr hnw
  refine body _ ?_ fx_W_take
  have hF := hC.1
  have hts := hC.1.2.2.2.2
  have hm : ∀ {w : Cond}, w ∈ TB → w.before args s = true := fun h => hts _ (List.mem_cons_of_mem _ h)
  have g55 : ∀ (Q : State → Prop) (pc : Nat), decode c_Fc_expression pc = .ok (.getfield 55, 3) → fx_Snd (fx_W p κ.1 e rm_Fc_expression s m args below meth c Q (fx_A κ.2.2.2 lyX.length) 0 0 (fx_P κ.2.1 vwCl κ.2.2.1 κ.2.2.2 lyX) κ.2.2.2 4) pc (fm_get 0 7 (pc + 3)) := fun Q pc hd => fs_get hC (cN := 0) (j := 7) (ci := 0) (C := R_Fc) (T := T_Fc) (N := 17) rfl rfl rfl (by decide) (fun w h => List.mem_cons_of_mem _ (in_Fc w h)) (hm wd_225) hd
  have g19 : ∀ (Q : State → Prop) (pc : Nat), decode c_Fc_expression pc = .ok (.getfield 19, 3) → fx_Snd (fx_W p κ.1 e rm_Fc_expression s m args below meth c Q (fx_A κ.2.2.2 lyX.length) 0 0 (fx_P κ.2.1 vwCl κ.2.2.1 κ.2.2.2 lyX) κ.2.2.2 4) pc (fm_getr 0 2 (pc + 3)) := fun Q pc hd => fs_getr hC (cN := 0) (j := 1) (ci := 0) (C := R_Fc) (T := T_Fc) (N := 17) rfl rfl rfl (by decide) (fun w h => List.mem_cons_of_mem _ (in_Fc w h)) (hm wd_219) hd
  have g67 : ∀ (Q : State → Prop) (pc : Nat), decode c_Fc_expression pc = .ok (.getfield 67, 3) → fx_Snd (fx_W p κ.1 e rm_Fc_expression s m args below meth c Q (fx_A κ.2.2.2 lyX.length) 0 0 (fx_P κ.2.1 vwCl κ.2.2.1 κ.2.2.2 lyX) κ.2.2.2 4) pc (fm_get 2 4 (pc + 3)) := fun Q pc hd => fs_getN hC (cN := 2) (j := 4) (ci := 2) (C := R_Ex) (T := T_Ex) (N := 5) rfl rfl rfl (by decide) (fun w h => List.mem_cons_of_mem _ (in_Ex w h)) (hnw _ (List.mem_of_getElem? (i := 6) rfl)) hd
  have g10 : ∀ (Q : State → Prop) (pc : Nat), decode c_Fc_expression pc = .ok (.getfield 10, 3) → fx_Snd (fx_W p κ.1 e rm_Fc_expression s m args below meth c Q (fx_A κ.2.2.2 lyX.length) 0 0 (fx_P κ.2.1 vwCl κ.2.2.1 κ.2.2.2 lyX) κ.2.2.2 4) pc (fm_getr 0 1 (pc + 3)) := fun Q pc hd => fs_getr hC (cN := 0) (j := 0) (ci := 0) (C := R_Fc) (T := T_Fc) (N := 17) rfl rfl rfl (by decide) (fun w h => List.mem_cons_of_mem _ (in_Fc w h)) (hm wd_218) hd
  refine List.forall_mem_cons.mpr ⟨fs_loada_n hF d_Fc_expression_0 rfl, ?_⟩
  refine List.forall_mem_cons.mpr ⟨g55 _ 1 d_Fc_expression_1, ?_⟩
  refine List.forall_mem_cons.mpr ⟨fs_ifne hF d_Fc_expression_4 (by decide), ?_⟩
  refine List.forall_mem_cons.mpr ⟨fs_loada_n hF d_Fc_expression_7 rfl, ?_⟩
  refine List.forall_mem_cons.mpr ⟨g19 _ 8 d_Fc_expression_8, ?_⟩
  refine List.forall_mem_cons.mpr ⟨g67 _ 11 d_Fc_expression_11, ?_⟩
  refine List.forall_mem_cons.mpr ⟨fs_bipush hF d_Fc_expression_14 (by decide), ?_⟩
  refine List.forall_mem_cons.mpr ⟨fs_cmpeq hF d_Fc_expression_16 (by decide), ?_⟩
  refine List.forall_mem_cons.mpr ⟨fs_loada_n hF d_Fc_expression_19 rfl, ?_⟩
  refine List.forall_mem_cons.mpr ⟨g19 _ 20 d_Fc_expression_20, ?_⟩
  refine List.forall_mem_cons.mpr ⟨fs_load_n hF d_Fc_expression_23 rfl, ?_⟩
  refine List.forall_mem_cons.mpr ⟨fs_load_n hF d_Fc_expression_24 rfl, ?_⟩
  refine List.forall_mem_cons.mpr ⟨fs_load_n hF d_Fc_expression_25 rfl, ?_⟩
  refine List.forall_mem_cons.mpr ⟨fs_loada_n hF d_Fc_expression_26 rfl, ?_⟩
  refine List.forall_mem_cons.mpr ⟨g10 _ 27 d_Fc_expression_27, ?_⟩
  refine List.forall_mem_cons.mpr ⟨fs_callV hC nwl_ok hnw (cN := 2) (ci := 2) (C := R_Ex) rfl rfl ⟨callB_of 4 hts (tb_good wd_285) rfl rfl rfl (hm wd_34) (hm wd_282) pd_Ex_allow ⟨Nat.le_of_ble_eq_true rfl, Nat.le_of_ble_eq_true rfl⟩, hm wd_283, hm wd_284⟩ d_Fc_expression_30, ?_⟩
  refine List.forall_mem_cons.mpr ⟨fs_ifne hF d_Fc_expression_33 (by decide), ?_⟩
  refine List.forall_mem_cons.mpr ⟨fs_bipush hF d_Fc_expression_36 (by decide), ?_⟩
  refine List.forall_mem_cons.mpr ⟨fs_ret hC hr d_Fc_expression_38, ?_⟩
  refine List.forall_mem_cons.mpr ⟨fs_loada_n hF d_Fc_expression_39 rfl, ?_⟩
  refine List.forall_mem_cons.mpr ⟨g19 _ 40 d_Fc_expression_40, ?_⟩
  refine List.forall_mem_cons.mpr ⟨fs_load_n hF d_Fc_expression_43 rfl, ?_⟩
  refine List.forall_mem_cons.mpr ⟨fs_load_n hF d_Fc_expression_44 rfl, ?_⟩
  refine List.forall_mem_cons.mpr ⟨fs_load_n hF d_Fc_expression_45 rfl, ?_⟩
  refine List.forall_mem_cons.mpr ⟨fs_callV hC nwl_ok hnw (cN := 2) (ci := 2) (C := R_Ex) rfl rfl ⟨callB_of 3 hts (tb_good wd_308) rfl rfl rfl (hm wd_34) (hm wd_305) pd_Ex_add ⟨Nat.le_of_ble_eq_true rfl, Nat.le_of_ble_eq_true rfl⟩, hm wd_306, hm wd_307⟩ d_Fc_expression_46, ?_⟩
  refine List.forall_mem_cons.mpr ⟨fs_ret hC hr d_Fc_expression_49, ?_⟩
  exact fun _ h => absurd h List.not_mem_nil
abbrev rm_Fc_transition : Room := { frames := 1, cells := 0, slots := 0, locals := 25 }
def ws_Fc_transition : List Cond := .code y_Fc_transition c_Fc_transition 5 (some .int) :: TB
abbrev MC_Fc_transition (κ : fx_K) : List fx_V → fx_S → (Int32 → fx_S → Prop) → Prop := fx_Met κ.1 κ.2.1 vwCl κ.2.2.1 κ.2.2.2 lyX nwl y_Fc_transition ws_Fc_transition rm_Fc_transition true
def tt_Fc_transition (κ : fx_K) (post : Int32 → fx_S → Prop) : List (Nat × fx_M fx_S) := [(0, fm_loada 0 1),
  (1, fm_get 0 7 4),
  (4, fm_ifne 27 7),
  (7, fm_loada 0 8),
  (8, fm_getr 0 3 11),
  (11, fm_get 3 4 14),
  (14, fm_const 12 16),
  (16, fm_cmpeq 27 19),
  (19, fm_load 1 20),
  (20, fm_ifeq 27 23),
  (23, fm_load 2 24),
  (24, fm_ifne 30 27),
  (27, fm_const (-2) 29),
  (29, fm_ret post),
  (30, fm_loada 0 31),
  (31, fm_getr 0 1 34),
  (34, fm_load 1 35),
  (35, fm_load 2 36),
  (36, fm_ior 37),
  (37, fm_call true 1 1 (MC_St_partWithAll κ) 40),
  (40, fm_store 4 42),
  (42, fm_load 4 44),
  (44, fm_iflt 58 47),
  (47, fm_loada 0 48),
  (48, fm_getr 0 2 51),
  (51, fm_load 3 52),
  (52, fm_call true 2 1 (MC_Ex_has κ) 55),
  (55, fm_ifne 61 58),
  (58, fm_const (-2) 60),
  (60, fm_ret post),
  (61, fm_loada 0 62),
  (62, fm_getr 0 3 65),
  (65, fm_load 4 67),
  (67, fm_load 1 68),
  (68, fm_load 2 69),
  (69, fm_load 3 70),
  (70, fm_call true 3 4 (MC_Tr_add κ) 73),
  (73, fm_ret post)]
set_option maxHeartbeats 4000000 in
set_option maxRecDepth 100000 in
theorem mo_Fc_transition {κ : fx_K} (hq : fx_I κ lyX.length) {av : List fx_V} {S : fx_S} {post : Int32 → fx_S → Prop} (hlen : av.length ≤ 5) (body : ∀ J : fx_J fx_S, (∀ r ∈ tt_Fc_transition κ post, fx_Snd J r.1 r.2) → (∀ pc k ls st S, J pc (ls.take k) st S → J pc ls st S) → J 0 av [] S) : MC_Fc_transition κ av S post := by
  refine fx_Met_of (cc := c_Fc_transition) (nL := 5) (ret := (some .int)) (by decide) rfl hq hlen ?_
  intro p e s m args below meth c hC hr hnw
  refine body _ ?_ fx_W_take
  have hF := hC.1
  have hts := hC.1.2.2.2.2
  have hm : ∀ {w : Cond}, w ∈ TB → w.before args s = true := fun h => hts _ (List.mem_cons_of_mem _ h)
  have g55 : ∀ (Q : State → Prop) (pc : Nat), decode c_Fc_transition pc = .ok (.getfield 55, 3) → fx_Snd (fx_W p κ.1 e rm_Fc_transition s m args below meth c Q (fx_A κ.2.2.2 lyX.length) 0 0 (fx_P κ.2.1 vwCl κ.2.2.1 κ.2.2.2 lyX) κ.2.2.2 5) pc (fm_get 0 7 (pc + 3)) := fun Q pc hd => fs_get hC (cN := 0) (j := 7) (ci := 0) (C := R_Fc) (T := T_Fc) (N := 17) rfl rfl rfl (by decide) (fun w h => List.mem_cons_of_mem _ (in_Fc w h)) (hm wd_225) hd
  have g26 : ∀ (Q : State → Prop) (pc : Nat), decode c_Fc_transition pc = .ok (.getfield 26, 3) → fx_Snd (fx_W p κ.1 e rm_Fc_transition s m args below meth c Q (fx_A κ.2.2.2 lyX.length) 0 0 (fx_P κ.2.1 vwCl κ.2.2.1 κ.2.2.2 lyX) κ.2.2.2 5) pc (fm_getr 0 3 (pc + 3)) := fun Q pc hd => fs_getr hC (cN := 0) (j := 2) (ci := 0) (C := R_Fc) (T := T_Fc) (N := 17) rfl rfl rfl (by decide) (fun w h => List.mem_cons_of_mem _ (in_Fc w h)) (hm wd_220) hd
  have g75 : ∀ (Q : State → Prop) (pc : Nat), decode c_Fc_transition pc = .ok (.getfield 75, 3) → fx_Snd (fx_W p κ.1 e rm_Fc_transition s m args below meth c Q (fx_A κ.2.2.2 lyX.length) 0 0 (fx_P κ.2.1 vwCl κ.2.2.1 κ.2.2.2 lyX) κ.2.2.2 5) pc (fm_get 3 4 (pc + 3)) := fun Q pc hd => fs_getN hC (cN := 3) (j := 4) (ci := 3) (C := R_Tr) (T := T_Tr) (N := 5) rfl rfl rfl (by decide) (fun w h => List.mem_cons_of_mem _ (in_Tr w h)) (hnw _ (List.mem_of_getElem? (i := 9) rfl)) hd
  have g10 : ∀ (Q : State → Prop) (pc : Nat), decode c_Fc_transition pc = .ok (.getfield 10, 3) → fx_Snd (fx_W p κ.1 e rm_Fc_transition s m args below meth c Q (fx_A κ.2.2.2 lyX.length) 0 0 (fx_P κ.2.1 vwCl κ.2.2.1 κ.2.2.2 lyX) κ.2.2.2 5) pc (fm_getr 0 1 (pc + 3)) := fun Q pc hd => fs_getr hC (cN := 0) (j := 0) (ci := 0) (C := R_Fc) (T := T_Fc) (N := 17) rfl rfl rfl (by decide) (fun w h => List.mem_cons_of_mem _ (in_Fc w h)) (hm wd_218) hd
  have g19 : ∀ (Q : State → Prop) (pc : Nat), decode c_Fc_transition pc = .ok (.getfield 19, 3) → fx_Snd (fx_W p κ.1 e rm_Fc_transition s m args below meth c Q (fx_A κ.2.2.2 lyX.length) 0 0 (fx_P κ.2.1 vwCl κ.2.2.1 κ.2.2.2 lyX) κ.2.2.2 5) pc (fm_getr 0 2 (pc + 3)) := fun Q pc hd => fs_getr hC (cN := 0) (j := 1) (ci := 0) (C := R_Fc) (T := T_Fc) (N := 17) rfl rfl rfl (by decide) (fun w h => List.mem_cons_of_mem _ (in_Fc w h)) (hm wd_219) hd
  refine List.forall_mem_cons.mpr ⟨fs_loada_n hF d_Fc_transition_0 rfl, ?_⟩
  refine List.forall_mem_cons.mpr ⟨g55 _ 1 d_Fc_transition_1, ?_⟩
  refine List.forall_mem_cons.mpr ⟨fs_ifne hF d_Fc_transition_4 (by decide), ?_⟩
  refine List.forall_mem_cons.mpr ⟨fs_loada_n hF d_Fc_transition_7 rfl, ?_⟩
  refine List.forall_mem_cons.mpr ⟨g26 _ 8 d_Fc_transition_8, ?_⟩
  refine List.forall_mem_cons.mpr ⟨g75 _ 11 d_Fc_transition_11, ?_⟩
  refine List.forall_mem_cons.mpr ⟨fs_bipush hF d_Fc_transition_14 (by decide), ?_⟩
  refine List.forall_mem_cons.mpr ⟨fs_cmpeq hF d_Fc_transition_16 (by decide), ?_⟩
  refine List.forall_mem_cons.mpr ⟨fs_load_n hF d_Fc_transition_19 rfl, ?_⟩
  refine List.forall_mem_cons.mpr ⟨fs_ifeq hF d_Fc_transition_20 (by decide), ?_⟩
  refine List.forall_mem_cons.mpr ⟨fs_load_n hF d_Fc_transition_23 rfl, ?_⟩
  refine List.forall_mem_cons.mpr ⟨fs_ifne hF d_Fc_transition_24 (by decide), ?_⟩
  refine List.forall_mem_cons.mpr ⟨fs_bipush hF d_Fc_transition_27 (by decide), ?_⟩
  refine List.forall_mem_cons.mpr ⟨fs_ret hC hr d_Fc_transition_29, ?_⟩
  refine List.forall_mem_cons.mpr ⟨fs_loada_n hF d_Fc_transition_30 rfl, ?_⟩
  refine List.forall_mem_cons.mpr ⟨g10 _ 31 d_Fc_transition_31, ?_⟩
  refine List.forall_mem_cons.mpr ⟨fs_load_n hF d_Fc_transition_34 rfl, ?_⟩
  refine List.forall_mem_cons.mpr ⟨fs_load_n hF d_Fc_transition_35 rfl, ?_⟩
  refine List.forall_mem_cons.mpr ⟨fs_ior hF d_Fc_transition_36, ?_⟩
  refine List.forall_mem_cons.mpr ⟨fs_callV hC nwl_ok hnw (cN := 1) (ci := 1) (C := R_St) rfl rfl ⟨callB_of 1 hts (tb_good wd_323) rfl rfl rfl (hm wd_33) (hm wd_320) pd_St_partWithAll ⟨Nat.le_of_ble_eq_true rfl, Nat.le_of_ble_eq_true rfl⟩, hm wd_321, hm wd_322⟩ d_Fc_transition_37, ?_⟩
  refine List.forall_mem_cons.mpr ⟨fs_store hF d_Fc_transition_40 (by decide), ?_⟩
  refine List.forall_mem_cons.mpr ⟨fs_load hF d_Fc_transition_42, ?_⟩
  refine List.forall_mem_cons.mpr ⟨fs_iflt hF d_Fc_transition_44 (by decide), ?_⟩
  refine List.forall_mem_cons.mpr ⟨fs_loada_n hF d_Fc_transition_47 rfl, ?_⟩
  refine List.forall_mem_cons.mpr ⟨g19 _ 48 d_Fc_transition_48, ?_⟩
  refine List.forall_mem_cons.mpr ⟨fs_load_n hF d_Fc_transition_51 rfl, ?_⟩
  refine List.forall_mem_cons.mpr ⟨fs_callV hC nwl_ok hnw (cN := 2) (ci := 2) (C := R_Ex) rfl rfl ⟨callB_of 1 hts (tb_good wd_304) rfl rfl rfl (hm wd_34) (hm wd_324) pd_Ex_has ⟨Nat.le_of_ble_eq_true rfl, Nat.le_of_ble_eq_true rfl⟩, hm wd_302, hm wd_303⟩ d_Fc_transition_52, ?_⟩
  refine List.forall_mem_cons.mpr ⟨fs_ifne hF d_Fc_transition_55 (by decide), ?_⟩
  refine List.forall_mem_cons.mpr ⟨fs_bipush hF d_Fc_transition_58 (by decide), ?_⟩
  refine List.forall_mem_cons.mpr ⟨fs_ret hC hr d_Fc_transition_60, ?_⟩
  refine List.forall_mem_cons.mpr ⟨fs_loada_n hF d_Fc_transition_61 rfl, ?_⟩
  refine List.forall_mem_cons.mpr ⟨g26 _ 62 d_Fc_transition_62, ?_⟩
  refine List.forall_mem_cons.mpr ⟨fs_load hF d_Fc_transition_65, ?_⟩
  refine List.forall_mem_cons.mpr ⟨fs_load_n hF d_Fc_transition_67 rfl, ?_⟩
  refine List.forall_mem_cons.mpr ⟨fs_load_n hF d_Fc_transition_68 rfl, ?_⟩
  refine List.forall_mem_cons.mpr ⟨fs_load_n hF d_Fc_transition_69 rfl, ?_⟩
  refine List.forall_mem_cons.mpr ⟨fs_callV hC nwl_ok hnw (cN := 3) (ci := 3) (C := R_Tr) rfl rfl ⟨callB_of 4 hts (tb_good wd_328) rfl rfl rfl (hm wd_35) (hm wd_325) pd_Tr_add ⟨Nat.le_of_ble_eq_true rfl, Nat.le_of_ble_eq_true rfl⟩, hm wd_326, hm wd_327⟩ d_Fc_transition_70, ?_⟩
  refine List.forall_mem_cons.mpr ⟨fs_ret hC hr d_Fc_transition_73, ?_⟩
  exact fun _ h => absurd h List.not_mem_nil
abbrev rm_Fc_order : Room := { frames := 1, cells := 0, slots := 0, locals := 24 }
def ws_Fc_order : List Cond := .code y_Fc_order c_Fc_order 4 (some .int) :: TB
abbrev MC_Fc_order (κ : fx_K) : List fx_V → fx_S → (Int32 → fx_S → Prop) → Prop := fx_Met κ.1 κ.2.1 vwCl κ.2.2.1 κ.2.2.2 lyX nwl y_Fc_order ws_Fc_order rm_Fc_order true
def tt_Fc_order (κ : fx_K) (post : Int32 → fx_S → Prop) : List (Nat × fx_M fx_S) := [(0, fm_loada 0 1),
  (1, fm_get 0 7 4),
  (4, fm_ifne 29 7),
  (7, fm_loada 0 8),
  (8, fm_getr 0 4 11),
  (11, fm_get 4 3 14),
  (14, fm_const 4 15),
  (15, fm_cmpeq 29 18),
  (18, fm_loada 0 19),
  (19, fm_getr 0 1 22),
  (22, fm_load 1 23),
  (23, fm_call true 1 1 (MC_St_has κ) 26),
  (26, fm_ifne 32 29),
  (29, fm_const (-2) 31),
  (31, fm_ret post),
  (32, fm_load 2 33),
  (33, fm_loada 0 34),
  (34, fm_getr 0 1 37),
  (37, fm_getr 1 8 40),
  (40, fm_load 1 41),
  (41, fm_ald lnXI 42),
  (42, fm_cmple 50 45),
  (45, fm_load 2 46),
  (46, fm_const 3 47),
  (47, fm_cmplt 53 50),
  (50, fm_const (-2) 52),
  (52, fm_ret post),
  (53, fm_load 3 54),
  (54, fm_const (-1) 55),
  (55, fm_cmpeq 77 58),
  (58, fm_load 3 59),
  (59, fm_loada 0 60),
  (60, fm_getr 0 1 63),
  (63, fm_getr 1 9 66),
  (66, fm_load 2 67),
  (67, fm_ald lnXI 68),
  (68, fm_const (-1) 69),
  (69, fm_ixor 70),
  (70, fm_iand 71),
  (71, fm_ifeq 77 74),
  (74, fm_const (-2) 76),
  (76, fm_ret post),
  (77, fm_loada 0 78),
  (78, fm_getr 0 4 81),
  (81, fm_load 1 82),
  (82, fm_load 2 83),
  (83, fm_load 3 84),
  (84, fm_call true 4 3 (MC_Or_add κ) 87),
  (87, fm_ret post)]
set_option maxHeartbeats 4000000 in
set_option maxRecDepth 100000 in
theorem mo_Fc_order {κ : fx_K} (hq : fx_I κ lyX.length) {av : List fx_V} {S : fx_S} {post : Int32 → fx_S → Prop} (hlen : av.length ≤ 4) (body : ∀ J : fx_J fx_S, (∀ r ∈ tt_Fc_order κ post, fx_Snd J r.1 r.2) → (∀ pc k ls st S, J pc (ls.take k) st S → J pc ls st S) → J 0 av [] S) : MC_Fc_order κ av S post := by
  refine fx_Met_of (cc := c_Fc_order) (nL := 4) (ret := (some .int)) (by decide) rfl hq hlen ?_
  intro p e s m args below meth c hC hr hnw
  refine body _ ?_ fx_W_take
  have hF := hC.1
  have hts := hC.1.2.2.2.2
  have hm : ∀ {w : Cond}, w ∈ TB → w.before args s = true := fun h => hts _ (List.mem_cons_of_mem _ h)
  have g55 : ∀ (Q : State → Prop) (pc : Nat), decode c_Fc_order pc = .ok (.getfield 55, 3) → fx_Snd (fx_W p κ.1 e rm_Fc_order s m args below meth c Q (fx_A κ.2.2.2 lyX.length) 0 0 (fx_P κ.2.1 vwCl κ.2.2.1 κ.2.2.2 lyX) κ.2.2.2 4) pc (fm_get 0 7 (pc + 3)) := fun Q pc hd => fs_get hC (cN := 0) (j := 7) (ci := 0) (C := R_Fc) (T := T_Fc) (N := 17) rfl rfl rfl (by decide) (fun w h => List.mem_cons_of_mem _ (in_Fc w h)) (hm wd_225) hd
  have g33 : ∀ (Q : State → Prop) (pc : Nat), decode c_Fc_order pc = .ok (.getfield 33, 3) → fx_Snd (fx_W p κ.1 e rm_Fc_order s m args below meth c Q (fx_A κ.2.2.2 lyX.length) 0 0 (fx_P κ.2.1 vwCl κ.2.2.1 κ.2.2.2 lyX) κ.2.2.2 4) pc (fm_getr 0 4 (pc + 3)) := fun Q pc hd => fs_getr hC (cN := 0) (j := 3) (ci := 0) (C := R_Fc) (T := T_Fc) (N := 17) rfl rfl rfl (by decide) (fun w h => List.mem_cons_of_mem _ (in_Fc w h)) (hm wd_221) hd
  have g87 : ∀ (Q : State → Prop) (pc : Nat), decode c_Fc_order pc = .ok (.getfield 87, 3) → fx_Snd (fx_W p κ.1 e rm_Fc_order s m args below meth c Q (fx_A κ.2.2.2 lyX.length) 0 0 (fx_P κ.2.1 vwCl κ.2.2.1 κ.2.2.2 lyX) κ.2.2.2 4) pc (fm_get 4 3 (pc + 3)) := fun Q pc hd => fs_getN hC (cN := 4) (j := 3) (ci := 4) (C := R_Or) (T := T_Or) (N := 4) rfl rfl rfl (by decide) (fun w h => List.mem_cons_of_mem _ (in_Or w h)) (hnw _ (List.mem_of_getElem? (i := 11) rfl)) hd
  have g10 : ∀ (Q : State → Prop) (pc : Nat), decode c_Fc_order pc = .ok (.getfield 10, 3) → fx_Snd (fx_W p κ.1 e rm_Fc_order s m args below meth c Q (fx_A κ.2.2.2 lyX.length) 0 0 (fx_P κ.2.1 vwCl κ.2.2.1 κ.2.2.2 lyX) κ.2.2.2 4) pc (fm_getr 0 1 (pc + 3)) := fun Q pc hd => fs_getr hC (cN := 0) (j := 0) (ci := 0) (C := R_Fc) (T := T_Fc) (N := 17) rfl rfl rfl (by decide) (fun w h => List.mem_cons_of_mem _ (in_Fc w h)) (hm wd_218) hd
  have g89 : ∀ (Q : State → Prop) (pc : Nat), decode c_Fc_order pc = .ok (.getfield 89, 3) → fx_Snd (fx_W p κ.1 e rm_Fc_order s m args below meth c Q (fx_A κ.2.2.2 lyX.length) 0 0 (fx_P κ.2.1 vwCl κ.2.2.1 κ.2.2.2 lyX) κ.2.2.2 4) pc (fm_getr 1 8 (pc + 3)) := fun Q pc hd => fs_getrN hC (cN := 1) (j := 0) (ci := 1) (C := R_St) (T := T_St) (N := 4) rfl rfl rfl (by decide) (fun w h => List.mem_cons_of_mem _ (in_St w h)) (hnw _ (List.mem_of_getElem? (i := 1) rfl)) hd
  have g92 : ∀ (Q : State → Prop) (pc : Nat), decode c_Fc_order pc = .ok (.getfield 92, 3) → fx_Snd (fx_W p κ.1 e rm_Fc_order s m args below meth c Q (fx_A κ.2.2.2 lyX.length) 0 0 (fx_P κ.2.1 vwCl κ.2.2.1 κ.2.2.2 lyX) κ.2.2.2 4) pc (fm_getr 1 9 (pc + 3)) := fun Q pc hd => fs_getrN hC (cN := 1) (j := 1) (ci := 1) (C := R_St) (T := T_St) (N := 4) rfl rfl rfl (by decide) (fun w h => List.mem_cons_of_mem _ (in_St w h)) (hnw _ (List.mem_of_getElem? (i := 2) rfl)) hd
  refine List.forall_mem_cons.mpr ⟨fs_loada_n hF d_Fc_order_0 rfl, ?_⟩
  refine List.forall_mem_cons.mpr ⟨g55 _ 1 d_Fc_order_1, ?_⟩
  refine List.forall_mem_cons.mpr ⟨fs_ifne hF d_Fc_order_4 (by decide), ?_⟩
  refine List.forall_mem_cons.mpr ⟨fs_loada_n hF d_Fc_order_7 rfl, ?_⟩
  refine List.forall_mem_cons.mpr ⟨g33 _ 8 d_Fc_order_8, ?_⟩
  refine List.forall_mem_cons.mpr ⟨g87 _ 11 d_Fc_order_11, ?_⟩
  refine List.forall_mem_cons.mpr ⟨fs_const hF d_Fc_order_14 (by decide), ?_⟩
  refine List.forall_mem_cons.mpr ⟨fs_cmpeq hF d_Fc_order_15 (by decide), ?_⟩
  refine List.forall_mem_cons.mpr ⟨fs_loada_n hF d_Fc_order_18 rfl, ?_⟩
  refine List.forall_mem_cons.mpr ⟨g10 _ 19 d_Fc_order_19, ?_⟩
  refine List.forall_mem_cons.mpr ⟨fs_load_n hF d_Fc_order_22 rfl, ?_⟩
  refine List.forall_mem_cons.mpr ⟨fs_callV hC nwl_ok hnw (cN := 1) (ci := 1) (C := R_St) rfl rfl ⟨callB_of 1 hts (tb_good wd_292) rfl rfl rfl (hm wd_33) (hm wd_333) pd_St_has ⟨Nat.le_of_ble_eq_true rfl, Nat.le_of_ble_eq_true rfl⟩, hm wd_290, hm wd_291⟩ d_Fc_order_23, ?_⟩
  refine List.forall_mem_cons.mpr ⟨fs_ifne hF d_Fc_order_26 (by decide), ?_⟩
  refine List.forall_mem_cons.mpr ⟨fs_bipush hF d_Fc_order_29 (by decide), ?_⟩
  refine List.forall_mem_cons.mpr ⟨fs_ret hC hr d_Fc_order_31, ?_⟩
  refine List.forall_mem_cons.mpr ⟨fs_load_n hF d_Fc_order_32 rfl, ?_⟩
  refine List.forall_mem_cons.mpr ⟨fs_loada_n hF d_Fc_order_33 rfl, ?_⟩
  refine List.forall_mem_cons.mpr ⟨g10 _ 34 d_Fc_order_34, ?_⟩
  refine List.forall_mem_cons.mpr ⟨g89 _ 37 d_Fc_order_37, ?_⟩
  refine List.forall_mem_cons.mpr ⟨fs_load_n hF d_Fc_order_40 rfl, ?_⟩
  refine List.forall_mem_cons.mpr ⟨fs_ald hC lkXI d_Fc_order_41, ?_⟩
  refine List.forall_mem_cons.mpr ⟨fs_cmple hF d_Fc_order_42 (by decide), ?_⟩
  refine List.forall_mem_cons.mpr ⟨fs_load_n hF d_Fc_order_45 rfl, ?_⟩
  refine List.forall_mem_cons.mpr ⟨fs_const hF d_Fc_order_46 (by decide), ?_⟩
  refine List.forall_mem_cons.mpr ⟨fs_cmplt hF d_Fc_order_47 (by decide), ?_⟩
  refine List.forall_mem_cons.mpr ⟨fs_bipush hF d_Fc_order_50 (by decide), ?_⟩
  refine List.forall_mem_cons.mpr ⟨fs_ret hC hr d_Fc_order_52, ?_⟩
  refine List.forall_mem_cons.mpr ⟨fs_load_n hF d_Fc_order_53 rfl, ?_⟩
  refine List.forall_mem_cons.mpr ⟨fs_const hF d_Fc_order_54 (by decide), ?_⟩
  refine List.forall_mem_cons.mpr ⟨fs_cmpeq hF d_Fc_order_55 (by decide), ?_⟩
  refine List.forall_mem_cons.mpr ⟨fs_load_n hF d_Fc_order_58 rfl, ?_⟩
  refine List.forall_mem_cons.mpr ⟨fs_loada_n hF d_Fc_order_59 rfl, ?_⟩
  refine List.forall_mem_cons.mpr ⟨g10 _ 60 d_Fc_order_60, ?_⟩
  refine List.forall_mem_cons.mpr ⟨g92 _ 63 d_Fc_order_63, ?_⟩
  refine List.forall_mem_cons.mpr ⟨fs_load_n hF d_Fc_order_66 rfl, ?_⟩
  refine List.forall_mem_cons.mpr ⟨fs_ald hC lkXI d_Fc_order_67, ?_⟩
  refine List.forall_mem_cons.mpr ⟨fs_const hF d_Fc_order_68 (by decide), ?_⟩
  refine List.forall_mem_cons.mpr ⟨fs_ixor hF d_Fc_order_69, ?_⟩
  refine List.forall_mem_cons.mpr ⟨fs_iand hF d_Fc_order_70, ?_⟩
  refine List.forall_mem_cons.mpr ⟨fs_ifeq hF d_Fc_order_71 (by decide), ?_⟩
  refine List.forall_mem_cons.mpr ⟨fs_bipush hF d_Fc_order_74 (by decide), ?_⟩
  refine List.forall_mem_cons.mpr ⟨fs_ret hC hr d_Fc_order_76, ?_⟩
  refine List.forall_mem_cons.mpr ⟨fs_loada_n hF d_Fc_order_77 rfl, ?_⟩
  refine List.forall_mem_cons.mpr ⟨g33 _ 78 d_Fc_order_78, ?_⟩
  refine List.forall_mem_cons.mpr ⟨fs_load_n hF d_Fc_order_81 rfl, ?_⟩
  refine List.forall_mem_cons.mpr ⟨fs_load_n hF d_Fc_order_82 rfl, ?_⟩
  refine List.forall_mem_cons.mpr ⟨fs_load_n hF d_Fc_order_83 rfl, ?_⟩
  refine List.forall_mem_cons.mpr ⟨fs_callV hC nwl_ok hnw (cN := 4) (ci := 4) (C := R_Or) rfl rfl ⟨callB_of 3 hts (tb_good wd_337) rfl rfl rfl (hm wd_36) (hm wd_334) pd_Or_add ⟨Nat.le_of_ble_eq_true rfl, Nat.le_of_ble_eq_true rfl⟩, hm wd_335, hm wd_336⟩ d_Fc_order_84, ?_⟩
  refine List.forall_mem_cons.mpr ⟨fs_ret hC hr d_Fc_order_87, ?_⟩
  exact fun _ h => absurd h List.not_mem_nil
abbrev rm_Fc_action : Room := { frames := 1, cells := 0, slots := 0, locals := 25 }
def ws_Fc_action : List Cond := .code y_Fc_action c_Fc_action 5 (some .int) :: TB
abbrev MC_Fc_action (κ : fx_K) : List fx_V → fx_S → (Int32 → fx_S → Prop) → Prop := fx_Met κ.1 κ.2.1 vwCl κ.2.2.1 κ.2.2.2 lyX nwl y_Fc_action ws_Fc_action rm_Fc_action true
def tt_Fc_action (κ : fx_K) (post : Int32 → fx_S → Prop) : List (Nat × fx_M fx_S) := [(0, fm_loada 0 1),
  (1, fm_get 0 7 4),
  (4, fm_ifne 30 7),
  (7, fm_loada 0 8),
  (8, fm_getr 0 5 11),
  (11, fm_get 5 5 14),
  (14, fm_const 12 16),
  (16, fm_cmpeq 30 19),
  (19, fm_loada 0 20),
  (20, fm_getr 0 1 23),
  (23, fm_load 1 24),
  (24, fm_call true 1 1 (MC_St_has κ) 27),
  (27, fm_ifne 33 30),
  (30, fm_const (-2) 32),
  (32, fm_ret post),
  (33, fm_load 2 34),
  (34, fm_calls true 1 (MC_Ac_isQualifier κ) 37),
  (37, fm_ifeq 55 40),
  (40, fm_load 3 41),
  (41, fm_calls true 1 (MC_Fc_isLine κ) 44),
  (44, fm_ifeq 55 47),
  (47, fm_load 4 49),
  (49, fm_calls true 1 (MC_Fc_isSpan κ) 52),
  (52, fm_ifne 58 55),
  (55, fm_const (-2) 57),
  (57, fm_ret post),
  (58, fm_loada 0 59),
  (59, fm_getr 0 5 62),
  (62, fm_load 1 63),
  (63, fm_load 2 64),
  (64, fm_load 3 65),
  (65, fm_load 4 67),
  (67, fm_call true 5 4 (MC_Ac_add κ) 70),
  (70, fm_ret post)]
set_option maxHeartbeats 4000000 in
set_option maxRecDepth 100000 in
theorem mo_Fc_action {κ : fx_K} (hq : fx_I κ lyX.length) {av : List fx_V} {S : fx_S} {post : Int32 → fx_S → Prop} (hlen : av.length ≤ 5) (body : ∀ J : fx_J fx_S, (∀ r ∈ tt_Fc_action κ post, fx_Snd J r.1 r.2) → (∀ pc k ls st S, J pc (ls.take k) st S → J pc ls st S) → J 0 av [] S) : MC_Fc_action κ av S post := by
  refine fx_Met_of (cc := c_Fc_action) (nL := 5) (ret := (some .int)) (by decide) rfl hq hlen ?_
  intro p e s m args below meth c hC hr hnw
  refine body _ ?_ fx_W_take
  have hF := hC.1
  have hts := hC.1.2.2.2.2
  have hm : ∀ {w : Cond}, w ∈ TB → w.before args s = true := fun h => hts _ (List.mem_cons_of_mem _ h)
  have g55 : ∀ (Q : State → Prop) (pc : Nat), decode c_Fc_action pc = .ok (.getfield 55, 3) → fx_Snd (fx_W p κ.1 e rm_Fc_action s m args below meth c Q (fx_A κ.2.2.2 lyX.length) 0 0 (fx_P κ.2.1 vwCl κ.2.2.1 κ.2.2.2 lyX) κ.2.2.2 5) pc (fm_get 0 7 (pc + 3)) := fun Q pc hd => fs_get hC (cN := 0) (j := 7) (ci := 0) (C := R_Fc) (T := T_Fc) (N := 17) rfl rfl rfl (by decide) (fun w h => List.mem_cons_of_mem _ (in_Fc w h)) (hm wd_225) hd
  have g40 : ∀ (Q : State → Prop) (pc : Nat), decode c_Fc_action pc = .ok (.getfield 40, 3) → fx_Snd (fx_W p κ.1 e rm_Fc_action s m args below meth c Q (fx_A κ.2.2.2 lyX.length) 0 0 (fx_P κ.2.1 vwCl κ.2.2.1 κ.2.2.2 lyX) κ.2.2.2 5) pc (fm_getr 0 5 (pc + 3)) := fun Q pc hd => fs_getr hC (cN := 0) (j := 4) (ci := 0) (C := R_Fc) (T := T_Fc) (N := 17) rfl rfl rfl (by decide) (fun w h => List.mem_cons_of_mem _ (in_Fc w h)) (hm wd_222) hd
  have g96 : ∀ (Q : State → Prop) (pc : Nat), decode c_Fc_action pc = .ok (.getfield 96, 3) → fx_Snd (fx_W p κ.1 e rm_Fc_action s m args below meth c Q (fx_A κ.2.2.2 lyX.length) 0 0 (fx_P κ.2.1 vwCl κ.2.2.1 κ.2.2.2 lyX) κ.2.2.2 5) pc (fm_get 5 5 (pc + 3)) := fun Q pc hd => fs_getN hC (cN := 5) (j := 5) (ci := 5) (C := R_Ac) (T := T_Ac) (N := 7) rfl rfl rfl (by decide) (fun w h => List.mem_cons_of_mem _ (in_Ac w h)) (hnw _ (List.mem_of_getElem? (i := 13) rfl)) hd
  have g10 : ∀ (Q : State → Prop) (pc : Nat), decode c_Fc_action pc = .ok (.getfield 10, 3) → fx_Snd (fx_W p κ.1 e rm_Fc_action s m args below meth c Q (fx_A κ.2.2.2 lyX.length) 0 0 (fx_P κ.2.1 vwCl κ.2.2.1 κ.2.2.2 lyX) κ.2.2.2 5) pc (fm_getr 0 1 (pc + 3)) := fun Q pc hd => fs_getr hC (cN := 0) (j := 0) (ci := 0) (C := R_Fc) (T := T_Fc) (N := 17) rfl rfl rfl (by decide) (fun w h => List.mem_cons_of_mem _ (in_Fc w h)) (hm wd_218) hd
  refine List.forall_mem_cons.mpr ⟨fs_loada_n hF d_Fc_action_0 rfl, ?_⟩
  refine List.forall_mem_cons.mpr ⟨g55 _ 1 d_Fc_action_1, ?_⟩
  refine List.forall_mem_cons.mpr ⟨fs_ifne hF d_Fc_action_4 (by decide), ?_⟩
  refine List.forall_mem_cons.mpr ⟨fs_loada_n hF d_Fc_action_7 rfl, ?_⟩
  refine List.forall_mem_cons.mpr ⟨g40 _ 8 d_Fc_action_8, ?_⟩
  refine List.forall_mem_cons.mpr ⟨g96 _ 11 d_Fc_action_11, ?_⟩
  refine List.forall_mem_cons.mpr ⟨fs_bipush hF d_Fc_action_14 (by decide), ?_⟩
  refine List.forall_mem_cons.mpr ⟨fs_cmpeq hF d_Fc_action_16 (by decide), ?_⟩
  refine List.forall_mem_cons.mpr ⟨fs_loada_n hF d_Fc_action_19 rfl, ?_⟩
  refine List.forall_mem_cons.mpr ⟨g10 _ 20 d_Fc_action_20, ?_⟩
  refine List.forall_mem_cons.mpr ⟨fs_load_n hF d_Fc_action_23 rfl, ?_⟩
  refine List.forall_mem_cons.mpr ⟨fs_callV hC nwl_ok hnw (cN := 1) (ci := 1) (C := R_St) rfl rfl ⟨callB_of 1 hts (tb_good wd_292) rfl rfl rfl (hm wd_33) (hm wd_333) pd_St_has ⟨Nat.le_of_ble_eq_true rfl, Nat.le_of_ble_eq_true rfl⟩, hm wd_290, hm wd_291⟩ d_Fc_action_24, ?_⟩
  refine List.forall_mem_cons.mpr ⟨fs_ifne hF d_Fc_action_27 (by decide), ?_⟩
  refine List.forall_mem_cons.mpr ⟨fs_bipush hF d_Fc_action_30 (by decide), ?_⟩
  refine List.forall_mem_cons.mpr ⟨fs_ret hC hr d_Fc_action_32, ?_⟩
  refine List.forall_mem_cons.mpr ⟨fs_load_n hF d_Fc_action_33 rfl, ?_⟩
  refine List.forall_mem_cons.mpr ⟨fs_callS hC nwl_ok hnw ⟨callB_of 1 hts (tb_good wd_344) rfl rfl rfl (hm wd_37) (hm wd_342) pd_Ac_isQualifier ⟨Nat.le_of_ble_eq_true rfl, Nat.le_of_ble_eq_true rfl⟩, hm wd_343⟩ d_Fc_action_34, ?_⟩
  refine List.forall_mem_cons.mpr ⟨fs_ifeq hF d_Fc_action_37 (by decide), ?_⟩
  refine List.forall_mem_cons.mpr ⟨fs_load_n hF d_Fc_action_40 rfl, ?_⟩
  refine List.forall_mem_cons.mpr ⟨fs_callS hC nwl_ok hnw ⟨callB_of 1 hts (tb_good wd_288) rfl rfl rfl (hm wd_32) (hm wd_345) pd_Fc_isLine ⟨Nat.le_of_ble_eq_true rfl, Nat.le_of_ble_eq_true rfl⟩, hm wd_287⟩ d_Fc_action_41, ?_⟩
  refine List.forall_mem_cons.mpr ⟨fs_ifeq hF d_Fc_action_44 (by decide), ?_⟩
  refine List.forall_mem_cons.mpr ⟨fs_load hF d_Fc_action_47, ?_⟩
  refine List.forall_mem_cons.mpr ⟨fs_callS hC nwl_ok hnw ⟨callB_of 1 hts (tb_good wd_295) rfl rfl rfl (hm wd_32) (hm wd_346) pd_Fc_isSpan ⟨Nat.le_of_ble_eq_true rfl, Nat.le_of_ble_eq_true rfl⟩, hm wd_294⟩ d_Fc_action_49, ?_⟩
  refine List.forall_mem_cons.mpr ⟨fs_ifne hF d_Fc_action_52 (by decide), ?_⟩
  refine List.forall_mem_cons.mpr ⟨fs_bipush hF d_Fc_action_55 (by decide), ?_⟩
  refine List.forall_mem_cons.mpr ⟨fs_ret hC hr d_Fc_action_57, ?_⟩
  refine List.forall_mem_cons.mpr ⟨fs_loada_n hF d_Fc_action_58 rfl, ?_⟩
  refine List.forall_mem_cons.mpr ⟨g40 _ 59 d_Fc_action_59, ?_⟩
  refine List.forall_mem_cons.mpr ⟨fs_load_n hF d_Fc_action_62 rfl, ?_⟩
  refine List.forall_mem_cons.mpr ⟨fs_load_n hF d_Fc_action_63 rfl, ?_⟩
  refine List.forall_mem_cons.mpr ⟨fs_load_n hF d_Fc_action_64 rfl, ?_⟩
  refine List.forall_mem_cons.mpr ⟨fs_load hF d_Fc_action_65, ?_⟩
  refine List.forall_mem_cons.mpr ⟨fs_callV hC nwl_ok hnw (cN := 5) (ci := 5) (C := R_Ac) rfl rfl ⟨callB_of 4 hts (tb_good wd_350) rfl rfl rfl (hm wd_37) (hm wd_347) pd_Ac_add ⟨Nat.le_of_ble_eq_true rfl, Nat.le_of_ble_eq_true rfl⟩, hm wd_348, hm wd_349⟩ d_Fc_action_67, ?_⟩
  refine List.forall_mem_cons.mpr ⟨fs_ret hC hr d_Fc_action_70, ?_⟩
  exact fun _ h => absurd h List.not_mem_nil
abbrev rm_Fc_unreached : Room := { frames := 3, cells := 0, slots := 0, locals := 66 }
def ws_Fc_unreached : List Cond := .code y_Fc_unreached c_Fc_unreached 3 (some .int) :: TB
abbrev MC_Fc_unreached (κ : fx_K) : List fx_V → fx_S → (Int32 → fx_S → Prop) → Prop := fx_Met κ.1 κ.2.1 vwCl κ.2.2.1 κ.2.2.2 lyX nwl y_Fc_unreached ws_Fc_unreached rm_Fc_unreached true
def tt_Fc_unreached (κ : fx_K) (post : Int32 → fx_S → Prop) : List (Nat × fx_M fx_S) := [(0, fm_loada 0 1),
  (1, fm_getr 0 1 4),
  (4, fm_get 1 3 7),
  (7, fm_store 1 8),
  (8, fm_const 0 9),
  (9, fm_store 2 10),
  (10, fm_load 2 11),
  (11, fm_const 8 13),
  (13, fm_cmpge 49 16),
  (16, fm_load 1 17),
  (17, fm_loada 0 18),
  (18, fm_getr 0 3 21),
  (21, fm_loada 0 22),
  (22, fm_getr 0 3 25),
  (25, fm_load 1 26),
  (26, fm_call true 3 1 (MC_Tr_enabledIn κ) 29),
  (29, fm_call true 3 1 (MC_Tr_succeeding κ) 32),
  (32, fm_loada 0 33),
  (33, fm_getr 0 4 36),
  (36, fm_load 1 37),
  (37, fm_call true 4 1 (MC_Or_fixedBy κ) 40),
  (40, fm_ior 41),
  (41, fm_ior 42),
  (42, fm_store 1 43),
  (43, fm_inc 2 1 46),
  (46, fm_goto 10),
  (49, fm_loada 0 50),
  (50, fm_getr 0 1 53),
  (53, fm_call true 1 0 (MC_St_all κ) 56),
  (56, fm_load 1 57),
  (57, fm_const (-1) 58),
  (58, fm_ixor 59),
  (59, fm_iand 60),
  (60, fm_ret post)]
set_option maxHeartbeats 4000000 in
set_option maxRecDepth 100000 in
theorem mo_Fc_unreached {κ : fx_K} (hq : fx_I κ lyX.length) {av : List fx_V} {S : fx_S} {post : Int32 → fx_S → Prop} (hlen : av.length ≤ 3) (body : ∀ J : fx_J fx_S, (∀ r ∈ tt_Fc_unreached κ post, fx_Snd J r.1 r.2) → (∀ pc k ls st S, J pc (ls.take k) st S → J pc ls st S) → J 0 av [] S) : MC_Fc_unreached κ av S post := by
  refine fx_Met_of (cc := c_Fc_unreached) (nL := 3) (ret := (some .int)) (by decide) rfl hq hlen ?_
  intro p e s m args below meth c hC hr hnw
  refine body _ ?_ fx_W_take
  have hF := hC.1
  have hts := hC.1.2.2.2.2
  have hm : ∀ {w : Cond}, w ∈ TB → w.before args s = true := fun h => hts _ (List.mem_cons_of_mem _ h)
  have g10 : ∀ (Q : State → Prop) (pc : Nat), decode c_Fc_unreached pc = .ok (.getfield 10, 3) → fx_Snd (fx_W p κ.1 e rm_Fc_unreached s m args below meth c Q (fx_A κ.2.2.2 lyX.length) 0 0 (fx_P κ.2.1 vwCl κ.2.2.1 κ.2.2.2 lyX) κ.2.2.2 3) pc (fm_getr 0 1 (pc + 3)) := fun Q pc hd => fs_getr hC (cN := 0) (j := 0) (ci := 0) (C := R_Fc) (T := T_Fc) (N := 17) rfl rfl rfl (by decide) (fun w h => List.mem_cons_of_mem _ (in_Fc w h)) (hm wd_218) hd
  have g107 : ∀ (Q : State → Prop) (pc : Nat), decode c_Fc_unreached pc = .ok (.getfield 107, 3) → fx_Snd (fx_W p κ.1 e rm_Fc_unreached s m args below meth c Q (fx_A κ.2.2.2 lyX.length) 0 0 (fx_P κ.2.1 vwCl κ.2.2.1 κ.2.2.2 lyX) κ.2.2.2 3) pc (fm_get 1 3 (pc + 3)) := fun Q pc hd => fs_getN hC (cN := 1) (j := 3) (ci := 1) (C := R_St) (T := T_St) (N := 4) rfl rfl rfl (by decide) (fun w h => List.mem_cons_of_mem _ (in_St w h)) (hnw _ (List.mem_of_getElem? (i := 4) rfl)) hd
  have g26 : ∀ (Q : State → Prop) (pc : Nat), decode c_Fc_unreached pc = .ok (.getfield 26, 3) → fx_Snd (fx_W p κ.1 e rm_Fc_unreached s m args below meth c Q (fx_A κ.2.2.2 lyX.length) 0 0 (fx_P κ.2.1 vwCl κ.2.2.1 κ.2.2.2 lyX) κ.2.2.2 3) pc (fm_getr 0 3 (pc + 3)) := fun Q pc hd => fs_getr hC (cN := 0) (j := 2) (ci := 0) (C := R_Fc) (T := T_Fc) (N := 17) rfl rfl rfl (by decide) (fun w h => List.mem_cons_of_mem _ (in_Fc w h)) (hm wd_220) hd
  have g33 : ∀ (Q : State → Prop) (pc : Nat), decode c_Fc_unreached pc = .ok (.getfield 33, 3) → fx_Snd (fx_W p κ.1 e rm_Fc_unreached s m args below meth c Q (fx_A κ.2.2.2 lyX.length) 0 0 (fx_P κ.2.1 vwCl κ.2.2.1 κ.2.2.2 lyX) κ.2.2.2 3) pc (fm_getr 0 4 (pc + 3)) := fun Q pc hd => fs_getr hC (cN := 0) (j := 3) (ci := 0) (C := R_Fc) (T := T_Fc) (N := 17) rfl rfl rfl (by decide) (fun w h => List.mem_cons_of_mem _ (in_Fc w h)) (hm wd_221) hd
  refine List.forall_mem_cons.mpr ⟨fs_loada_n hF d_Fc_unreached_0 rfl, ?_⟩
  refine List.forall_mem_cons.mpr ⟨g10 _ 1 d_Fc_unreached_1, ?_⟩
  refine List.forall_mem_cons.mpr ⟨g107 _ 4 d_Fc_unreached_4, ?_⟩
  refine List.forall_mem_cons.mpr ⟨fs_store_n hF d_Fc_unreached_7 rfl (by decide), ?_⟩
  refine List.forall_mem_cons.mpr ⟨fs_const hF d_Fc_unreached_8 (by decide), ?_⟩
  refine List.forall_mem_cons.mpr ⟨fs_store_n hF d_Fc_unreached_9 rfl (by decide), ?_⟩
  refine List.forall_mem_cons.mpr ⟨fs_load_n hF d_Fc_unreached_10 rfl, ?_⟩
  refine List.forall_mem_cons.mpr ⟨fs_bipush hF d_Fc_unreached_11 (by decide), ?_⟩
  refine List.forall_mem_cons.mpr ⟨fs_cmpge hF d_Fc_unreached_13 (by decide), ?_⟩
  refine List.forall_mem_cons.mpr ⟨fs_load_n hF d_Fc_unreached_16 rfl, ?_⟩
  refine List.forall_mem_cons.mpr ⟨fs_loada_n hF d_Fc_unreached_17 rfl, ?_⟩
  refine List.forall_mem_cons.mpr ⟨g26 _ 18 d_Fc_unreached_18, ?_⟩
  refine List.forall_mem_cons.mpr ⟨fs_loada_n hF d_Fc_unreached_21 rfl, ?_⟩
  refine List.forall_mem_cons.mpr ⟨g26 _ 22 d_Fc_unreached_22, ?_⟩
  refine List.forall_mem_cons.mpr ⟨fs_load_n hF d_Fc_unreached_25 rfl, ?_⟩
  refine List.forall_mem_cons.mpr ⟨fs_callV hC nwl_ok hnw (cN := 3) (ci := 3) (C := R_Tr) rfl rfl ⟨callB_of 1 hts (tb_good wd_358) rfl rfl rfl (hm wd_35) (hm wd_355) pd_Tr_enabledIn ⟨Nat.le_of_ble_eq_true rfl, Nat.le_of_ble_eq_true rfl⟩, hm wd_356, hm wd_357⟩ d_Fc_unreached_26, ?_⟩
  refine List.forall_mem_cons.mpr ⟨fs_callV hC nwl_ok hnw (cN := 3) (ci := 3) (C := R_Tr) rfl rfl ⟨callB_of 1 hts (tb_good wd_362) rfl rfl rfl (hm wd_35) (hm wd_359) pd_Tr_succeeding ⟨Nat.le_of_ble_eq_true rfl, Nat.le_of_ble_eq_true rfl⟩, hm wd_360, hm wd_361⟩ d_Fc_unreached_29, ?_⟩
  refine List.forall_mem_cons.mpr ⟨fs_loada_n hF d_Fc_unreached_32 rfl, ?_⟩
  refine List.forall_mem_cons.mpr ⟨g33 _ 33 d_Fc_unreached_33, ?_⟩
  refine List.forall_mem_cons.mpr ⟨fs_load_n hF d_Fc_unreached_36 rfl, ?_⟩
  refine List.forall_mem_cons.mpr ⟨fs_callV hC nwl_ok hnw (cN := 4) (ci := 4) (C := R_Or) rfl rfl ⟨callB_of 1 hts (tb_good wd_373) rfl rfl rfl (hm wd_36) (hm wd_370) pd_Or_fixedBy ⟨Nat.le_of_ble_eq_true rfl, Nat.le_of_ble_eq_true rfl⟩, hm wd_371, hm wd_372⟩ d_Fc_unreached_37, ?_⟩
  refine List.forall_mem_cons.mpr ⟨fs_ior hF d_Fc_unreached_40, ?_⟩
  refine List.forall_mem_cons.mpr ⟨fs_ior hF d_Fc_unreached_41, ?_⟩
  refine List.forall_mem_cons.mpr ⟨fs_store_n hF d_Fc_unreached_42 rfl (by decide), ?_⟩
  refine List.forall_mem_cons.mpr ⟨fs_inc hF d_Fc_unreached_43 (by decide) (by decide), ?_⟩
  refine List.forall_mem_cons.mpr ⟨fs_goto hF d_Fc_unreached_46 (by decide), ?_⟩
  refine List.forall_mem_cons.mpr ⟨fs_loada_n hF d_Fc_unreached_49 rfl, ?_⟩
  refine List.forall_mem_cons.mpr ⟨g10 _ 50 d_Fc_unreached_50, ?_⟩
  refine List.forall_mem_cons.mpr ⟨fs_callV hC nwl_ok hnw (cN := 1) (ci := 1) (C := R_St) rfl rfl ⟨callB_of 0 hts (tb_good wd_382) rfl rfl rfl (hm wd_33) (hm wd_379) pd_St_all ⟨Nat.le_of_ble_eq_true rfl, Nat.le_of_ble_eq_true rfl⟩, hm wd_380, hm wd_381⟩ d_Fc_unreached_53, ?_⟩
  refine List.forall_mem_cons.mpr ⟨fs_load_n hF d_Fc_unreached_56 rfl, ?_⟩
  refine List.forall_mem_cons.mpr ⟨fs_const hF d_Fc_unreached_57 (by decide), ?_⟩
  refine List.forall_mem_cons.mpr ⟨fs_ixor hF d_Fc_unreached_58, ?_⟩
  refine List.forall_mem_cons.mpr ⟨fs_iand hF d_Fc_unreached_59, ?_⟩
  refine List.forall_mem_cons.mpr ⟨fs_ret hC hr d_Fc_unreached_60, ?_⟩
  exact fun _ h => absurd h List.not_mem_nil
abbrev rm_Fc_forgetRun : Room := { frames := 1, cells := 0, slots := 0, locals := 20 }
def ws_Fc_forgetRun : List Cond := .code y_Fc_forgetRun c_Fc_forgetRun 2 none :: TB
abbrev MC_Fc_forgetRun (κ : fx_K) : List fx_V → fx_S → (Int32 → fx_S → Prop) → Prop := fx_Met κ.1 κ.2.1 vwCl κ.2.2.1 κ.2.2.2 lyX nwl y_Fc_forgetRun ws_Fc_forgetRun rm_Fc_forgetRun false
def tt_Fc_forgetRun (κ : fx_K) (post : Int32 → fx_S → Prop) : List (Nat × fx_M fx_S) := [(0, fm_const 0 1),
  (1, fm_store 1 2),
  (2, fm_load 1 3),
  (3, fm_const 8 5),
  (5, fm_cmpge 21 8),
  (8, fm_loada 0 9),
  (9, fm_getr 0 7 12),
  (12, fm_load 1 13),
  (13, fm_const 0 14),
  (14, fm_ast lnXI 15),
  (15, fm_inc 1 1 18),
  (18, fm_goto 2),
  (21, fm_loada 0 22),
  (22, fm_getr 0 5 25),
  (25, fm_call false 5 0 (MC_Ac_forgetStored κ) 28),
  (28, fm_loada 0 29),
  (29, fm_const 0 30),
  (30, fm_put 0 9 33),
  (33, fm_loada 0 34),
  (34, fm_const 0 35),
  (35, fm_put 0 10 38),
  (38, fm_loada 0 39),
  (39, fm_const 0 40),
  (40, fm_put 0 11 43),
  (43, fm_loada 0 44),
  (44, fm_const 0 45),
  (45, fm_put 0 12 48),
  (48, fm_loada 0 49),
  (49, fm_const 0 50),
  (50, fm_put 0 13 53),
  (53, fm_loada 0 54),
  (54, fm_const 0 55),
  (55, fm_put 0 14 58),
  (58, fm_loada 0 59),
  (59, fm_const 0 60),
  (60, fm_put 0 15 63),
  (63, fm_loada 0 64),
  (64, fm_const 0 65),
  (65, fm_put 0 16 68),
  (68, fm_vret post)]
set_option maxHeartbeats 4000000 in
set_option maxRecDepth 100000 in
theorem mo_Fc_forgetRun {κ : fx_K} (hq : fx_I κ lyX.length) {av : List fx_V} {S : fx_S} {post : Int32 → fx_S → Prop} (hlen : av.length ≤ 2) (body : ∀ J : fx_J fx_S, (∀ r ∈ tt_Fc_forgetRun κ post, fx_Snd J r.1 r.2) → (∀ pc k ls st S, J pc (ls.take k) st S → J pc ls st S) → J 0 av [] S) : MC_Fc_forgetRun κ av S post := by
  refine fx_Met_of (cc := c_Fc_forgetRun) (nL := 2) (ret := none) (by decide) rfl hq hlen ?_
  intro p e s m args below meth c hC hr hnw
  refine body _ ?_ fx_W_take
  have hF := hC.1
  have hts := hC.1.2.2.2.2
  have hm : ∀ {w : Cond}, w ∈ TB → w.before args s = true := fun h => hts _ (List.mem_cons_of_mem _ h)
  have g51 : ∀ (Q : State → Prop) (pc : Nat), decode c_Fc_forgetRun pc = .ok (.getfield 51, 3) → fx_Snd (fx_W p κ.1 e rm_Fc_forgetRun s m args below meth c Q (fx_A κ.2.2.2 lyX.length) 0 0 (fx_P κ.2.1 vwCl κ.2.2.1 κ.2.2.2 lyX) κ.2.2.2 2) pc (fm_getr 0 7 (pc + 3)) := fun Q pc hd => fs_getr hC (cN := 0) (j := 6) (ci := 0) (C := R_Fc) (T := T_Fc) (N := 17) rfl rfl rfl (by decide) (fun w h => List.mem_cons_of_mem _ (in_Fc w h)) (hm wd_224) hd
  have g40 : ∀ (Q : State → Prop) (pc : Nat), decode c_Fc_forgetRun pc = .ok (.getfield 40, 3) → fx_Snd (fx_W p κ.1 e rm_Fc_forgetRun s m args below meth c Q (fx_A κ.2.2.2 lyX.length) 0 0 (fx_P κ.2.1 vwCl κ.2.2.1 κ.2.2.2 lyX) κ.2.2.2 2) pc (fm_getr 0 5 (pc + 3)) := fun Q pc hd => fs_getr hC (cN := 0) (j := 4) (ci := 0) (C := R_Fc) (T := T_Fc) (N := 17) rfl rfl rfl (by decide) (fun w h => List.mem_cons_of_mem _ (in_Fc w h)) (hm wd_222) hd
  refine List.forall_mem_cons.mpr ⟨fs_const hF d_Fc_forgetRun_0 (by decide), ?_⟩
  refine List.forall_mem_cons.mpr ⟨fs_store_n hF d_Fc_forgetRun_1 rfl (by decide), ?_⟩
  refine List.forall_mem_cons.mpr ⟨fs_load_n hF d_Fc_forgetRun_2 rfl, ?_⟩
  refine List.forall_mem_cons.mpr ⟨fs_bipush hF d_Fc_forgetRun_3 (by decide), ?_⟩
  refine List.forall_mem_cons.mpr ⟨fs_cmpge hF d_Fc_forgetRun_5 (by decide), ?_⟩
  refine List.forall_mem_cons.mpr ⟨fs_loada_n hF d_Fc_forgetRun_8 rfl, ?_⟩
  refine List.forall_mem_cons.mpr ⟨g51 _ 9 d_Fc_forgetRun_9, ?_⟩
  refine List.forall_mem_cons.mpr ⟨fs_load_n hF d_Fc_forgetRun_12 rfl, ?_⟩
  refine List.forall_mem_cons.mpr ⟨fs_const hF d_Fc_forgetRun_13 (by decide), ?_⟩
  refine List.forall_mem_cons.mpr ⟨fs_ast hC lkXI d_Fc_forgetRun_14, ?_⟩
  refine List.forall_mem_cons.mpr ⟨fs_inc hF d_Fc_forgetRun_15 (by decide) (by decide), ?_⟩
  refine List.forall_mem_cons.mpr ⟨fs_goto hF d_Fc_forgetRun_18 (by decide), ?_⟩
  refine List.forall_mem_cons.mpr ⟨fs_loada_n hF d_Fc_forgetRun_21 rfl, ?_⟩
  refine List.forall_mem_cons.mpr ⟨g40 _ 22 d_Fc_forgetRun_22, ?_⟩
  refine List.forall_mem_cons.mpr ⟨fs_callV hC nwl_ok hnw (cN := 5) (ci := 5) (C := R_Ac) rfl rfl ⟨callB_of 0 hts (tb_good wd_394) rfl rfl rfl (hm wd_37) (hm wd_391) pd_Ac_forgetStored ⟨Nat.le_of_ble_eq_true rfl, Nat.le_of_ble_eq_true rfl⟩, hm wd_392, hm wd_393⟩ d_Fc_forgetRun_25, ?_⟩
  refine List.forall_mem_cons.mpr ⟨fs_loada_n hF d_Fc_forgetRun_28 rfl, ?_⟩
  refine List.forall_mem_cons.mpr ⟨fs_const hF d_Fc_forgetRun_29 (by decide), ?_⟩
  refine List.forall_mem_cons.mpr ⟨fs_put hC (cN := 0) (j := 9) (ci := 0) (C := R_Fc) (T := T_Fc) (N := 17) rfl rfl rfl (by decide) ty_Fc tk_Fc nm_Fc rfl (by decide +kernel) (fun w h => List.mem_cons_of_mem _ (in_Fc w h)) (hm wd_227) d_Fc_forgetRun_30, ?_⟩
  refine List.forall_mem_cons.mpr ⟨fs_loada_n hF d_Fc_forgetRun_33 rfl, ?_⟩
  refine List.forall_mem_cons.mpr ⟨fs_const hF d_Fc_forgetRun_34 (by decide), ?_⟩
  refine List.forall_mem_cons.mpr ⟨fs_put hC (cN := 0) (j := 10) (ci := 0) (C := R_Fc) (T := T_Fc) (N := 17) rfl rfl rfl (by decide) ty_Fc tk_Fc nm_Fc rfl (by decide +kernel) (fun w h => List.mem_cons_of_mem _ (in_Fc w h)) (hm wd_228) d_Fc_forgetRun_35, ?_⟩
  refine List.forall_mem_cons.mpr ⟨fs_loada_n hF d_Fc_forgetRun_38 rfl, ?_⟩
  refine List.forall_mem_cons.mpr ⟨fs_const hF d_Fc_forgetRun_39 (by decide), ?_⟩
  refine List.forall_mem_cons.mpr ⟨fs_put hC (cN := 0) (j := 11) (ci := 0) (C := R_Fc) (T := T_Fc) (N := 17) rfl rfl rfl (by decide) ty_Fc tk_Fc nm_Fc rfl (by decide +kernel) (fun w h => List.mem_cons_of_mem _ (in_Fc w h)) (hm wd_229) d_Fc_forgetRun_40, ?_⟩
  refine List.forall_mem_cons.mpr ⟨fs_loada_n hF d_Fc_forgetRun_43 rfl, ?_⟩
  refine List.forall_mem_cons.mpr ⟨fs_const hF d_Fc_forgetRun_44 (by decide), ?_⟩
  refine List.forall_mem_cons.mpr ⟨fs_put hC (cN := 0) (j := 12) (ci := 0) (C := R_Fc) (T := T_Fc) (N := 17) rfl rfl rfl (by decide) ty_Fc tk_Fc nm_Fc rfl (by decide +kernel) (fun w h => List.mem_cons_of_mem _ (in_Fc w h)) (hm wd_230) d_Fc_forgetRun_45, ?_⟩
  refine List.forall_mem_cons.mpr ⟨fs_loada_n hF d_Fc_forgetRun_48 rfl, ?_⟩
  refine List.forall_mem_cons.mpr ⟨fs_const hF d_Fc_forgetRun_49 (by decide), ?_⟩
  refine List.forall_mem_cons.mpr ⟨fs_put hC (cN := 0) (j := 13) (ci := 0) (C := R_Fc) (T := T_Fc) (N := 17) rfl rfl rfl (by decide) ty_Fc tk_Fc nm_Fc rfl (by decide +kernel) (fun w h => List.mem_cons_of_mem _ (in_Fc w h)) (hm wd_231) d_Fc_forgetRun_50, ?_⟩
  refine List.forall_mem_cons.mpr ⟨fs_loada_n hF d_Fc_forgetRun_53 rfl, ?_⟩
  refine List.forall_mem_cons.mpr ⟨fs_const hF d_Fc_forgetRun_54 (by decide), ?_⟩
  refine List.forall_mem_cons.mpr ⟨fs_put hC (cN := 0) (j := 14) (ci := 0) (C := R_Fc) (T := T_Fc) (N := 17) rfl rfl rfl (by decide) ty_Fc tk_Fc nm_Fc rfl (by decide +kernel) (fun w h => List.mem_cons_of_mem _ (in_Fc w h)) (hm wd_232) d_Fc_forgetRun_55, ?_⟩
  refine List.forall_mem_cons.mpr ⟨fs_loada_n hF d_Fc_forgetRun_58 rfl, ?_⟩
  refine List.forall_mem_cons.mpr ⟨fs_const hF d_Fc_forgetRun_59 (by decide), ?_⟩
  refine List.forall_mem_cons.mpr ⟨fs_put hC (cN := 0) (j := 15) (ci := 0) (C := R_Fc) (T := T_Fc) (N := 17) rfl rfl rfl (by decide) ty_Fc tk_Fc nm_Fc rfl (by decide +kernel) (fun w h => List.mem_cons_of_mem _ (in_Fc w h)) (hm wd_233) d_Fc_forgetRun_60, ?_⟩
  refine List.forall_mem_cons.mpr ⟨fs_loada_n hF d_Fc_forgetRun_63 rfl, ?_⟩
  refine List.forall_mem_cons.mpr ⟨fs_const hF d_Fc_forgetRun_64 (by decide), ?_⟩
  refine List.forall_mem_cons.mpr ⟨fs_put hC (cN := 0) (j := 16) (ci := 0) (C := R_Fc) (T := T_Fc) (N := 17) rfl rfl rfl (by decide) ty_Fc tk_Fc nm_Fc rfl (by decide +kernel) (fun w h => List.mem_cons_of_mem _ (in_Fc w h)) (hm wd_234) d_Fc_forgetRun_65, ?_⟩
  refine List.forall_mem_cons.mpr ⟨fs_vret hC hr d_Fc_forgetRun_68, ?_⟩
  exact fun _ h => absurd h List.not_mem_nil
abbrev rm_Fc_start : Room := { frames := 2, cells := 0, slots := 0, locals := 41 }
def ws_Fc_start : List Cond := .code y_Fc_start c_Fc_start 2 (some .boolean) :: TB
abbrev MC_Fc_start (κ : fx_K) : List fx_V → fx_S → (Int32 → fx_S → Prop) → Prop := fx_Met κ.1 κ.2.1 vwCl κ.2.2.1 κ.2.2.2 lyX nwl y_Fc_start ws_Fc_start rm_Fc_start true
def tt_Fc_start (κ : fx_K) (post : Int32 → fx_S → Prop) : List (Nat × fx_M fx_S) := [(0, fm_loada 0 1),
  (1, fm_get 0 7 4),
  (4, fm_ifne 17 7),
  (7, fm_loada 0 8),
  (8, fm_getr 0 1 11),
  (11, fm_get 1 3 14),
  (14, fm_ifne 19 17),
  (17, fm_const 0 18),
  (18, fm_zret post),
  (19, fm_loada 0 20),
  (20, fm_call false 0 0 (MC_Fc_forgetRun κ) 23),
  (23, fm_loada 0 24),
  (24, fm_const 1 25),
  (25, fm_putz 0 7 28),
  (28, fm_loada 0 29),
  (29, fm_load 1 30),
  (30, fm_putz 0 8 33),
  (33, fm_loada 0 34),
  (34, fm_loada 0 35),
  (35, fm_getr 0 1 38),
  (38, fm_get 1 3 41),
  (41, fm_put 0 9 44),
  (44, fm_const 1 45),
  (45, fm_zret post)]
set_option maxHeartbeats 4000000 in
set_option maxRecDepth 100000 in
theorem mo_Fc_start {κ : fx_K} (hq : fx_I κ lyX.length) {av : List fx_V} {S : fx_S} {post : Int32 → fx_S → Prop} (hlen : av.length ≤ 2) (body : ∀ J : fx_J fx_S, (∀ r ∈ tt_Fc_start κ post, fx_Snd J r.1 r.2) → (∀ pc k ls st S, J pc (ls.take k) st S → J pc ls st S) → J 0 av [] S) : MC_Fc_start κ av S post := by
  refine fx_Met_of (cc := c_Fc_start) (nL := 2) (ret := (some .boolean)) (by decide) rfl hq hlen ?_
  intro p e s m args below meth c hC hr hnw
  refine body _ ?_ fx_W_take
  have hF := hC.1
  have hts := hC.1.2.2.2.2
  have hm : ∀ {w : Cond}, w ∈ TB → w.before args s = true := fun h => hts _ (List.mem_cons_of_mem _ h)
  have g55 : ∀ (Q : State → Prop) (pc : Nat), decode c_Fc_start pc = .ok (.getfield 55, 3) → fx_Snd (fx_W p κ.1 e rm_Fc_start s m args below meth c Q (fx_A κ.2.2.2 lyX.length) 0 0 (fx_P κ.2.1 vwCl κ.2.2.1 κ.2.2.2 lyX) κ.2.2.2 2) pc (fm_get 0 7 (pc + 3)) := fun Q pc hd => fs_get hC (cN := 0) (j := 7) (ci := 0) (C := R_Fc) (T := T_Fc) (N := 17) rfl rfl rfl (by decide) (fun w h => List.mem_cons_of_mem _ (in_Fc w h)) (hm wd_225) hd
  have g10 : ∀ (Q : State → Prop) (pc : Nat), decode c_Fc_start pc = .ok (.getfield 10, 3) → fx_Snd (fx_W p κ.1 e rm_Fc_start s m args below meth c Q (fx_A κ.2.2.2 lyX.length) 0 0 (fx_P κ.2.1 vwCl κ.2.2.1 κ.2.2.2 lyX) κ.2.2.2 2) pc (fm_getr 0 1 (pc + 3)) := fun Q pc hd => fs_getr hC (cN := 0) (j := 0) (ci := 0) (C := R_Fc) (T := T_Fc) (N := 17) rfl rfl rfl (by decide) (fun w h => List.mem_cons_of_mem _ (in_Fc w h)) (hm wd_218) hd
  have g107 : ∀ (Q : State → Prop) (pc : Nat), decode c_Fc_start pc = .ok (.getfield 107, 3) → fx_Snd (fx_W p κ.1 e rm_Fc_start s m args below meth c Q (fx_A κ.2.2.2 lyX.length) 0 0 (fx_P κ.2.1 vwCl κ.2.2.1 κ.2.2.2 lyX) κ.2.2.2 2) pc (fm_get 1 3 (pc + 3)) := fun Q pc hd => fs_getN hC (cN := 1) (j := 3) (ci := 1) (C := R_St) (T := T_St) (N := 4) rfl rfl rfl (by decide) (fun w h => List.mem_cons_of_mem _ (in_St w h)) (hnw _ (List.mem_of_getElem? (i := 4) rfl)) hd
  refine List.forall_mem_cons.mpr ⟨fs_loada_n hF d_Fc_start_0 rfl, ?_⟩
  refine List.forall_mem_cons.mpr ⟨g55 _ 1 d_Fc_start_1, ?_⟩
  refine List.forall_mem_cons.mpr ⟨fs_ifne hF d_Fc_start_4 (by decide), ?_⟩
  refine List.forall_mem_cons.mpr ⟨fs_loada_n hF d_Fc_start_7 rfl, ?_⟩
  refine List.forall_mem_cons.mpr ⟨g10 _ 8 d_Fc_start_8, ?_⟩
  refine List.forall_mem_cons.mpr ⟨g107 _ 11 d_Fc_start_11, ?_⟩
  refine List.forall_mem_cons.mpr ⟨fs_ifne hF d_Fc_start_14 (by decide), ?_⟩
  refine List.forall_mem_cons.mpr ⟨fs_const hF d_Fc_start_17 (by decide), ?_⟩
  refine List.forall_mem_cons.mpr ⟨fs_zret hC hr d_Fc_start_18, ?_⟩
  refine List.forall_mem_cons.mpr ⟨fs_loada_n hF d_Fc_start_19 rfl, ?_⟩
  refine List.forall_mem_cons.mpr ⟨fs_callV hC nwl_ok hnw (cN := 0) (ci := 0) (C := R_Fc) rfl rfl ⟨callB_of 0 hts (tb_good wd_390) rfl rfl rfl (hm wd_32) (hm wd_387) pd_Fc_forgetRun ⟨Nat.le_of_ble_eq_true rfl, Nat.le_of_ble_eq_true rfl⟩, hm wd_389, hm wd_3⟩ d_Fc_start_20, ?_⟩
  refine List.forall_mem_cons.mpr ⟨fs_loada_n hF d_Fc_start_23 rfl, ?_⟩
  refine List.forall_mem_cons.mpr ⟨fs_const hF d_Fc_start_24 (by decide), ?_⟩
  refine List.forall_mem_cons.mpr ⟨fs_putz hC (cN := 0) (j := 7) (ci := 0) (C := R_Fc) (T := T_Fc) (N := 17) rfl rfl rfl (by decide) ty_Fc tk_Fc nm_Fc rfl (by decide +kernel) (fun w h => List.mem_cons_of_mem _ (in_Fc w h)) (hm wd_225) d_Fc_start_25, ?_⟩
  refine List.forall_mem_cons.mpr ⟨fs_loada_n hF d_Fc_start_28 rfl, ?_⟩
  refine List.forall_mem_cons.mpr ⟨fs_load_n hF d_Fc_start_29 rfl, ?_⟩
  refine List.forall_mem_cons.mpr ⟨fs_putz hC (cN := 0) (j := 8) (ci := 0) (C := R_Fc) (T := T_Fc) (N := 17) rfl rfl rfl (by decide) ty_Fc tk_Fc nm_Fc rfl (by decide +kernel) (fun w h => List.mem_cons_of_mem _ (in_Fc w h)) (hm wd_226) d_Fc_start_30, ?_⟩
  refine List.forall_mem_cons.mpr ⟨fs_loada_n hF d_Fc_start_33 rfl, ?_⟩
  refine List.forall_mem_cons.mpr ⟨fs_loada_n hF d_Fc_start_34 rfl, ?_⟩
  refine List.forall_mem_cons.mpr ⟨g10 _ 35 d_Fc_start_35, ?_⟩
  refine List.forall_mem_cons.mpr ⟨g107 _ 38 d_Fc_start_38, ?_⟩
  refine List.forall_mem_cons.mpr ⟨fs_put hC (cN := 0) (j := 9) (ci := 0) (C := R_Fc) (T := T_Fc) (N := 17) rfl rfl rfl (by decide) ty_Fc tk_Fc nm_Fc rfl (by decide +kernel) (fun w h => List.mem_cons_of_mem _ (in_Fc w h)) (hm wd_227) d_Fc_start_41, ?_⟩
  refine List.forall_mem_cons.mpr ⟨fs_const hF d_Fc_start_44 (by decide), ?_⟩
  refine List.forall_mem_cons.mpr ⟨fs_zret hC hr d_Fc_start_45, ?_⟩
  exact fun _ h => absurd h List.not_mem_nil
abbrev rm_Fc_stop : Room := { frames := 2, cells := 0, slots := 0, locals := 41 }
def ws_Fc_stop : List Cond := .code y_Fc_stop c_Fc_stop 1 none :: TB
abbrev MC_Fc_stop (κ : fx_K) : List fx_V → fx_S → (Int32 → fx_S → Prop) → Prop := fx_Met κ.1 κ.2.1 vwCl κ.2.2.1 κ.2.2.2 lyX nwl y_Fc_stop ws_Fc_stop rm_Fc_stop false
def tt_Fc_stop (κ : fx_K) (post : Int32 → fx_S → Prop) : List (Nat × fx_M fx_S) := [(0, fm_loada 0 1),
  (1, fm_call false 0 0 (MC_Fc_forgetRun κ) 4),
  (4, fm_loada 0 5),
  (5, fm_const 0 6),
  (6, fm_putz 0 7 9),
  (9, fm_vret post)]
set_option maxHeartbeats 4000000 in
set_option maxRecDepth 100000 in
theorem mo_Fc_stop {κ : fx_K} (hq : fx_I κ lyX.length) {av : List fx_V} {S : fx_S} {post : Int32 → fx_S → Prop} (hlen : av.length ≤ 1) (body : ∀ J : fx_J fx_S, (∀ r ∈ tt_Fc_stop κ post, fx_Snd J r.1 r.2) → (∀ pc k ls st S, J pc (ls.take k) st S → J pc ls st S) → J 0 av [] S) : MC_Fc_stop κ av S post := by
  refine fx_Met_of (cc := c_Fc_stop) (nL := 1) (ret := none) (by decide) rfl hq hlen ?_
  intro p e s m args below meth c hC hr hnw
  refine body _ ?_ fx_W_take
  have hF := hC.1
  have hts := hC.1.2.2.2.2
  have hm : ∀ {w : Cond}, w ∈ TB → w.before args s = true := fun h => hts _ (List.mem_cons_of_mem _ h)
  refine List.forall_mem_cons.mpr ⟨fs_loada_n hF d_Fc_stop_0 rfl, ?_⟩
  refine List.forall_mem_cons.mpr ⟨fs_callV hC nwl_ok hnw (cN := 0) (ci := 0) (C := R_Fc) rfl rfl ⟨callB_of 0 hts (tb_good wd_390) rfl rfl rfl (hm wd_32) (hm wd_387) pd_Fc_forgetRun ⟨Nat.le_of_ble_eq_true rfl, Nat.le_of_ble_eq_true rfl⟩, hm wd_389, hm wd_3⟩ d_Fc_stop_1, ?_⟩
  refine List.forall_mem_cons.mpr ⟨fs_loada_n hF d_Fc_stop_4 rfl, ?_⟩
  refine List.forall_mem_cons.mpr ⟨fs_const hF d_Fc_stop_5 (by decide), ?_⟩
  refine List.forall_mem_cons.mpr ⟨fs_putz hC (cN := 0) (j := 7) (ci := 0) (C := R_Fc) (T := T_Fc) (N := 17) rfl rfl rfl (by decide) ty_Fc tk_Fc nm_Fc rfl (by decide +kernel) (fun w h => List.mem_cons_of_mem _ (in_Fc w h)) (hm wd_225) d_Fc_stop_6, ?_⟩
  refine List.forall_mem_cons.mpr ⟨fs_vret hC hr d_Fc_stop_9, ?_⟩
  exact fun _ h => absurd h List.not_mem_nil
abbrev rm_Fc_evolve : Room := { frames := 4, cells := 0, slots := 0, locals := 90 }
def ws_Fc_evolve : List Cond := .code y_Fc_evolve c_Fc_evolve 9 (some .boolean) :: TB
abbrev MC_Fc_evolve (κ : fx_K) : List fx_V → fx_S → (Int32 → fx_S → Prop) → Prop := fx_Met κ.1 κ.2.1 vwCl κ.2.2.1 κ.2.2.2 lyX nwl y_Fc_evolve ws_Fc_evolve rm_Fc_evolve true
def tt_Fc_evolve (κ : fx_K) (post : Int32 → fx_S → Prop) : List (Nat × fx_M fx_S) := [(0, fm_loada 0 1),
  (1, fm_getr 0 3 4),
  (4, fm_loada 0 5),
  (5, fm_getr 0 6 8),
  (8, fm_get 6 5 11),
  (11, fm_loada 0 12),
  (12, fm_getr 0 2 15),
  (15, fm_loada 0 16),
  (16, fm_getr 0 6 19),
  (19, fm_call true 2 1 (MC_Ex_trueIn κ) 22),
  (22, fm_call true 3 2 (MC_Tr_dueIn κ) 25),
  (25, fm_store 1 26),
  (26, fm_const 0 27),
  (27, fm_store 2 28),
  (28, fm_const 0 29),
  (29, fm_store 3 30),
  (30, fm_const 0 31),
  (31, fm_store 4 33),
  (33, fm_load 4 35),
  (35, fm_const 3 36),
  (36, fm_cmpge 169 39),
  (39, fm_loada 0 40),
  (40, fm_getr 0 6 43),
  (43, fm_get 6 5 46),
  (46, fm_loada 0 47),
  (47, fm_getr 0 1 50),
  (50, fm_getr 1 9 53),
  (53, fm_load 4 55),
  (55, fm_ald lnXI 56),
  (56, fm_iand 57),
  (57, fm_store 5 59),
  (59, fm_loada 0 60),
  (60, fm_getr 0 4 63),
  (63, fm_load 4 65),
  (65, fm_load 3 66),
  (66, fm_call true 4 2 (MC_Or_rulingOver κ) 69),
  (69, fm_store 6 71),
  (71, fm_load 6 73),
  (73, fm_const (-1) 74),
  (74, fm_cmpeq 94 77),
  (77, fm_load 3 78),
  (78, fm_loada 0 79),
  (79, fm_getr 0 4 82),
  (82, fm_load 6 84),
  (84, fm_load 5 86),
  (86, fm_call true 4 2 (MC_Or_forcedSteps κ) 89),
  (89, fm_ior 90),
  (90, fm_store 3 91),
  (91, fm_goto 163),
  (94, fm_load 1 95),
  (95, fm_loada 0 96),
  (96, fm_getr 0 3 99),
  (99, fm_getr 3 17 102),
  (102, fm_load 4 104),
  (104, fm_ald lnXI 105),
  (105, fm_iand 106),
  (106, fm_store 7 108),
  (108, fm_loada 0 109),
  (109, fm_get 0 8 112),
  (112, fm_ifeq 120 115),
  (115, fm_load 7 117),
  (117, fm_goto 129),
  (120, fm_loada 0 121),
  (121, fm_getr 0 3 124),
  (124, fm_load 7 126),
  (126, fm_call true 3 1 (MC_Tr_withoutRivals κ) 129),
  (129, fm_store 8 131),
  (131, fm_load 3 132),
  (132, fm_load 5 134),
  (134, fm_loada 0 135),
  (135, fm_getr 0 3 138),
  (138, fm_load 8 140),
  (140, fm_call true 3 1 (MC_Tr_preceding κ) 143),
  (143, fm_const (-1) 144),
  (144, fm_ixor 145),
  (145, fm_iand 146),
  (146, fm_loada 0 147),
  (147, fm_getr 0 3 150),
  (150, fm_load 8 152),
  (152, fm_call true 3 1 (MC_Tr_succeeding κ) 155),
  (155, fm_ior 156),
  (156, fm_ior 157),
  (157, fm_store 3 158),
  (158, fm_load 2 159),
  (159, fm_load 8 161),
  (161, fm_ior 162),
  (162, fm_store 2 163),
  (163, fm_inc 4 1 166),
  (166, fm_goto 33),
  (169, fm_loada 0 170),
  (170, fm_getr 0 6 173),
  (173, fm_load 3 174),
  (174, fm_load 2 175),
  (175, fm_call true 6 2 (MC_Ti_moveTo κ) 178),
  (178, fm_zret post)]
set_option maxHeartbeats 4000000 in
set_option maxRecDepth 100000 in
theorem mo_Fc_evolve {κ : fx_K} (hq : fx_I κ lyX.length) {av : List fx_V} {S : fx_S} {post : Int32 → fx_S → Prop} (hlen : av.length ≤ 9) (body : ∀ J : fx_J fx_S, (∀ r ∈ tt_Fc_evolve κ post, fx_Snd J r.1 r.2) → (∀ pc k ls st S, J pc (ls.take k) st S → J pc ls st S) → J 0 av [] S) : MC_Fc_evolve κ av S post := by
  refine fx_Met_of (cc := c_Fc_evolve) (nL := 9) (ret := (some .boolean)) (by decide) rfl hq hlen ?_
  intro p e s m args below meth c hC hr hnw
  refine body _ ?_ fx_W_take
  have hF := hC.1
  have hts := hC.1.2.2.2.2
  have hm : ∀ {w : Cond}, w ∈ TB → w.before args s = true := fun h => hts _ (List.mem_cons_of_mem _ h)
  have g26 : ∀ (Q : State → Prop) (pc : Nat), decode c_Fc_evolve pc = .ok (.getfield 26, 3) → fx_Snd (fx_W p κ.1 e rm_Fc_evolve s m args below meth c Q (fx_A κ.2.2.2 lyX.length) 0 0 (fx_P κ.2.1 vwCl κ.2.2.1 κ.2.2.2 lyX) κ.2.2.2 9) pc (fm_getr 0 3 (pc + 3)) := fun Q pc hd => fs_getr hC (cN := 0) (j := 2) (ci := 0) (C := R_Fc) (T := T_Fc) (N := 17) rfl rfl rfl (by decide) (fun w h => List.mem_cons_of_mem _ (in_Fc w h)) (hm wd_220) hd
  have g47 : ∀ (Q : State → Prop) (pc : Nat), decode c_Fc_evolve pc = .ok (.getfield 47, 3) → fx_Snd (fx_W p κ.1 e rm_Fc_evolve s m args below meth c Q (fx_A κ.2.2.2 lyX.length) 0 0 (fx_P κ.2.1 vwCl κ.2.2.1 κ.2.2.2 lyX) κ.2.2.2 9) pc (fm_getr 0 6 (pc + 3)) := fun Q pc hd => fs_getr hC (cN := 0) (j := 5) (ci := 0) (C := R_Fc) (T := T_Fc) (N := 17) rfl rfl rfl (by decide) (fun w h => List.mem_cons_of_mem _ (in_Fc w h)) (hm wd_223) hd
  have g186 : ∀ (Q : State → Prop) (pc : Nat), decode c_Fc_evolve pc = .ok (.getfield 186, 3) → fx_Snd (fx_W p κ.1 e rm_Fc_evolve s m args below meth c Q (fx_A κ.2.2.2 lyX.length) 0 0 (fx_P κ.2.1 vwCl κ.2.2.1 κ.2.2.2 lyX) κ.2.2.2 9) pc (fm_get 6 5 (pc + 3)) := fun Q pc hd => fs_getN hC (cN := 6) (j := 5) (ci := 6) (C := R_Ti) (T := T_Ti) (N := 11) rfl rfl rfl (by decide) (fun w h => List.mem_cons_of_mem _ (in_Ti w h)) (hnw _ (List.mem_of_getElem? (i := 19) rfl)) hd
  have g19 : ∀ (Q : State → Prop) (pc : Nat), decode c_Fc_evolve pc = .ok (.getfield 19, 3) → fx_Snd (fx_W p κ.1 e rm_Fc_evolve s m args below meth c Q (fx_A κ.2.2.2 lyX.length) 0 0 (fx_P κ.2.1 vwCl κ.2.2.1 κ.2.2.2 lyX) κ.2.2.2 9) pc (fm_getr 0 2 (pc + 3)) := fun Q pc hd => fs_getr hC (cN := 0) (j := 1) (ci := 0) (C := R_Fc) (T := T_Fc) (N := 17) rfl rfl rfl (by decide) (fun w h => List.mem_cons_of_mem _ (in_Fc w h)) (hm wd_219) hd
  have g10 : ∀ (Q : State → Prop) (pc : Nat), decode c_Fc_evolve pc = .ok (.getfield 10, 3) → fx_Snd (fx_W p κ.1 e rm_Fc_evolve s m args below meth c Q (fx_A κ.2.2.2 lyX.length) 0 0 (fx_P κ.2.1 vwCl κ.2.2.1 κ.2.2.2 lyX) κ.2.2.2 9) pc (fm_getr 0 1 (pc + 3)) := fun Q pc hd => fs_getr hC (cN := 0) (j := 0) (ci := 0) (C := R_Fc) (T := T_Fc) (N := 17) rfl rfl rfl (by decide) (fun w h => List.mem_cons_of_mem _ (in_Fc w h)) (hm wd_218) hd
  have g92 : ∀ (Q : State → Prop) (pc : Nat), decode c_Fc_evolve pc = .ok (.getfield 92, 3) → fx_Snd (fx_W p κ.1 e rm_Fc_evolve s m args below meth c Q (fx_A κ.2.2.2 lyX.length) 0 0 (fx_P κ.2.1 vwCl κ.2.2.1 κ.2.2.2 lyX) κ.2.2.2 9) pc (fm_getr 1 9 (pc + 3)) := fun Q pc hd => fs_getrN hC (cN := 1) (j := 1) (ci := 1) (C := R_St) (T := T_St) (N := 4) rfl rfl rfl (by decide) (fun w h => List.mem_cons_of_mem _ (in_St w h)) (hnw _ (List.mem_of_getElem? (i := 2) rfl)) hd
  have g33 : ∀ (Q : State → Prop) (pc : Nat), decode c_Fc_evolve pc = .ok (.getfield 33, 3) → fx_Snd (fx_W p κ.1 e rm_Fc_evolve s m args below meth c Q (fx_A κ.2.2.2 lyX.length) 0 0 (fx_P κ.2.1 vwCl κ.2.2.1 κ.2.2.2 lyX) κ.2.2.2 9) pc (fm_getr 0 4 (pc + 3)) := fun Q pc hd => fs_getr hC (cN := 0) (j := 3) (ci := 0) (C := R_Fc) (T := T_Fc) (N := 17) rfl rfl rfl (by decide) (fun w h => List.mem_cons_of_mem _ (in_Fc w h)) (hm wd_221) hd
  have g201 : ∀ (Q : State → Prop) (pc : Nat), decode c_Fc_evolve pc = .ok (.getfield 201, 3) → fx_Snd (fx_W p κ.1 e rm_Fc_evolve s m args below meth c Q (fx_A κ.2.2.2 lyX.length) 0 0 (fx_P κ.2.1 vwCl κ.2.2.1 κ.2.2.2 lyX) κ.2.2.2 9) pc (fm_getr 3 17 (pc + 3)) := fun Q pc hd => fs_getrN hC (cN := 3) (j := 3) (ci := 3) (C := R_Tr) (T := T_Tr) (N := 5) rfl rfl rfl (by decide) (fun w h => List.mem_cons_of_mem _ (in_Tr w h)) (hnw _ (List.mem_of_getElem? (i := 8) rfl)) hd
  have g126 : ∀ (Q : State → Prop) (pc : Nat), decode c_Fc_evolve pc = .ok (.getfield 126, 3) → fx_Snd (fx_W p κ.1 e rm_Fc_evolve s m args below meth c Q (fx_A κ.2.2.2 lyX.length) 0 0 (fx_P κ.2.1 vwCl κ.2.2.1 κ.2.2.2 lyX) κ.2.2.2 9) pc (fm_get 0 8 (pc + 3)) := fun Q pc hd => fs_get hC (cN := 0) (j := 8) (ci := 0) (C := R_Fc) (T := T_Fc) (N := 17) rfl rfl rfl (by decide) (fun w h => List.mem_cons_of_mem _ (in_Fc w h)) (hm wd_226) hd
  refine List.forall_mem_cons.mpr ⟨fs_loada_n hF d_Fc_evolve_0 rfl, ?_⟩
  refine List.forall_mem_cons.mpr ⟨g26 _ 1 d_Fc_evolve_1, ?_⟩
  refine List.forall_mem_cons.mpr ⟨fs_loada_n hF d_Fc_evolve_4 rfl, ?_⟩
  refine List.forall_mem_cons.mpr ⟨g47 _ 5 d_Fc_evolve_5, ?_⟩
  refine List.forall_mem_cons.mpr ⟨g186 _ 8 d_Fc_evolve_8, ?_⟩
  refine List.forall_mem_cons.mpr ⟨fs_loada_n hF d_Fc_evolve_11 rfl, ?_⟩
  refine List.forall_mem_cons.mpr ⟨g19 _ 12 d_Fc_evolve_12, ?_⟩
  refine List.forall_mem_cons.mpr ⟨fs_loada_n hF d_Fc_evolve_15 rfl, ?_⟩
  refine List.forall_mem_cons.mpr ⟨g47 _ 16 d_Fc_evolve_16, ?_⟩
  refine List.forall_mem_cons.mpr ⟨fs_callV hC nwl_ok hnw (cN := 2) (ci := 2) (C := R_Ex) rfl rfl ⟨callB_of 1 hts (tb_good wd_423) rfl rfl rfl (hm wd_34) (hm wd_420) pd_Ex_trueIn ⟨Nat.le_of_ble_eq_true rfl, Nat.le_of_ble_eq_true rfl⟩, hm wd_421, hm wd_422⟩ d_Fc_evolve_19, ?_⟩
  refine List.forall_mem_cons.mpr ⟨fs_callV hC nwl_ok hnw (cN := 3) (ci := 3) (C := R_Tr) rfl rfl ⟨callB_of 2 hts (tb_good wd_436) rfl rfl rfl (hm wd_35) (hm wd_433) pd_Tr_dueIn ⟨Nat.le_of_ble_eq_true rfl, Nat.le_of_ble_eq_true rfl⟩, hm wd_434, hm wd_435⟩ d_Fc_evolve_22, ?_⟩
  refine List.forall_mem_cons.mpr ⟨fs_store_n hF d_Fc_evolve_25 rfl (by decide), ?_⟩
  refine List.forall_mem_cons.mpr ⟨fs_const hF d_Fc_evolve_26 (by decide), ?_⟩
  refine List.forall_mem_cons.mpr ⟨fs_store_n hF d_Fc_evolve_27 rfl (by decide), ?_⟩
  refine List.forall_mem_cons.mpr ⟨fs_const hF d_Fc_evolve_28 (by decide), ?_⟩
  refine List.forall_mem_cons.mpr ⟨fs_store_n hF d_Fc_evolve_29 rfl (by decide), ?_⟩
  refine List.forall_mem_cons.mpr ⟨fs_const hF d_Fc_evolve_30 (by decide), ?_⟩
  refine List.forall_mem_cons.mpr ⟨fs_store hF d_Fc_evolve_31 (by decide), ?_⟩
  refine List.forall_mem_cons.mpr ⟨fs_load hF d_Fc_evolve_33, ?_⟩
  refine List.forall_mem_cons.mpr ⟨fs_const hF d_Fc_evolve_35 (by decide), ?_⟩
  refine List.forall_mem_cons.mpr ⟨fs_cmpge hF d_Fc_evolve_36 (by decide), ?_⟩
  refine List.forall_mem_cons.mpr ⟨fs_loada_n hF d_Fc_evolve_39 rfl, ?_⟩
  refine List.forall_mem_cons.mpr ⟨g47 _ 40 d_Fc_evolve_40, ?_⟩
  refine List.forall_mem_cons.mpr ⟨g186 _ 43 d_Fc_evolve_43, ?_⟩
  refine List.forall_mem_cons.mpr ⟨fs_loada_n hF d_Fc_evolve_46 rfl, ?_⟩
  refine List.forall_mem_cons.mpr ⟨g10 _ 47 d_Fc_evolve_47, ?_⟩
  refine List.forall_mem_cons.mpr ⟨g92 _ 50 d_Fc_evolve_50, ?_⟩
  refine List.forall_mem_cons.mpr ⟨fs_load hF d_Fc_evolve_53, ?_⟩
  refine List.forall_mem_cons.mpr ⟨fs_ald hC lkXI d_Fc_evolve_55, ?_⟩
  refine List.forall_mem_cons.mpr ⟨fs_iand hF d_Fc_evolve_56, ?_⟩
  refine List.forall_mem_cons.mpr ⟨fs_store hF d_Fc_evolve_57 (by decide), ?_⟩
  refine List.forall_mem_cons.mpr ⟨fs_loada_n hF d_Fc_evolve_59 rfl, ?_⟩
  refine List.forall_mem_cons.mpr ⟨g33 _ 60 d_Fc_evolve_60, ?_⟩
  refine List.forall_mem_cons.mpr ⟨fs_load hF d_Fc_evolve_63, ?_⟩
  refine List.forall_mem_cons.mpr ⟨fs_load_n hF d_Fc_evolve_65 rfl, ?_⟩
  refine List.forall_mem_cons.mpr ⟨fs_callV hC nwl_ok hnw (cN := 4) (ci := 4) (C := R_Or) rfl rfl ⟨callB_of 2 hts (tb_good wd_441) rfl rfl rfl (hm wd_36) (hm wd_438) pd_Or_rulingOver ⟨Nat.le_of_ble_eq_true rfl, Nat.le_of_ble_eq_true rfl⟩, hm wd_439, hm wd_440⟩ d_Fc_evolve_66, ?_⟩
  refine List.forall_mem_cons.mpr ⟨fs_store hF d_Fc_evolve_69 (by decide), ?_⟩
  refine List.forall_mem_cons.mpr ⟨fs_load hF d_Fc_evolve_71, ?_⟩
  refine List.forall_mem_cons.mpr ⟨fs_const hF d_Fc_evolve_73 (by decide), ?_⟩
  refine List.forall_mem_cons.mpr ⟨fs_cmpeq hF d_Fc_evolve_74 (by decide), ?_⟩
  refine List.forall_mem_cons.mpr ⟨fs_load_n hF d_Fc_evolve_77 rfl, ?_⟩
  refine List.forall_mem_cons.mpr ⟨fs_loada_n hF d_Fc_evolve_78 rfl, ?_⟩
  refine List.forall_mem_cons.mpr ⟨g33 _ 79 d_Fc_evolve_79, ?_⟩
  refine List.forall_mem_cons.mpr ⟨fs_load hF d_Fc_evolve_82, ?_⟩
  refine List.forall_mem_cons.mpr ⟨fs_load hF d_Fc_evolve_84, ?_⟩
  refine List.forall_mem_cons.mpr ⟨fs_callV hC nwl_ok hnw (cN := 4) (ci := 4) (C := R_Or) rfl rfl ⟨callB_of 2 hts (tb_good wd_378) rfl rfl rfl (hm wd_36) (hm wd_442) pd_Or_forcedSteps ⟨Nat.le_of_ble_eq_true rfl, Nat.le_of_ble_eq_true rfl⟩, hm wd_376, hm wd_377⟩ d_Fc_evolve_86, ?_⟩
  refine List.forall_mem_cons.mpr ⟨fs_ior hF d_Fc_evolve_89, ?_⟩
  refine List.forall_mem_cons.mpr ⟨fs_store_n hF d_Fc_evolve_90 rfl (by decide), ?_⟩
  refine List.forall_mem_cons.mpr ⟨fs_goto hF d_Fc_evolve_91 (by decide), ?_⟩
  refine List.forall_mem_cons.mpr ⟨fs_load_n hF d_Fc_evolve_94 rfl, ?_⟩
  refine List.forall_mem_cons.mpr ⟨fs_loada_n hF d_Fc_evolve_95 rfl, ?_⟩
  refine List.forall_mem_cons.mpr ⟨g26 _ 96 d_Fc_evolve_96, ?_⟩
  refine List.forall_mem_cons.mpr ⟨g201 _ 99 d_Fc_evolve_99, ?_⟩
  refine List.forall_mem_cons.mpr ⟨fs_load hF d_Fc_evolve_102, ?_⟩
  refine List.forall_mem_cons.mpr ⟨fs_ald hC lkXI d_Fc_evolve_104, ?_⟩
  refine List.forall_mem_cons.mpr ⟨fs_iand hF d_Fc_evolve_105, ?_⟩
  refine List.forall_mem_cons.mpr ⟨fs_store hF d_Fc_evolve_106 (by decide), ?_⟩
  refine List.forall_mem_cons.mpr ⟨fs_loada_n hF d_Fc_evolve_108 rfl, ?_⟩
  refine List.forall_mem_cons.mpr ⟨g126 _ 109 d_Fc_evolve_109, ?_⟩
  refine List.forall_mem_cons.mpr ⟨fs_ifeq hF d_Fc_evolve_112 (by decide), ?_⟩
  refine List.forall_mem_cons.mpr ⟨fs_load hF d_Fc_evolve_115, ?_⟩
  refine List.forall_mem_cons.mpr ⟨fs_goto hF d_Fc_evolve_117 (by decide), ?_⟩
  refine List.forall_mem_cons.mpr ⟨fs_loada_n hF d_Fc_evolve_120 rfl, ?_⟩
  refine List.forall_mem_cons.mpr ⟨g26 _ 121 d_Fc_evolve_121, ?_⟩
  refine List.forall_mem_cons.mpr ⟨fs_load hF d_Fc_evolve_124, ?_⟩
  refine List.forall_mem_cons.mpr ⟨fs_callV hC nwl_ok hnw (cN := 3) (ci := 3) (C := R_Tr) rfl rfl ⟨callB_of 1 hts (tb_good wd_446) rfl rfl rfl (hm wd_35) (hm wd_443) pd_Tr_withoutRivals ⟨Nat.le_of_ble_eq_true rfl, Nat.le_of_ble_eq_true rfl⟩, hm wd_444, hm wd_445⟩ d_Fc_evolve_126, ?_⟩
  refine List.forall_mem_cons.mpr ⟨fs_store hF d_Fc_evolve_129 (by decide), ?_⟩
  refine List.forall_mem_cons.mpr ⟨fs_load_n hF d_Fc_evolve_131 rfl, ?_⟩
  refine List.forall_mem_cons.mpr ⟨fs_load hF d_Fc_evolve_132, ?_⟩
  refine List.forall_mem_cons.mpr ⟨fs_loada_n hF d_Fc_evolve_134 rfl, ?_⟩
  refine List.forall_mem_cons.mpr ⟨g26 _ 135 d_Fc_evolve_135, ?_⟩
  refine List.forall_mem_cons.mpr ⟨fs_load hF d_Fc_evolve_138, ?_⟩
  refine List.forall_mem_cons.mpr ⟨fs_callV hC nwl_ok hnw (cN := 3) (ci := 3) (C := R_Tr) rfl rfl ⟨callB_of 1 hts (tb_good wd_450) rfl rfl rfl (hm wd_35) (hm wd_447) pd_Tr_preceding ⟨Nat.le_of_ble_eq_true rfl, Nat.le_of_ble_eq_true rfl⟩, hm wd_448, hm wd_449⟩ d_Fc_evolve_140, ?_⟩
  refine List.forall_mem_cons.mpr ⟨fs_const hF d_Fc_evolve_143 (by decide), ?_⟩
  refine List.forall_mem_cons.mpr ⟨fs_ixor hF d_Fc_evolve_144, ?_⟩
  refine List.forall_mem_cons.mpr ⟨fs_iand hF d_Fc_evolve_145, ?_⟩
  refine List.forall_mem_cons.mpr ⟨fs_loada_n hF d_Fc_evolve_146 rfl, ?_⟩
  refine List.forall_mem_cons.mpr ⟨g26 _ 147 d_Fc_evolve_147, ?_⟩
  refine List.forall_mem_cons.mpr ⟨fs_load hF d_Fc_evolve_150, ?_⟩
  refine List.forall_mem_cons.mpr ⟨fs_callV hC nwl_ok hnw (cN := 3) (ci := 3) (C := R_Tr) rfl rfl ⟨callB_of 1 hts (tb_good wd_362) rfl rfl rfl (hm wd_35) (hm wd_359) pd_Tr_succeeding ⟨Nat.le_of_ble_eq_true rfl, Nat.le_of_ble_eq_true rfl⟩, hm wd_360, hm wd_361⟩ d_Fc_evolve_152, ?_⟩
  refine List.forall_mem_cons.mpr ⟨fs_ior hF d_Fc_evolve_155, ?_⟩
  refine List.forall_mem_cons.mpr ⟨fs_ior hF d_Fc_evolve_156, ?_⟩
  refine List.forall_mem_cons.mpr ⟨fs_store_n hF d_Fc_evolve_157 rfl (by decide), ?_⟩
  refine List.forall_mem_cons.mpr ⟨fs_load_n hF d_Fc_evolve_158 rfl, ?_⟩
  refine List.forall_mem_cons.mpr ⟨fs_load hF d_Fc_evolve_159, ?_⟩
  refine List.forall_mem_cons.mpr ⟨fs_ior hF d_Fc_evolve_161, ?_⟩
  refine List.forall_mem_cons.mpr ⟨fs_store_n hF d_Fc_evolve_162 rfl (by decide), ?_⟩
  refine List.forall_mem_cons.mpr ⟨fs_inc hF d_Fc_evolve_163 (by decide) (by decide), ?_⟩
  refine List.forall_mem_cons.mpr ⟨fs_goto hF d_Fc_evolve_166 (by decide), ?_⟩
  refine List.forall_mem_cons.mpr ⟨fs_loada_n hF d_Fc_evolve_169 rfl, ?_⟩
  refine List.forall_mem_cons.mpr ⟨g47 _ 170 d_Fc_evolve_170, ?_⟩
  refine List.forall_mem_cons.mpr ⟨fs_load_n hF d_Fc_evolve_173 rfl, ?_⟩
  refine List.forall_mem_cons.mpr ⟨fs_load_n hF d_Fc_evolve_174 rfl, ?_⟩
  refine List.forall_mem_cons.mpr ⟨fs_callV hC nwl_ok hnw (cN := 6) (ci := 6) (C := R_Ti) rfl rfl ⟨callB_of 2 hts (tb_good wd_454) rfl rfl rfl (hm wd_38) (hm wd_451) pd_Ti_moveTo ⟨Nat.le_of_ble_eq_true rfl, Nat.le_of_ble_eq_true rfl⟩, hm wd_452, hm wd_453⟩ d_Fc_evolve_175, ?_⟩
  refine List.forall_mem_cons.mpr ⟨fs_zret hC hr d_Fc_evolve_178, ?_⟩
  exact fun _ h => absurd h List.not_mem_nil
abbrev rm_Fc_comesToAnEnd : Room := { frames := 5, cells := 0, slots := 0, locals := 118 }
def ws_Fc_comesToAnEnd : List Cond := .code y_Fc_comesToAnEnd c_Fc_comesToAnEnd 2 (some .boolean) :: TB
abbrev MC_Fc_comesToAnEnd (κ : fx_K) : List fx_V → fx_S → (Int32 → fx_S → Prop) → Prop := fx_Met κ.1 κ.2.1 vwCl κ.2.2.1 κ.2.2.2 lyX nwl y_Fc_comesToAnEnd ws_Fc_comesToAnEnd rm_Fc_comesToAnEnd true
def tt_Fc_comesToAnEnd (κ : fx_K) (post : Int32 → fx_S → Prop) : List (Nat × fx_M fx_S) := [(0, fm_loada 0 1),
  (1, fm_get 0 8 4),
  (4, fm_ifne 14 7),
  (7, fm_loada 0 8),
  (8, fm_call true 0 0 (MC_Fc_evolve κ) 11),
  (11, fm_pop 12),
  (12, fm_const 1 13),
  (13, fm_zret post),
  (14, fm_const 0 15),
  (15, fm_store 1 16),
  (16, fm_load 1 17),
  (17, fm_const 511 20),
  (20, fm_cmpgt 57 23),
  (23, fm_loada 0 24),
  (24, fm_call true 0 0 (MC_Fc_evolve κ) 27),
  (27, fm_ifne 32 30),
  (30, fm_const 1 31),
  (31, fm_zret post),
  (32, fm_loada 0 33),
  (33, fm_getr 0 6 36),
  (36, fm_call false 6 0 (MC_Ti_endEdges κ) 39),
  (39, fm_loada 0 40),
  (40, fm_getr 0 6 43),
  (43, fm_call true 6 0 (MC_Ti_findsCycle κ) 46),
  (46, fm_ifeq 51 49),
  (49, fm_const 0 50),
  (50, fm_zret post),
  (51, fm_inc 1 1 54),
  (54, fm_goto 16),
  (57, fm_const 0 58),
  (58, fm_zret post)]
set_option maxHeartbeats 4000000 in
set_option maxRecDepth 100000 in
theorem mo_Fc_comesToAnEnd {κ : fx_K} (hq : fx_I κ lyX.length) {av : List fx_V} {S : fx_S} {post : Int32 → fx_S → Prop} (hlen : av.length ≤ 2) (body : ∀ J : fx_J fx_S, (∀ r ∈ tt_Fc_comesToAnEnd κ post, fx_Snd J r.1 r.2) → (∀ pc k ls st S, J pc (ls.take k) st S → J pc ls st S) → J 0 av [] S) : MC_Fc_comesToAnEnd κ av S post := by
  refine fx_Met_of (cc := c_Fc_comesToAnEnd) (nL := 2) (ret := (some .boolean)) (by decide) rfl hq hlen ?_
  intro p e s m args below meth c hC hr hnw
  refine body _ ?_ fx_W_take
  have hF := hC.1
  have hts := hC.1.2.2.2.2
  have hm : ∀ {w : Cond}, w ∈ TB → w.before args s = true := fun h => hts _ (List.mem_cons_of_mem _ h)
  have g126 : ∀ (Q : State → Prop) (pc : Nat), decode c_Fc_comesToAnEnd pc = .ok (.getfield 126, 3) → fx_Snd (fx_W p κ.1 e rm_Fc_comesToAnEnd s m args below meth c Q (fx_A κ.2.2.2 lyX.length) 0 0 (fx_P κ.2.1 vwCl κ.2.2.1 κ.2.2.2 lyX) κ.2.2.2 2) pc (fm_get 0 8 (pc + 3)) := fun Q pc hd => fs_get hC (cN := 0) (j := 8) (ci := 0) (C := R_Fc) (T := T_Fc) (N := 17) rfl rfl rfl (by decide) (fun w h => List.mem_cons_of_mem _ (in_Fc w h)) (hm wd_226) hd
  have g47 : ∀ (Q : State → Prop) (pc : Nat), decode c_Fc_comesToAnEnd pc = .ok (.getfield 47, 3) → fx_Snd (fx_W p κ.1 e rm_Fc_comesToAnEnd s m args below meth c Q (fx_A κ.2.2.2 lyX.length) 0 0 (fx_P κ.2.1 vwCl κ.2.2.1 κ.2.2.2 lyX) κ.2.2.2 2) pc (fm_getr 0 6 (pc + 3)) := fun Q pc hd => fs_getr hC (cN := 0) (j := 5) (ci := 0) (C := R_Fc) (T := T_Fc) (N := 17) rfl rfl rfl (by decide) (fun w h => List.mem_cons_of_mem _ (in_Fc w h)) (hm wd_223) hd
  refine List.forall_mem_cons.mpr ⟨fs_loada_n hF d_Fc_comesToAnEnd_0 rfl, ?_⟩
  refine List.forall_mem_cons.mpr ⟨g126 _ 1 d_Fc_comesToAnEnd_1, ?_⟩
  refine List.forall_mem_cons.mpr ⟨fs_ifne hF d_Fc_comesToAnEnd_4 (by decide), ?_⟩
  refine List.forall_mem_cons.mpr ⟨fs_loada_n hF d_Fc_comesToAnEnd_7 rfl, ?_⟩
  refine List.forall_mem_cons.mpr ⟨fs_callV hC nwl_ok hnw (cN := 0) (ci := 0) (C := R_Fc) rfl rfl ⟨callB_of 0 hts (tb_good wd_419) rfl rfl rfl (hm wd_32) (hm wd_416) pd_Fc_evolve ⟨Nat.le_of_ble_eq_true rfl, Nat.le_of_ble_eq_true rfl⟩, hm wd_418, hm wd_5⟩ d_Fc_comesToAnEnd_8, ?_⟩
  refine List.forall_mem_cons.mpr ⟨fs_pop hF d_Fc_comesToAnEnd_11, ?_⟩
  refine List.forall_mem_cons.mpr ⟨fs_const hF d_Fc_comesToAnEnd_12 (by decide), ?_⟩
  refine List.forall_mem_cons.mpr ⟨fs_zret hC hr d_Fc_comesToAnEnd_13, ?_⟩
  refine List.forall_mem_cons.mpr ⟨fs_const hF d_Fc_comesToAnEnd_14 (by decide), ?_⟩
  refine List.forall_mem_cons.mpr ⟨fs_store_n hF d_Fc_comesToAnEnd_15 rfl (by decide), ?_⟩
  refine List.forall_mem_cons.mpr ⟨fs_load_n hF d_Fc_comesToAnEnd_16 rfl, ?_⟩
  refine List.forall_mem_cons.mpr ⟨fs_sipush hF d_Fc_comesToAnEnd_17 (by decide), ?_⟩
  refine List.forall_mem_cons.mpr ⟨fs_cmpgt hF d_Fc_comesToAnEnd_20 (by decide), ?_⟩
  refine List.forall_mem_cons.mpr ⟨fs_loada_n hF d_Fc_comesToAnEnd_23 rfl, ?_⟩
  refine List.forall_mem_cons.mpr ⟨fs_callV hC nwl_ok hnw (cN := 0) (ci := 0) (C := R_Fc) rfl rfl ⟨callB_of 0 hts (tb_good wd_419) rfl rfl rfl (hm wd_32) (hm wd_416) pd_Fc_evolve ⟨Nat.le_of_ble_eq_true rfl, Nat.le_of_ble_eq_true rfl⟩, hm wd_418, hm wd_5⟩ d_Fc_comesToAnEnd_24, ?_⟩
  refine List.forall_mem_cons.mpr ⟨fs_ifne hF d_Fc_comesToAnEnd_27 (by decide), ?_⟩
  refine List.forall_mem_cons.mpr ⟨fs_const hF d_Fc_comesToAnEnd_30 (by decide), ?_⟩
  refine List.forall_mem_cons.mpr ⟨fs_zret hC hr d_Fc_comesToAnEnd_31, ?_⟩
  refine List.forall_mem_cons.mpr ⟨fs_loada_n hF d_Fc_comesToAnEnd_32 rfl, ?_⟩
  refine List.forall_mem_cons.mpr ⟨g47 _ 33 d_Fc_comesToAnEnd_33, ?_⟩
  refine List.forall_mem_cons.mpr ⟨fs_callV hC nwl_ok hnw (cN := 6) (ci := 6) (C := R_Ti) rfl rfl ⟨callB_of 0 hts (tb_good wd_458) rfl rfl rfl (hm wd_38) (hm wd_455) pd_Ti_endEdges ⟨Nat.le_of_ble_eq_true rfl, Nat.le_of_ble_eq_true rfl⟩, hm wd_456, hm wd_457⟩ d_Fc_comesToAnEnd_36, ?_⟩
  refine List.forall_mem_cons.mpr ⟨fs_loada_n hF d_Fc_comesToAnEnd_39 rfl, ?_⟩
  refine List.forall_mem_cons.mpr ⟨g47 _ 40 d_Fc_comesToAnEnd_40, ?_⟩
  refine List.forall_mem_cons.mpr ⟨fs_callV hC nwl_ok hnw (cN := 6) (ci := 6) (C := R_Ti) rfl rfl ⟨callB_of 0 hts (tb_good wd_462) rfl rfl rfl (hm wd_38) (hm wd_459) pd_Ti_findsCycle ⟨Nat.le_of_ble_eq_true rfl, Nat.le_of_ble_eq_true rfl⟩, hm wd_460, hm wd_461⟩ d_Fc_comesToAnEnd_43, ?_⟩
  refine List.forall_mem_cons.mpr ⟨fs_ifeq hF d_Fc_comesToAnEnd_46 (by decide), ?_⟩
  refine List.forall_mem_cons.mpr ⟨fs_const hF d_Fc_comesToAnEnd_49 (by decide), ?_⟩
  refine List.forall_mem_cons.mpr ⟨fs_zret hC hr d_Fc_comesToAnEnd_50, ?_⟩
  refine List.forall_mem_cons.mpr ⟨fs_inc hF d_Fc_comesToAnEnd_51 (by decide) (by decide), ?_⟩
  refine List.forall_mem_cons.mpr ⟨fs_goto hF d_Fc_comesToAnEnd_54 (by decide), ?_⟩
  refine List.forall_mem_cons.mpr ⟨fs_const hF d_Fc_comesToAnEnd_57 (by decide), ?_⟩
  refine List.forall_mem_cons.mpr ⟨fs_zret hC hr d_Fc_comesToAnEnd_58, ?_⟩
  exact fun _ h => absurd h List.not_mem_nil
abbrev rm_Fc_keepTrial : Room := { frames := 3, cells := 0, slots := 0, locals := 76 }
def ws_Fc_keepTrial : List Cond := .code y_Fc_keepTrial c_Fc_keepTrial 3 none :: TB
abbrev MC_Fc_keepTrial (κ : fx_K) : List fx_V → fx_S → (Int32 → fx_S → Prop) → Prop := fx_Met κ.1 κ.2.1 vwCl κ.2.2.1 κ.2.2.2 lyX nwl y_Fc_keepTrial ws_Fc_keepTrial rm_Fc_keepTrial false
def tt_Fc_keepTrial (κ : fx_K) (post : Int32 → fx_S → Prop) : List (Nat × fx_M fx_S) := [(0, fm_loada 0 1),
  (1, fm_loada 0 2),
  (2, fm_getr 0 6 5),
  (5, fm_get 6 5 8),
  (8, fm_put 0 9 11),
  (11, fm_const 0 12),
  (12, fm_store 2 13),
  (13, fm_load 2 14),
  (14, fm_const 8 16),
  (16, fm_cmpge 39 19),
  (19, fm_loada 0 20),
  (20, fm_getr 0 7 23),
  (23, fm_load 2 24),
  (24, fm_loada 0 25),
  (25, fm_getr 0 6 28),
  (28, fm_load 2 29),
  (29, fm_call true 6 1 (MC_Ti_timeOf κ) 32),
  (32, fm_ast lnXI 33),
  (33, fm_inc 2 1 36),
  (36, fm_goto 13),
  (39, fm_loada 0 40),
  (40, fm_loada 0 41),
  (41, fm_getr 0 6 44),
  (44, fm_get 6 8 47),
  (47, fm_put 0 13 50),
  (50, fm_loada 0 51),
  (51, fm_loada 0 52),
  (52, fm_getr 0 6 55),
  (55, fm_get 6 7 58),
  (58, fm_put 0 14 61),
  (61, fm_loada 0 62),
  (62, fm_getr 0 5 65),
  (65, fm_load 1 66),
  (66, fm_call false 5 1 (MC_Ac_grow κ) 69),
  (69, fm_loada 0 70),
  (70, fm_loada 0 71),
  (71, fm_getr 0 5 74),
  (74, fm_loada 0 75),
  (75, fm_get 0 9 78),
  (78, fm_loada 0 79),
  (79, fm_get 0 10 82),
  (82, fm_loada 0 83),
  (83, fm_getr 0 7 86),
  (86, fm_call true 5 3 (MC_Ac_workOut κ) 89),
  (89, fm_put 0 12 92),
  (92, fm_loada 0 93),
  (93, fm_loada 0 94),
  (94, fm_get 0 9 97),
  (97, fm_put 0 10 100),
  (100, fm_vret post)]
set_option maxHeartbeats 4000000 in
set_option maxRecDepth 100000 in
theorem mo_Fc_keepTrial {κ : fx_K} (hq : fx_I κ lyX.length) {av : List fx_V} {S : fx_S} {post : Int32 → fx_S → Prop} (hlen : av.length ≤ 3) (body : ∀ J : fx_J fx_S, (∀ r ∈ tt_Fc_keepTrial κ post, fx_Snd J r.1 r.2) → (∀ pc k ls st S, J pc (ls.take k) st S → J pc ls st S) → J 0 av [] S) : MC_Fc_keepTrial κ av S post := by
  refine fx_Met_of (cc := c_Fc_keepTrial) (nL := 3) (ret := none) (by decide) rfl hq hlen ?_
  intro p e s m args below meth c hC hr hnw
  refine body _ ?_ fx_W_take
  have hF := hC.1
  have hts := hC.1.2.2.2.2
  have hm : ∀ {w : Cond}, w ∈ TB → w.before args s = true := fun h => hts _ (List.mem_cons_of_mem _ h)
  have g47 : ∀ (Q : State → Prop) (pc : Nat), decode c_Fc_keepTrial pc = .ok (.getfield 47, 3) → fx_Snd (fx_W p κ.1 e rm_Fc_keepTrial s m args below meth c Q (fx_A κ.2.2.2 lyX.length) 0 0 (fx_P κ.2.1 vwCl κ.2.2.1 κ.2.2.2 lyX) κ.2.2.2 3) pc (fm_getr 0 6 (pc + 3)) := fun Q pc hd => fs_getr hC (cN := 0) (j := 5) (ci := 0) (C := R_Fc) (T := T_Fc) (N := 17) rfl rfl rfl (by decide) (fun w h => List.mem_cons_of_mem _ (in_Fc w h)) (hm wd_223) hd
  have g186 : ∀ (Q : State → Prop) (pc : Nat), decode c_Fc_keepTrial pc = .ok (.getfield 186, 3) → fx_Snd (fx_W p κ.1 e rm_Fc_keepTrial s m args below meth c Q (fx_A κ.2.2.2 lyX.length) 0 0 (fx_P κ.2.1 vwCl κ.2.2.1 κ.2.2.2 lyX) κ.2.2.2 3) pc (fm_get 6 5 (pc + 3)) := fun Q pc hd => fs_getN hC (cN := 6) (j := 5) (ci := 6) (C := R_Ti) (T := T_Ti) (N := 11) rfl rfl rfl (by decide) (fun w h => List.mem_cons_of_mem _ (in_Ti w h)) (hnw _ (List.mem_of_getElem? (i := 19) rfl)) hd
  have g51 : ∀ (Q : State → Prop) (pc : Nat), decode c_Fc_keepTrial pc = .ok (.getfield 51, 3) → fx_Snd (fx_W p κ.1 e rm_Fc_keepTrial s m args below meth c Q (fx_A κ.2.2.2 lyX.length) 0 0 (fx_P κ.2.1 vwCl κ.2.2.1 κ.2.2.2 lyX) κ.2.2.2 3) pc (fm_getr 0 7 (pc + 3)) := fun Q pc hd => fs_getr hC (cN := 0) (j := 6) (ci := 0) (C := R_Fc) (T := T_Fc) (N := 17) rfl rfl rfl (by decide) (fun w h => List.mem_cons_of_mem _ (in_Fc w h)) (hm wd_224) hd
  have g215 : ∀ (Q : State → Prop) (pc : Nat), decode c_Fc_keepTrial pc = .ok (.getfield 215, 3) → fx_Snd (fx_W p κ.1 e rm_Fc_keepTrial s m args below meth c Q (fx_A κ.2.2.2 lyX.length) 0 0 (fx_P κ.2.1 vwCl κ.2.2.1 κ.2.2.2 lyX) κ.2.2.2 3) pc (fm_get 6 8 (pc + 3)) := fun Q pc hd => fs_getN hC (cN := 6) (j := 8) (ci := 6) (C := R_Ti) (T := T_Ti) (N := 11) rfl rfl rfl (by decide) (fun w h => List.mem_cons_of_mem _ (in_Ti w h)) (hnw _ (List.mem_of_getElem? (i := 21) rfl)) hd
  have g218 : ∀ (Q : State → Prop) (pc : Nat), decode c_Fc_keepTrial pc = .ok (.getfield 218, 3) → fx_Snd (fx_W p κ.1 e rm_Fc_keepTrial s m args below meth c Q (fx_A κ.2.2.2 lyX.length) 0 0 (fx_P κ.2.1 vwCl κ.2.2.1 κ.2.2.2 lyX) κ.2.2.2 3) pc (fm_get 6 7 (pc + 3)) := fun Q pc hd => fs_getN hC (cN := 6) (j := 7) (ci := 6) (C := R_Ti) (T := T_Ti) (N := 11) rfl rfl rfl (by decide) (fun w h => List.mem_cons_of_mem _ (in_Ti w h)) (hnw _ (List.mem_of_getElem? (i := 20) rfl)) hd
  have g40 : ∀ (Q : State → Prop) (pc : Nat), decode c_Fc_keepTrial pc = .ok (.getfield 40, 3) → fx_Snd (fx_W p κ.1 e rm_Fc_keepTrial s m args below meth c Q (fx_A κ.2.2.2 lyX.length) 0 0 (fx_P κ.2.1 vwCl κ.2.2.1 κ.2.2.2 lyX) κ.2.2.2 3) pc (fm_getr 0 5 (pc + 3)) := fun Q pc hd => fs_getr hC (cN := 0) (j := 4) (ci := 0) (C := R_Fc) (T := T_Fc) (N := 17) rfl rfl rfl (by decide) (fun w h => List.mem_cons_of_mem _ (in_Fc w h)) (hm wd_222) hd
  have g129 : ∀ (Q : State → Prop) (pc : Nat), decode c_Fc_keepTrial pc = .ok (.getfield 129, 3) → fx_Snd (fx_W p κ.1 e rm_Fc_keepTrial s m args below meth c Q (fx_A κ.2.2.2 lyX.length) 0 0 (fx_P κ.2.1 vwCl κ.2.2.1 κ.2.2.2 lyX) κ.2.2.2 3) pc (fm_get 0 9 (pc + 3)) := fun Q pc hd => fs_get hC (cN := 0) (j := 9) (ci := 0) (C := R_Fc) (T := T_Fc) (N := 17) rfl rfl rfl (by decide) (fun w h => List.mem_cons_of_mem _ (in_Fc w h)) (hm wd_227) hd
  have g174 : ∀ (Q : State → Prop) (pc : Nat), decode c_Fc_keepTrial pc = .ok (.getfield 174, 3) → fx_Snd (fx_W p κ.1 e rm_Fc_keepTrial s m args below meth c Q (fx_A κ.2.2.2 lyX.length) 0 0 (fx_P κ.2.1 vwCl κ.2.2.1 κ.2.2.2 lyX) κ.2.2.2 3) pc (fm_get 0 10 (pc + 3)) := fun Q pc hd => fs_get hC (cN := 0) (j := 10) (ci := 0) (C := R_Fc) (T := T_Fc) (N := 17) rfl rfl rfl (by decide) (fun w h => List.mem_cons_of_mem _ (in_Fc w h)) (hm wd_228) hd
  refine List.forall_mem_cons.mpr ⟨fs_loada_n hF d_Fc_keepTrial_0 rfl, ?_⟩
  refine List.forall_mem_cons.mpr ⟨fs_loada_n hF d_Fc_keepTrial_1 rfl, ?_⟩
  refine List.forall_mem_cons.mpr ⟨g47 _ 2 d_Fc_keepTrial_2, ?_⟩
  refine List.forall_mem_cons.mpr ⟨g186 _ 5 d_Fc_keepTrial_5, ?_⟩
  refine List.forall_mem_cons.mpr ⟨fs_put hC (cN := 0) (j := 9) (ci := 0) (C := R_Fc) (T := T_Fc) (N := 17) rfl rfl rfl (by decide) ty_Fc tk_Fc nm_Fc rfl (by decide +kernel) (fun w h => List.mem_cons_of_mem _ (in_Fc w h)) (hm wd_227) d_Fc_keepTrial_8, ?_⟩
  refine List.forall_mem_cons.mpr ⟨fs_const hF d_Fc_keepTrial_11 (by decide), ?_⟩
  refine List.forall_mem_cons.mpr ⟨fs_store_n hF d_Fc_keepTrial_12 rfl (by decide), ?_⟩
  refine List.forall_mem_cons.mpr ⟨fs_load_n hF d_Fc_keepTrial_13 rfl, ?_⟩
  refine List.forall_mem_cons.mpr ⟨fs_bipush hF d_Fc_keepTrial_14 (by decide), ?_⟩
  refine List.forall_mem_cons.mpr ⟨fs_cmpge hF d_Fc_keepTrial_16 (by decide), ?_⟩
  refine List.forall_mem_cons.mpr ⟨fs_loada_n hF d_Fc_keepTrial_19 rfl, ?_⟩
  refine List.forall_mem_cons.mpr ⟨g51 _ 20 d_Fc_keepTrial_20, ?_⟩
  refine List.forall_mem_cons.mpr ⟨fs_load_n hF d_Fc_keepTrial_23 rfl, ?_⟩
  refine List.forall_mem_cons.mpr ⟨fs_loada_n hF d_Fc_keepTrial_24 rfl, ?_⟩
  refine List.forall_mem_cons.mpr ⟨g47 _ 25 d_Fc_keepTrial_25, ?_⟩
  refine List.forall_mem_cons.mpr ⟨fs_load_n hF d_Fc_keepTrial_28 rfl, ?_⟩
  refine List.forall_mem_cons.mpr ⟨fs_callV hC nwl_ok hnw (cN := 6) (ci := 6) (C := R_Ti) rfl rfl ⟨callB_of 1 hts (tb_good wd_432) rfl rfl rfl (hm wd_38) (hm wd_467) pd_Ti_timeOf ⟨Nat.le_of_ble_eq_true rfl, Nat.le_of_ble_eq_true rfl⟩, hm wd_430, hm wd_431⟩ d_Fc_keepTrial_29, ?_⟩
  refine List.forall_mem_cons.mpr ⟨fs_ast hC lkXI d_Fc_keepTrial_32, ?_⟩
  refine List.forall_mem_cons.mpr ⟨fs_inc hF d_Fc_keepTrial_33 (by decide) (by decide), ?_⟩
  refine List.forall_mem_cons.mpr ⟨fs_goto hF d_Fc_keepTrial_36 (by decide), ?_⟩
  refine List.forall_mem_cons.mpr ⟨fs_loada_n hF d_Fc_keepTrial_39 rfl, ?_⟩
  refine List.forall_mem_cons.mpr ⟨fs_loada_n hF d_Fc_keepTrial_40 rfl, ?_⟩
  refine List.forall_mem_cons.mpr ⟨g47 _ 41 d_Fc_keepTrial_41, ?_⟩
  refine List.forall_mem_cons.mpr ⟨g215 _ 44 d_Fc_keepTrial_44, ?_⟩
  refine List.forall_mem_cons.mpr ⟨fs_put hC (cN := 0) (j := 13) (ci := 0) (C := R_Fc) (T := T_Fc) (N := 17) rfl rfl rfl (by decide) ty_Fc tk_Fc nm_Fc rfl (by decide +kernel) (fun w h => List.mem_cons_of_mem _ (in_Fc w h)) (hm wd_231) d_Fc_keepTrial_47, ?_⟩
  refine List.forall_mem_cons.mpr ⟨fs_loada_n hF d_Fc_keepTrial_50 rfl, ?_⟩
  refine List.forall_mem_cons.mpr ⟨fs_loada_n hF d_Fc_keepTrial_51 rfl, ?_⟩
  refine List.forall_mem_cons.mpr ⟨g47 _ 52 d_Fc_keepTrial_52, ?_⟩
  refine List.forall_mem_cons.mpr ⟨g218 _ 55 d_Fc_keepTrial_55, ?_⟩
  refine List.forall_mem_cons.mpr ⟨fs_put hC (cN := 0) (j := 14) (ci := 0) (C := R_Fc) (T := T_Fc) (N := 17) rfl rfl rfl (by decide) ty_Fc tk_Fc nm_Fc rfl (by decide +kernel) (fun w h => List.mem_cons_of_mem _ (in_Fc w h)) (hm wd_232) d_Fc_keepTrial_58, ?_⟩
  refine List.forall_mem_cons.mpr ⟨fs_loada_n hF d_Fc_keepTrial_61 rfl, ?_⟩
  refine List.forall_mem_cons.mpr ⟨g40 _ 62 d_Fc_keepTrial_62, ?_⟩
  refine List.forall_mem_cons.mpr ⟨fs_load_n hF d_Fc_keepTrial_65 rfl, ?_⟩
  refine List.forall_mem_cons.mpr ⟨fs_callV hC nwl_ok hnw (cN := 5) (ci := 5) (C := R_Ac) rfl rfl ⟨callB_of 1 hts (tb_good wd_471) rfl rfl rfl (hm wd_37) (hm wd_468) pd_Ac_grow ⟨Nat.le_of_ble_eq_true rfl, Nat.le_of_ble_eq_true rfl⟩, hm wd_469, hm wd_470⟩ d_Fc_keepTrial_66, ?_⟩
  refine List.forall_mem_cons.mpr ⟨fs_loada_n hF d_Fc_keepTrial_69 rfl, ?_⟩
  refine List.forall_mem_cons.mpr ⟨fs_loada_n hF d_Fc_keepTrial_70 rfl, ?_⟩
  refine List.forall_mem_cons.mpr ⟨g40 _ 71 d_Fc_keepTrial_71, ?_⟩
  refine List.forall_mem_cons.mpr ⟨fs_loada_n hF d_Fc_keepTrial_74 rfl, ?_⟩
  refine List.forall_mem_cons.mpr ⟨g129 _ 75 d_Fc_keepTrial_75, ?_⟩
  refine List.forall_mem_cons.mpr ⟨fs_loada_n hF d_Fc_keepTrial_78 rfl, ?_⟩
  refine List.forall_mem_cons.mpr ⟨g174 _ 79 d_Fc_keepTrial_79, ?_⟩
  refine List.forall_mem_cons.mpr ⟨fs_loada_n hF d_Fc_keepTrial_82 rfl, ?_⟩
  refine List.forall_mem_cons.mpr ⟨g51 _ 83 d_Fc_keepTrial_83, ?_⟩
  refine List.forall_mem_cons.mpr ⟨fs_callV hC nwl_ok hnw (cN := 5) (ci := 5) (C := R_Ac) rfl rfl ⟨callB_of 3 hts (tb_good wd_476) rfl rfl rfl (hm wd_37) (hm wd_473) pd_Ac_workOut ⟨Nat.le_of_ble_eq_true rfl, Nat.le_of_ble_eq_true rfl⟩, hm wd_474, hm wd_475⟩ d_Fc_keepTrial_86, ?_⟩
  refine List.forall_mem_cons.mpr ⟨fs_put hC (cN := 0) (j := 12) (ci := 0) (C := R_Fc) (T := T_Fc) (N := 17) rfl rfl rfl (by decide) ty_Fc tk_Fc nm_Fc rfl (by decide +kernel) (fun w h => List.mem_cons_of_mem _ (in_Fc w h)) (hm wd_230) d_Fc_keepTrial_89, ?_⟩
  refine List.forall_mem_cons.mpr ⟨fs_loada_n hF d_Fc_keepTrial_92 rfl, ?_⟩
  refine List.forall_mem_cons.mpr ⟨fs_loada_n hF d_Fc_keepTrial_93 rfl, ?_⟩
  refine List.forall_mem_cons.mpr ⟨g129 _ 94 d_Fc_keepTrial_94, ?_⟩
  refine List.forall_mem_cons.mpr ⟨fs_put hC (cN := 0) (j := 10) (ci := 0) (C := R_Fc) (T := T_Fc) (N := 17) rfl rfl rfl (by decide) ty_Fc tk_Fc nm_Fc rfl (by decide +kernel) (fun w h => List.mem_cons_of_mem _ (in_Fc w h)) (hm wd_228) d_Fc_keepTrial_97, ?_⟩
  refine List.forall_mem_cons.mpr ⟨fs_vret hC hr d_Fc_keepTrial_100, ?_⟩
  exact fun _ h => absurd h List.not_mem_nil
abbrev rm_Fc_scan : Room := { frames := 6, cells := 0, slots := 0, locals := 139 }
def ws_Fc_scan : List Cond := .code y_Fc_scan c_Fc_scan 5 (some .int) :: TB
abbrev MC_Fc_scan (κ : fx_K) : List fx_V → fx_S → (Int32 → fx_S → Prop) → Prop := fx_Met κ.1 κ.2.1 vwCl κ.2.2.1 κ.2.2.2 lyX nwl y_Fc_scan ws_Fc_scan rm_Fc_scan true
def tt_Fc_scan (κ : fx_K) (post : Int32 → fx_S → Prop) : List (Nat × fx_M fx_S) := [(0, fm_loada 0 1),
  (1, fm_get 0 7 4),
  (4, fm_ifeq 14 7),
  (7, fm_load 2 8),
  (8, fm_calls true 1 (MC_Fc_isSpan κ) 11),
  (11, fm_ifne 17 14),
  (14, fm_const (-2) 16),
  (16, fm_ret post),
  (17, fm_load 1 18),
  (18, fm_const 255 21),
  (21, fm_iand 22),
  (22, fm_store 3 23),
  (23, fm_loada 0 24),
  (24, fm_getr 0 6 27),
  (27, fm_loada 0 28),
  (28, fm_get 0 9 31),
  (31, fm_loada 0 32),
  (32, fm_getr 0 7 35),
  (35, fm_load 2 36),
  (36, fm_call false 6 3 (MC_Ti_begin κ) 39),
  (39, fm_loada 0 40),
  (40, fm_getr 0 6 43),
  (43, fm_loada 0 44),
  (44, fm_get 0 11 47),
  (47, fm_load 3 48),
  (48, fm_call false 6 2 (MC_Ti_sense κ) 51),
  (51, fm_loada 0 52),
  (52, fm_call true 0 0 (MC_Fc_comesToAnEnd κ) 55),
  (55, fm_store 4 57),
  (57, fm_loada 0 58),
  (58, fm_loada 0 59),
  (59, fm_getr 0 6 62),
  (62, fm_get 6 9 65),
  (65, fm_put 0 15 68),
  (68, fm_loada 0 69),
  (69, fm_loada 0 70),
  (70, fm_getr 0 6 73),
  (73, fm_get 6 10 76),
  (76, fm_put 0 16 79),
  (79, fm_load 4 81),
  (81, fm_ifne 86 84),
  (84, fm_const (-1) 85),
  (85, fm_ret post),
  (86, fm_loada 0 87),
  (87, fm_load 3 88),
  (88, fm_put 0 11 91),
  (91, fm_loada 0 92),
  (92, fm_load 2 93),
  (93, fm_call false 0 1 (MC_Fc_keepTrial κ) 96),
  (96, fm_loada 0 97),
  (97, fm_get 0 13 100),
  (100, fm_ret post)]
set_option maxHeartbeats 4000000 in
set_option maxRecDepth 100000 in
theorem mo_Fc_scan {κ : fx_K} (hq : fx_I κ lyX.length) {av : List fx_V} {S : fx_S} {post : Int32 → fx_S → Prop} (hlen : av.length ≤ 5) (body : ∀ J : fx_J fx_S, (∀ r ∈ tt_Fc_scan κ post, fx_Snd J r.1 r.2) → (∀ pc k ls st S, J pc (ls.take k) st S → J pc ls st S) → J 0 av [] S) : MC_Fc_scan κ av S post := by
  refine fx_Met_of (cc := c_Fc_scan) (nL := 5) (ret := (some .int)) (by decide) rfl hq hlen ?_
  intro p e s m args below meth c hC hr hnw
  refine body _ ?_ fx_W_take
  have hF := hC.1
  have hts := hC.1.2.2.2.2
  have hm : ∀ {w : Cond}, w ∈ TB → w.before args s = true := fun h => hts _ (List.mem_cons_of_mem _ h)
  have g55 : ∀ (Q : State → Prop) (pc : Nat), decode c_Fc_scan pc = .ok (.getfield 55, 3) → fx_Snd (fx_W p κ.1 e rm_Fc_scan s m args below meth c Q (fx_A κ.2.2.2 lyX.length) 0 0 (fx_P κ.2.1 vwCl κ.2.2.1 κ.2.2.2 lyX) κ.2.2.2 5) pc (fm_get 0 7 (pc + 3)) := fun Q pc hd => fs_get hC (cN := 0) (j := 7) (ci := 0) (C := R_Fc) (T := T_Fc) (N := 17) rfl rfl rfl (by decide) (fun w h => List.mem_cons_of_mem _ (in_Fc w h)) (hm wd_225) hd
  have g47 : ∀ (Q : State → Prop) (pc : Nat), decode c_Fc_scan pc = .ok (.getfield 47, 3) → fx_Snd (fx_W p κ.1 e rm_Fc_scan s m args below meth c Q (fx_A κ.2.2.2 lyX.length) 0 0 (fx_P κ.2.1 vwCl κ.2.2.1 κ.2.2.2 lyX) κ.2.2.2 5) pc (fm_getr 0 6 (pc + 3)) := fun Q pc hd => fs_getr hC (cN := 0) (j := 5) (ci := 0) (C := R_Fc) (T := T_Fc) (N := 17) rfl rfl rfl (by decide) (fun w h => List.mem_cons_of_mem _ (in_Fc w h)) (hm wd_223) hd
  have g129 : ∀ (Q : State → Prop) (pc : Nat), decode c_Fc_scan pc = .ok (.getfield 129, 3) → fx_Snd (fx_W p κ.1 e rm_Fc_scan s m args below meth c Q (fx_A κ.2.2.2 lyX.length) 0 0 (fx_P κ.2.1 vwCl κ.2.2.1 κ.2.2.2 lyX) κ.2.2.2 5) pc (fm_get 0 9 (pc + 3)) := fun Q pc hd => fs_get hC (cN := 0) (j := 9) (ci := 0) (C := R_Fc) (T := T_Fc) (N := 17) rfl rfl rfl (by decide) (fun w h => List.mem_cons_of_mem _ (in_Fc w h)) (hm wd_227) hd
  have g51 : ∀ (Q : State → Prop) (pc : Nat), decode c_Fc_scan pc = .ok (.getfield 51, 3) → fx_Snd (fx_W p κ.1 e rm_Fc_scan s m args below meth c Q (fx_A κ.2.2.2 lyX.length) 0 0 (fx_P κ.2.1 vwCl κ.2.2.1 κ.2.2.2 lyX) κ.2.2.2 5) pc (fm_getr 0 7 (pc + 3)) := fun Q pc hd => fs_getr hC (cN := 0) (j := 6) (ci := 0) (C := R_Fc) (T := T_Fc) (N := 17) rfl rfl rfl (by decide) (fun w h => List.mem_cons_of_mem _ (in_Fc w h)) (hm wd_224) hd
  have g136 : ∀ (Q : State → Prop) (pc : Nat), decode c_Fc_scan pc = .ok (.getfield 136, 3) → fx_Snd (fx_W p κ.1 e rm_Fc_scan s m args below meth c Q (fx_A κ.2.2.2 lyX.length) 0 0 (fx_P κ.2.1 vwCl κ.2.2.1 κ.2.2.2 lyX) κ.2.2.2 5) pc (fm_get 0 11 (pc + 3)) := fun Q pc hd => fs_get hC (cN := 0) (j := 11) (ci := 0) (C := R_Fc) (T := T_Fc) (N := 17) rfl rfl rfl (by decide) (fun w h => List.mem_cons_of_mem _ (in_Fc w h)) (hm wd_229) hd
  have g147 : ∀ (Q : State → Prop) (pc : Nat), decode c_Fc_scan pc = .ok (.getfield 147, 3) → fx_Snd (fx_W p κ.1 e rm_Fc_scan s m args below meth c Q (fx_A κ.2.2.2 lyX.length) 0 0 (fx_P κ.2.1 vwCl κ.2.2.1 κ.2.2.2 lyX) κ.2.2.2 5) pc (fm_get 6 9 (pc + 3)) := fun Q pc hd => fs_getN hC (cN := 6) (j := 9) (ci := 6) (C := R_Ti) (T := T_Ti) (N := 11) rfl rfl rfl (by decide) (fun w h => List.mem_cons_of_mem _ (in_Ti w h)) (hnw _ (List.mem_of_getElem? (i := 22) rfl)) hd
  have g151 : ∀ (Q : State → Prop) (pc : Nat), decode c_Fc_scan pc = .ok (.getfield 151, 3) → fx_Snd (fx_W p κ.1 e rm_Fc_scan s m args below meth c Q (fx_A κ.2.2.2 lyX.length) 0 0 (fx_P κ.2.1 vwCl κ.2.2.1 κ.2.2.2 lyX) κ.2.2.2 5) pc (fm_get 6 10 (pc + 3)) := fun Q pc hd => fs_getN hC (cN := 6) (j := 10) (ci := 6) (C := R_Ti) (T := T_Ti) (N := 11) rfl rfl rfl (by decide) (fun w h => List.mem_cons_of_mem _ (in_Ti w h)) (hnw _ (List.mem_of_getElem? (i := 23) rfl)) hd
  have g159 : ∀ (Q : State → Prop) (pc : Nat), decode c_Fc_scan pc = .ok (.getfield 159, 3) → fx_Snd (fx_W p κ.1 e rm_Fc_scan s m args below meth c Q (fx_A κ.2.2.2 lyX.length) 0 0 (fx_P κ.2.1 vwCl κ.2.2.1 κ.2.2.2 lyX) κ.2.2.2 5) pc (fm_get 0 13 (pc + 3)) := fun Q pc hd => fs_get hC (cN := 0) (j := 13) (ci := 0) (C := R_Fc) (T := T_Fc) (N := 17) rfl rfl rfl (by decide) (fun w h => List.mem_cons_of_mem _ (in_Fc w h)) (hm wd_231) hd
  refine List.forall_mem_cons.mpr ⟨fs_loada_n hF d_Fc_scan_0 rfl, ?_⟩
  refine List.forall_mem_cons.mpr ⟨g55 _ 1 d_Fc_scan_1, ?_⟩
  refine List.forall_mem_cons.mpr ⟨fs_ifeq hF d_Fc_scan_4 (by decide), ?_⟩
  refine List.forall_mem_cons.mpr ⟨fs_load_n hF d_Fc_scan_7 rfl, ?_⟩
  refine List.forall_mem_cons.mpr ⟨fs_callS hC nwl_ok hnw ⟨callB_of 1 hts (tb_good wd_295) rfl rfl rfl (hm wd_32) (hm wd_346) pd_Fc_isSpan ⟨Nat.le_of_ble_eq_true rfl, Nat.le_of_ble_eq_true rfl⟩, hm wd_294⟩ d_Fc_scan_8, ?_⟩
  refine List.forall_mem_cons.mpr ⟨fs_ifne hF d_Fc_scan_11 (by decide), ?_⟩
  refine List.forall_mem_cons.mpr ⟨fs_bipush hF d_Fc_scan_14 (by decide), ?_⟩
  refine List.forall_mem_cons.mpr ⟨fs_ret hC hr d_Fc_scan_16, ?_⟩
  refine List.forall_mem_cons.mpr ⟨fs_load_n hF d_Fc_scan_17 rfl, ?_⟩
  refine List.forall_mem_cons.mpr ⟨fs_sipush hF d_Fc_scan_18 (by decide), ?_⟩
  refine List.forall_mem_cons.mpr ⟨fs_iand hF d_Fc_scan_21, ?_⟩
  refine List.forall_mem_cons.mpr ⟨fs_store_n hF d_Fc_scan_22 rfl (by decide), ?_⟩
  refine List.forall_mem_cons.mpr ⟨fs_loada_n hF d_Fc_scan_23 rfl, ?_⟩
  refine List.forall_mem_cons.mpr ⟨g47 _ 24 d_Fc_scan_24, ?_⟩
  refine List.forall_mem_cons.mpr ⟨fs_loada_n hF d_Fc_scan_27 rfl, ?_⟩
  refine List.forall_mem_cons.mpr ⟨g129 _ 28 d_Fc_scan_28, ?_⟩
  refine List.forall_mem_cons.mpr ⟨fs_loada_n hF d_Fc_scan_31 rfl, ?_⟩
  refine List.forall_mem_cons.mpr ⟨g51 _ 32 d_Fc_scan_32, ?_⟩
  refine List.forall_mem_cons.mpr ⟨fs_load_n hF d_Fc_scan_35 rfl, ?_⟩
  refine List.forall_mem_cons.mpr ⟨fs_callV hC nwl_ok hnw (cN := 6) (ci := 6) (C := R_Ti) rfl rfl ⟨callB_of 3 hts (tb_good wd_406) rfl rfl rfl (hm wd_38) (hm wd_403) pd_Ti_begin ⟨Nat.le_of_ble_eq_true rfl, Nat.le_of_ble_eq_true rfl⟩, hm wd_404, hm wd_405⟩ d_Fc_scan_36, ?_⟩
  refine List.forall_mem_cons.mpr ⟨fs_loada_n hF d_Fc_scan_39 rfl, ?_⟩
  refine List.forall_mem_cons.mpr ⟨g47 _ 40 d_Fc_scan_40, ?_⟩
  refine List.forall_mem_cons.mpr ⟨fs_loada_n hF d_Fc_scan_43 rfl, ?_⟩
  refine List.forall_mem_cons.mpr ⟨g136 _ 44 d_Fc_scan_44, ?_⟩
  refine List.forall_mem_cons.mpr ⟨fs_load_n hF d_Fc_scan_47 rfl, ?_⟩
  refine List.forall_mem_cons.mpr ⟨fs_callV hC nwl_ok hnw (cN := 6) (ci := 6) (C := R_Ti) rfl rfl ⟨callB_of 2 hts (tb_good wd_411) rfl rfl rfl (hm wd_38) (hm wd_408) pd_Ti_sense ⟨Nat.le_of_ble_eq_true rfl, Nat.le_of_ble_eq_true rfl⟩, hm wd_409, hm wd_410⟩ d_Fc_scan_48, ?_⟩
  refine List.forall_mem_cons.mpr ⟨fs_loada_n hF d_Fc_scan_51 rfl, ?_⟩
  refine List.forall_mem_cons.mpr ⟨fs_callV hC nwl_ok hnw (cN := 0) (ci := 0) (C := R_Fc) rfl rfl ⟨callB_of 0 hts (tb_good wd_415) rfl rfl rfl (hm wd_32) (hm wd_412) pd_Fc_comesToAnEnd ⟨Nat.le_of_ble_eq_true rfl, Nat.le_of_ble_eq_true rfl⟩, hm wd_414, hm wd_4⟩ d_Fc_scan_52, ?_⟩
  refine List.forall_mem_cons.mpr ⟨fs_store hF d_Fc_scan_55 (by decide), ?_⟩
  refine List.forall_mem_cons.mpr ⟨fs_loada_n hF d_Fc_scan_57 rfl, ?_⟩
  refine List.forall_mem_cons.mpr ⟨fs_loada_n hF d_Fc_scan_58 rfl, ?_⟩
  refine List.forall_mem_cons.mpr ⟨g47 _ 59 d_Fc_scan_59, ?_⟩
  refine List.forall_mem_cons.mpr ⟨g147 _ 62 d_Fc_scan_62, ?_⟩
  refine List.forall_mem_cons.mpr ⟨fs_put hC (cN := 0) (j := 15) (ci := 0) (C := R_Fc) (T := T_Fc) (N := 17) rfl rfl rfl (by decide) ty_Fc tk_Fc nm_Fc rfl (by decide +kernel) (fun w h => List.mem_cons_of_mem _ (in_Fc w h)) (hm wd_233) d_Fc_scan_65, ?_⟩
  refine List.forall_mem_cons.mpr ⟨fs_loada_n hF d_Fc_scan_68 rfl, ?_⟩
  refine List.forall_mem_cons.mpr ⟨fs_loada_n hF d_Fc_scan_69 rfl, ?_⟩
  refine List.forall_mem_cons.mpr ⟨g47 _ 70 d_Fc_scan_70, ?_⟩
  refine List.forall_mem_cons.mpr ⟨g151 _ 73 d_Fc_scan_73, ?_⟩
  refine List.forall_mem_cons.mpr ⟨fs_put hC (cN := 0) (j := 16) (ci := 0) (C := R_Fc) (T := T_Fc) (N := 17) rfl rfl rfl (by decide) ty_Fc tk_Fc nm_Fc rfl (by decide +kernel) (fun w h => List.mem_cons_of_mem _ (in_Fc w h)) (hm wd_234) d_Fc_scan_76, ?_⟩
  refine List.forall_mem_cons.mpr ⟨fs_load hF d_Fc_scan_79, ?_⟩
  refine List.forall_mem_cons.mpr ⟨fs_ifne hF d_Fc_scan_81 (by decide), ?_⟩
  refine List.forall_mem_cons.mpr ⟨fs_const hF d_Fc_scan_84 (by decide), ?_⟩
  refine List.forall_mem_cons.mpr ⟨fs_ret hC hr d_Fc_scan_85, ?_⟩
  refine List.forall_mem_cons.mpr ⟨fs_loada_n hF d_Fc_scan_86 rfl, ?_⟩
  refine List.forall_mem_cons.mpr ⟨fs_load_n hF d_Fc_scan_87 rfl, ?_⟩
  refine List.forall_mem_cons.mpr ⟨fs_put hC (cN := 0) (j := 11) (ci := 0) (C := R_Fc) (T := T_Fc) (N := 17) rfl rfl rfl (by decide) ty_Fc tk_Fc nm_Fc rfl (by decide +kernel) (fun w h => List.mem_cons_of_mem _ (in_Fc w h)) (hm wd_229) d_Fc_scan_88, ?_⟩
  refine List.forall_mem_cons.mpr ⟨fs_loada_n hF d_Fc_scan_91 rfl, ?_⟩
  refine List.forall_mem_cons.mpr ⟨fs_load_n hF d_Fc_scan_92 rfl, ?_⟩
  refine List.forall_mem_cons.mpr ⟨fs_callV hC nwl_ok hnw (cN := 0) (ci := 0) (C := R_Fc) rfl rfl ⟨callB_of 1 hts (tb_good wd_466) rfl rfl rfl (hm wd_32) (hm wd_463) pd_Fc_keepTrial ⟨Nat.le_of_ble_eq_true rfl, Nat.le_of_ble_eq_true rfl⟩, hm wd_465, hm wd_7⟩ d_Fc_scan_93, ?_⟩
  refine List.forall_mem_cons.mpr ⟨fs_loada_n hF d_Fc_scan_96 rfl, ?_⟩
  refine List.forall_mem_cons.mpr ⟨g159 _ 97 d_Fc_scan_97, ?_⟩
  refine List.forall_mem_cons.mpr ⟨fs_ret hC hr d_Fc_scan_100, ?_⟩
  exact fun _ h => absurd h List.not_mem_nil
abbrev rm_Fc_active : Room := { frames := 0, cells := 0, slots := 0, locals := 0 }
def ws_Fc_active : List Cond := .code y_Fc_active c_Fc_active 1 (some .int) :: TB
abbrev MC_Fc_active (κ : fx_K) : List fx_V → fx_S → (Int32 → fx_S → Prop) → Prop := fx_Met κ.1 κ.2.1 vwCl κ.2.2.1 κ.2.2.2 lyX nwl y_Fc_active ws_Fc_active rm_Fc_active true
def tt_Fc_active (κ : fx_K) (post : Int32 → fx_S → Prop) : List (Nat × fx_M fx_S) := [(0, fm_loada 0 1),
  (1, fm_get 0 9 4),
  (4, fm_ret post)]
set_option maxHeartbeats 4000000 in
set_option maxRecDepth 100000 in
theorem mo_Fc_active {κ : fx_K} (hq : fx_I κ lyX.length) {av : List fx_V} {S : fx_S} {post : Int32 → fx_S → Prop} (hlen : av.length ≤ 1) (body : ∀ J : fx_J fx_S, (∀ r ∈ tt_Fc_active κ post, fx_Snd J r.1 r.2) → (∀ pc k ls st S, J pc (ls.take k) st S → J pc ls st S) → J 0 av [] S) : MC_Fc_active κ av S post := by
  refine fx_Met_of (cc := c_Fc_active) (nL := 1) (ret := (some .int)) (by decide) rfl hq hlen ?_
  intro p e s m args below meth c hC hr hnw
  refine body _ ?_ fx_W_take
  have hF := hC.1
  have hts := hC.1.2.2.2.2
  have hm : ∀ {w : Cond}, w ∈ TB → w.before args s = true := fun h => hts _ (List.mem_cons_of_mem _ h)
  have g129 : ∀ (Q : State → Prop) (pc : Nat), decode c_Fc_active pc = .ok (.getfield 129, 3) → fx_Snd (fx_W p κ.1 e rm_Fc_active s m args below meth c Q (fx_A κ.2.2.2 lyX.length) 0 0 (fx_P κ.2.1 vwCl κ.2.2.1 κ.2.2.2 lyX) κ.2.2.2 1) pc (fm_get 0 9 (pc + 3)) := fun Q pc hd => fs_get hC (cN := 0) (j := 9) (ci := 0) (C := R_Fc) (T := T_Fc) (N := 17) rfl rfl rfl (by decide) (fun w h => List.mem_cons_of_mem _ (in_Fc w h)) (hm wd_227) hd
  refine List.forall_mem_cons.mpr ⟨fs_loada_n hF d_Fc_active_0 rfl, ?_⟩
  refine List.forall_mem_cons.mpr ⟨g129 _ 1 d_Fc_active_1, ?_⟩
  refine List.forall_mem_cons.mpr ⟨fs_ret hC hr d_Fc_active_4, ?_⟩
  exact fun _ h => absurd h List.not_mem_nil
abbrev rm_Fc_time : Room := { frames := 1, cells := 0, slots := 0, locals := 21 }
def ws_Fc_time : List Cond := .code y_Fc_time c_Fc_time 2 (some .int) :: TB
abbrev MC_Fc_time (κ : fx_K) : List fx_V → fx_S → (Int32 → fx_S → Prop) → Prop := fx_Met κ.1 κ.2.1 vwCl κ.2.2.1 κ.2.2.2 lyX nwl y_Fc_time ws_Fc_time rm_Fc_time true
def tt_Fc_time (κ : fx_K) (post : Int32 → fx_S → Prop) : List (Nat × fx_M fx_S) := [(0, fm_loada 0 1),
  (1, fm_getr 0 1 4),
  (4, fm_load 1 5),
  (5, fm_call true 1 1 (MC_St_has κ) 8),
  (8, fm_ifeq 20 11),
  (11, fm_loada 0 12),
  (12, fm_getr 0 7 15),
  (15, fm_load 1 16),
  (16, fm_ald lnXI 17),
  (17, fm_goto 21),
  (20, fm_const 0 21),
  (21, fm_ret post)]
set_option maxHeartbeats 4000000 in
set_option maxRecDepth 100000 in
theorem mo_Fc_time {κ : fx_K} (hq : fx_I κ lyX.length) {av : List fx_V} {S : fx_S} {post : Int32 → fx_S → Prop} (hlen : av.length ≤ 2) (body : ∀ J : fx_J fx_S, (∀ r ∈ tt_Fc_time κ post, fx_Snd J r.1 r.2) → (∀ pc k ls st S, J pc (ls.take k) st S → J pc ls st S) → J 0 av [] S) : MC_Fc_time κ av S post := by
  refine fx_Met_of (cc := c_Fc_time) (nL := 2) (ret := (some .int)) (by decide) rfl hq hlen ?_
  intro p e s m args below meth c hC hr hnw
  refine body _ ?_ fx_W_take
  have hF := hC.1
  have hts := hC.1.2.2.2.2
  have hm : ∀ {w : Cond}, w ∈ TB → w.before args s = true := fun h => hts _ (List.mem_cons_of_mem _ h)
  have g10 : ∀ (Q : State → Prop) (pc : Nat), decode c_Fc_time pc = .ok (.getfield 10, 3) → fx_Snd (fx_W p κ.1 e rm_Fc_time s m args below meth c Q (fx_A κ.2.2.2 lyX.length) 0 0 (fx_P κ.2.1 vwCl κ.2.2.1 κ.2.2.2 lyX) κ.2.2.2 2) pc (fm_getr 0 1 (pc + 3)) := fun Q pc hd => fs_getr hC (cN := 0) (j := 0) (ci := 0) (C := R_Fc) (T := T_Fc) (N := 17) rfl rfl rfl (by decide) (fun w h => List.mem_cons_of_mem _ (in_Fc w h)) (hm wd_218) hd
  have g51 : ∀ (Q : State → Prop) (pc : Nat), decode c_Fc_time pc = .ok (.getfield 51, 3) → fx_Snd (fx_W p κ.1 e rm_Fc_time s m args below meth c Q (fx_A κ.2.2.2 lyX.length) 0 0 (fx_P κ.2.1 vwCl κ.2.2.1 κ.2.2.2 lyX) κ.2.2.2 2) pc (fm_getr 0 7 (pc + 3)) := fun Q pc hd => fs_getr hC (cN := 0) (j := 6) (ci := 0) (C := R_Fc) (T := T_Fc) (N := 17) rfl rfl rfl (by decide) (fun w h => List.mem_cons_of_mem _ (in_Fc w h)) (hm wd_224) hd
  refine List.forall_mem_cons.mpr ⟨fs_loada_n hF d_Fc_time_0 rfl, ?_⟩
  refine List.forall_mem_cons.mpr ⟨g10 _ 1 d_Fc_time_1, ?_⟩
  refine List.forall_mem_cons.mpr ⟨fs_load_n hF d_Fc_time_4 rfl, ?_⟩
  refine List.forall_mem_cons.mpr ⟨fs_callV hC nwl_ok hnw (cN := 1) (ci := 1) (C := R_St) rfl rfl ⟨callB_of 1 hts (tb_good wd_292) rfl rfl rfl (hm wd_33) (hm wd_333) pd_St_has ⟨Nat.le_of_ble_eq_true rfl, Nat.le_of_ble_eq_true rfl⟩, hm wd_290, hm wd_291⟩ d_Fc_time_5, ?_⟩
  refine List.forall_mem_cons.mpr ⟨fs_ifeq hF d_Fc_time_8 (by decide), ?_⟩
  refine List.forall_mem_cons.mpr ⟨fs_loada_n hF d_Fc_time_11 rfl, ?_⟩
  refine List.forall_mem_cons.mpr ⟨g51 _ 12 d_Fc_time_12, ?_⟩
  refine List.forall_mem_cons.mpr ⟨fs_load_n hF d_Fc_time_15 rfl, ?_⟩
  refine List.forall_mem_cons.mpr ⟨fs_ald hC lkXI d_Fc_time_16, ?_⟩
  refine List.forall_mem_cons.mpr ⟨fs_goto hF d_Fc_time_17 (by decide), ?_⟩
  refine List.forall_mem_cons.mpr ⟨fs_const hF d_Fc_time_20 (by decide), ?_⟩
  refine List.forall_mem_cons.mpr ⟨fs_ret hC hr d_Fc_time_21, ?_⟩
  exact fun _ h => absurd h List.not_mem_nil
abbrev rm_Fc_enabled : Room := { frames := 1, cells := 0, slots := 0, locals := 23 }
def ws_Fc_enabled : List Cond := .code y_Fc_enabled c_Fc_enabled 1 (some .int) :: TB
abbrev MC_Fc_enabled (κ : fx_K) : List fx_V → fx_S → (Int32 → fx_S → Prop) → Prop := fx_Met κ.1 κ.2.1 vwCl κ.2.2.1 κ.2.2.2 lyX nwl y_Fc_enabled ws_Fc_enabled rm_Fc_enabled true
def tt_Fc_enabled (κ : fx_K) (post : Int32 → fx_S → Prop) : List (Nat × fx_M fx_S) := [(0, fm_loada 0 1),
  (1, fm_getr 0 3 4),
  (4, fm_loada 0 5),
  (5, fm_get 0 9 8),
  (8, fm_call true 3 1 (MC_Tr_enabledIn κ) 11),
  (11, fm_ret post)]
set_option maxHeartbeats 4000000 in
set_option maxRecDepth 100000 in
theorem mo_Fc_enabled {κ : fx_K} (hq : fx_I κ lyX.length) {av : List fx_V} {S : fx_S} {post : Int32 → fx_S → Prop} (hlen : av.length ≤ 1) (body : ∀ J : fx_J fx_S, (∀ r ∈ tt_Fc_enabled κ post, fx_Snd J r.1 r.2) → (∀ pc k ls st S, J pc (ls.take k) st S → J pc ls st S) → J 0 av [] S) : MC_Fc_enabled κ av S post := by
  refine fx_Met_of (cc := c_Fc_enabled) (nL := 1) (ret := (some .int)) (by decide) rfl hq hlen ?_
  intro p e s m args below meth c hC hr hnw
  refine body _ ?_ fx_W_take
  have hF := hC.1
  have hts := hC.1.2.2.2.2
  have hm : ∀ {w : Cond}, w ∈ TB → w.before args s = true := fun h => hts _ (List.mem_cons_of_mem _ h)
  have g26 : ∀ (Q : State → Prop) (pc : Nat), decode c_Fc_enabled pc = .ok (.getfield 26, 3) → fx_Snd (fx_W p κ.1 e rm_Fc_enabled s m args below meth c Q (fx_A κ.2.2.2 lyX.length) 0 0 (fx_P κ.2.1 vwCl κ.2.2.1 κ.2.2.2 lyX) κ.2.2.2 1) pc (fm_getr 0 3 (pc + 3)) := fun Q pc hd => fs_getr hC (cN := 0) (j := 2) (ci := 0) (C := R_Fc) (T := T_Fc) (N := 17) rfl rfl rfl (by decide) (fun w h => List.mem_cons_of_mem _ (in_Fc w h)) (hm wd_220) hd
  have g129 : ∀ (Q : State → Prop) (pc : Nat), decode c_Fc_enabled pc = .ok (.getfield 129, 3) → fx_Snd (fx_W p κ.1 e rm_Fc_enabled s m args below meth c Q (fx_A κ.2.2.2 lyX.length) 0 0 (fx_P κ.2.1 vwCl κ.2.2.1 κ.2.2.2 lyX) κ.2.2.2 1) pc (fm_get 0 9 (pc + 3)) := fun Q pc hd => fs_get hC (cN := 0) (j := 9) (ci := 0) (C := R_Fc) (T := T_Fc) (N := 17) rfl rfl rfl (by decide) (fun w h => List.mem_cons_of_mem _ (in_Fc w h)) (hm wd_227) hd
  refine List.forall_mem_cons.mpr ⟨fs_loada_n hF d_Fc_enabled_0 rfl, ?_⟩
  refine List.forall_mem_cons.mpr ⟨g26 _ 1 d_Fc_enabled_1, ?_⟩
  refine List.forall_mem_cons.mpr ⟨fs_loada_n hF d_Fc_enabled_4 rfl, ?_⟩
  refine List.forall_mem_cons.mpr ⟨g129 _ 5 d_Fc_enabled_5, ?_⟩
  refine List.forall_mem_cons.mpr ⟨fs_callV hC nwl_ok hnw (cN := 3) (ci := 3) (C := R_Tr) rfl rfl ⟨callB_of 1 hts (tb_good wd_358) rfl rfl rfl (hm wd_35) (hm wd_355) pd_Tr_enabledIn ⟨Nat.le_of_ble_eq_true rfl, Nat.le_of_ble_eq_true rfl⟩, hm wd_356, hm wd_357⟩ d_Fc_enabled_8, ?_⟩
  refine List.forall_mem_cons.mpr ⟨fs_ret hC hr d_Fc_enabled_11, ?_⟩
  exact fun _ h => absurd h List.not_mem_nil
abbrev rm_Fc_outputs : Room := { frames := 0, cells := 0, slots := 0, locals := 0 }
def ws_Fc_outputs : List Cond := .code y_Fc_outputs c_Fc_outputs 1 (some .int) :: TB
abbrev MC_Fc_outputs (κ : fx_K) : List fx_V → fx_S → (Int32 → fx_S → Prop) → Prop := fx_Met κ.1 κ.2.1 vwCl κ.2.2.1 κ.2.2.2 lyX nwl y_Fc_outputs ws_Fc_outputs rm_Fc_outputs true
def tt_Fc_outputs (κ : fx_K) (post : Int32 → fx_S → Prop) : List (Nat × fx_M fx_S) := [(0, fm_loada 0 1),
  (1, fm_get 0 12 4),
  (4, fm_ret post)]
set_option maxHeartbeats 4000000 in
set_option maxRecDepth 100000 in
theorem mo_Fc_outputs {κ : fx_K} (hq : fx_I κ lyX.length) {av : List fx_V} {S : fx_S} {post : Int32 → fx_S → Prop} (hlen : av.length ≤ 1) (body : ∀ J : fx_J fx_S, (∀ r ∈ tt_Fc_outputs κ post, fx_Snd J r.1 r.2) → (∀ pc k ls st S, J pc (ls.take k) st S → J pc ls st S) → J 0 av [] S) : MC_Fc_outputs κ av S post := by
  refine fx_Met_of (cc := c_Fc_outputs) (nL := 1) (ret := (some .int)) (by decide) rfl hq hlen ?_
  intro p e s m args below meth c hC hr hnw
  refine body _ ?_ fx_W_take
  have hF := hC.1
  have hts := hC.1.2.2.2.2
  have hm : ∀ {w : Cond}, w ∈ TB → w.before args s = true := fun h => hts _ (List.mem_cons_of_mem _ h)
  have g162 : ∀ (Q : State → Prop) (pc : Nat), decode c_Fc_outputs pc = .ok (.getfield 162, 3) → fx_Snd (fx_W p κ.1 e rm_Fc_outputs s m args below meth c Q (fx_A κ.2.2.2 lyX.length) 0 0 (fx_P κ.2.1 vwCl κ.2.2.1 κ.2.2.2 lyX) κ.2.2.2 1) pc (fm_get 0 12 (pc + 3)) := fun Q pc hd => fs_get hC (cN := 0) (j := 12) (ci := 0) (C := R_Fc) (T := T_Fc) (N := 17) rfl rfl rfl (by decide) (fun w h => List.mem_cons_of_mem _ (in_Fc w h)) (hm wd_230) hd
  refine List.forall_mem_cons.mpr ⟨fs_loada_n hF d_Fc_outputs_0 rfl, ?_⟩
  refine List.forall_mem_cons.mpr ⟨g162 _ 1 d_Fc_outputs_1, ?_⟩
  refine List.forall_mem_cons.mpr ⟨fs_ret hC hr d_Fc_outputs_4, ?_⟩
  exact fun _ h => absurd h List.not_mem_nil
abbrev rm_Fc_stored : Room := { frames := 2, cells := 0, slots := 0, locals := 42 }
def ws_Fc_stored : List Cond := .code y_Fc_stored c_Fc_stored 2 (some .boolean) :: TB
abbrev MC_Fc_stored (κ : fx_K) : List fx_V → fx_S → (Int32 → fx_S → Prop) → Prop := fx_Met κ.1 κ.2.1 vwCl κ.2.2.1 κ.2.2.2 lyX nwl y_Fc_stored ws_Fc_stored rm_Fc_stored true
def tt_Fc_stored (κ : fx_K) (post : Int32 → fx_S → Prop) : List (Nat × fx_M fx_S) := [(0, fm_loada 0 1),
  (1, fm_getr 0 5 4),
  (4, fm_load 1 5),
  (5, fm_call true 5 1 (MC_Ac_isStored κ) 8),
  (8, fm_zret post)]
set_option maxHeartbeats 4000000 in
set_option maxRecDepth 100000 in
theorem mo_Fc_stored {κ : fx_K} (hq : fx_I κ lyX.length) {av : List fx_V} {S : fx_S} {post : Int32 → fx_S → Prop} (hlen : av.length ≤ 2) (body : ∀ J : fx_J fx_S, (∀ r ∈ tt_Fc_stored κ post, fx_Snd J r.1 r.2) → (∀ pc k ls st S, J pc (ls.take k) st S → J pc ls st S) → J 0 av [] S) : MC_Fc_stored κ av S post := by
  refine fx_Met_of (cc := c_Fc_stored) (nL := 2) (ret := (some .boolean)) (by decide) rfl hq hlen ?_
  intro p e s m args below meth c hC hr hnw
  refine body _ ?_ fx_W_take
  have hF := hC.1
  have hts := hC.1.2.2.2.2
  have hm : ∀ {w : Cond}, w ∈ TB → w.before args s = true := fun h => hts _ (List.mem_cons_of_mem _ h)
  have g40 : ∀ (Q : State → Prop) (pc : Nat), decode c_Fc_stored pc = .ok (.getfield 40, 3) → fx_Snd (fx_W p κ.1 e rm_Fc_stored s m args below meth c Q (fx_A κ.2.2.2 lyX.length) 0 0 (fx_P κ.2.1 vwCl κ.2.2.1 κ.2.2.2 lyX) κ.2.2.2 2) pc (fm_getr 0 5 (pc + 3)) := fun Q pc hd => fs_getr hC (cN := 0) (j := 4) (ci := 0) (C := R_Fc) (T := T_Fc) (N := 17) rfl rfl rfl (by decide) (fun w h => List.mem_cons_of_mem _ (in_Fc w h)) (hm wd_222) hd
  refine List.forall_mem_cons.mpr ⟨fs_loada_n hF d_Fc_stored_0 rfl, ?_⟩
  refine List.forall_mem_cons.mpr ⟨g40 _ 1 d_Fc_stored_1, ?_⟩
  refine List.forall_mem_cons.mpr ⟨fs_load_n hF d_Fc_stored_4 rfl, ?_⟩
  refine List.forall_mem_cons.mpr ⟨fs_callV hC nwl_ok hnw (cN := 5) (ci := 5) (C := R_Ac) rfl rfl ⟨callB_of 1 hts (tb_good wd_516) rfl rfl rfl (hm wd_37) (hm wd_513) pd_Ac_isStored ⟨Nat.le_of_ble_eq_true rfl, Nat.le_of_ble_eq_true rfl⟩, hm wd_514, hm wd_515⟩ d_Fc_stored_5, ?_⟩
  refine List.forall_mem_cons.mpr ⟨fs_zret hC hr d_Fc_stored_8, ?_⟩
  exact fun _ h => absurd h List.not_mem_nil
abbrev rm_Fc_evolutions : Room := { frames := 0, cells := 0, slots := 0, locals := 0 }
def ws_Fc_evolutions : List Cond := .code y_Fc_evolutions c_Fc_evolutions 1 (some .int) :: TB
abbrev MC_Fc_evolutions (κ : fx_K) : List fx_V → fx_S → (Int32 → fx_S → Prop) → Prop := fx_Met κ.1 κ.2.1 vwCl κ.2.2.1 κ.2.2.2 lyX nwl y_Fc_evolutions ws_Fc_evolutions rm_Fc_evolutions true
def tt_Fc_evolutions (κ : fx_K) (post : Int32 → fx_S → Prop) : List (Nat × fx_M fx_S) := [(0, fm_loada 0 1),
  (1, fm_get 0 13 4),
  (4, fm_ret post)]
set_option maxHeartbeats 4000000 in
set_option maxRecDepth 100000 in
theorem mo_Fc_evolutions {κ : fx_K} (hq : fx_I κ lyX.length) {av : List fx_V} {S : fx_S} {post : Int32 → fx_S → Prop} (hlen : av.length ≤ 1) (body : ∀ J : fx_J fx_S, (∀ r ∈ tt_Fc_evolutions κ post, fx_Snd J r.1 r.2) → (∀ pc k ls st S, J pc (ls.take k) st S → J pc ls st S) → J 0 av [] S) : MC_Fc_evolutions κ av S post := by
  refine fx_Met_of (cc := c_Fc_evolutions) (nL := 1) (ret := (some .int)) (by decide) rfl hq hlen ?_
  intro p e s m args below meth c hC hr hnw
  refine body _ ?_ fx_W_take
  have hF := hC.1
  have hts := hC.1.2.2.2.2
  have hm : ∀ {w : Cond}, w ∈ TB → w.before args s = true := fun h => hts _ (List.mem_cons_of_mem _ h)
  have g159 : ∀ (Q : State → Prop) (pc : Nat), decode c_Fc_evolutions pc = .ok (.getfield 159, 3) → fx_Snd (fx_W p κ.1 e rm_Fc_evolutions s m args below meth c Q (fx_A κ.2.2.2 lyX.length) 0 0 (fx_P κ.2.1 vwCl κ.2.2.1 κ.2.2.2 lyX) κ.2.2.2 1) pc (fm_get 0 13 (pc + 3)) := fun Q pc hd => fs_get hC (cN := 0) (j := 13) (ci := 0) (C := R_Fc) (T := T_Fc) (N := 17) rfl rfl rfl (by decide) (fun w h => List.mem_cons_of_mem _ (in_Fc w h)) (hm wd_231) hd
  refine List.forall_mem_cons.mpr ⟨fs_loada_n hF d_Fc_evolutions_0 rfl, ?_⟩
  refine List.forall_mem_cons.mpr ⟨g159 _ 1 d_Fc_evolutions_1, ?_⟩
  refine List.forall_mem_cons.mpr ⟨fs_ret hC hr d_Fc_evolutions_4, ?_⟩
  exact fun _ h => absurd h List.not_mem_nil
abbrev rm_Fc_cleared : Room := { frames := 0, cells := 0, slots := 0, locals := 0 }
def ws_Fc_cleared : List Cond := .code y_Fc_cleared c_Fc_cleared 1 (some .int) :: TB
abbrev MC_Fc_cleared (κ : fx_K) : List fx_V → fx_S → (Int32 → fx_S → Prop) → Prop := fx_Met κ.1 κ.2.1 vwCl κ.2.2.1 κ.2.2.2 lyX nwl y_Fc_cleared ws_Fc_cleared rm_Fc_cleared true
def tt_Fc_cleared (κ : fx_K) (post : Int32 → fx_S → Prop) : List (Nat × fx_M fx_S) := [(0, fm_loada 0 1),
  (1, fm_get 0 14 4),
  (4, fm_ret post)]
set_option maxHeartbeats 4000000 in
set_option maxRecDepth 100000 in
theorem mo_Fc_cleared {κ : fx_K} (hq : fx_I κ lyX.length) {av : List fx_V} {S : fx_S} {post : Int32 → fx_S → Prop} (hlen : av.length ≤ 1) (body : ∀ J : fx_J fx_S, (∀ r ∈ tt_Fc_cleared κ post, fx_Snd J r.1 r.2) → (∀ pc k ls st S, J pc (ls.take k) st S → J pc ls st S) → J 0 av [] S) : MC_Fc_cleared κ av S post := by
  refine fx_Met_of (cc := c_Fc_cleared) (nL := 1) (ret := (some .int)) (by decide) rfl hq hlen ?_
  intro p e s m args below meth c hC hr hnw
  refine body _ ?_ fx_W_take
  have hF := hC.1
  have hts := hC.1.2.2.2.2
  have hm : ∀ {w : Cond}, w ∈ TB → w.before args s = true := fun h => hts _ (List.mem_cons_of_mem _ h)
  have g168 : ∀ (Q : State → Prop) (pc : Nat), decode c_Fc_cleared pc = .ok (.getfield 168, 3) → fx_Snd (fx_W p κ.1 e rm_Fc_cleared s m args below meth c Q (fx_A κ.2.2.2 lyX.length) 0 0 (fx_P κ.2.1 vwCl κ.2.2.1 κ.2.2.2 lyX) κ.2.2.2 1) pc (fm_get 0 14 (pc + 3)) := fun Q pc hd => fs_get hC (cN := 0) (j := 14) (ci := 0) (C := R_Fc) (T := T_Fc) (N := 17) rfl rfl rfl (by decide) (fun w h => List.mem_cons_of_mem _ (in_Fc w h)) (hm wd_232) hd
  refine List.forall_mem_cons.mpr ⟨fs_loada_n hF d_Fc_cleared_0 rfl, ?_⟩
  refine List.forall_mem_cons.mpr ⟨g168 _ 1 d_Fc_cleared_1, ?_⟩
  refine List.forall_mem_cons.mpr ⟨fs_ret hC hr d_Fc_cleared_4, ?_⟩
  exact fun _ h => absurd h List.not_mem_nil
abbrev rm_Fc_lead : Room := { frames := 0, cells := 0, slots := 0, locals := 0 }
def ws_Fc_lead : List Cond := .code y_Fc_lead c_Fc_lead 1 (some .int) :: TB
abbrev MC_Fc_lead (κ : fx_K) : List fx_V → fx_S → (Int32 → fx_S → Prop) → Prop := fx_Met κ.1 κ.2.1 vwCl κ.2.2.1 κ.2.2.2 lyX nwl y_Fc_lead ws_Fc_lead rm_Fc_lead true
def tt_Fc_lead (κ : fx_K) (post : Int32 → fx_S → Prop) : List (Nat × fx_M fx_S) := [(0, fm_loada 0 1),
  (1, fm_get 0 15 4),
  (4, fm_ret post)]
set_option maxHeartbeats 4000000 in
set_option maxRecDepth 100000 in
theorem mo_Fc_lead {κ : fx_K} (hq : fx_I κ lyX.length) {av : List fx_V} {S : fx_S} {post : Int32 → fx_S → Prop} (hlen : av.length ≤ 1) (body : ∀ J : fx_J fx_S, (∀ r ∈ tt_Fc_lead κ post, fx_Snd J r.1 r.2) → (∀ pc k ls st S, J pc (ls.take k) st S → J pc ls st S) → J 0 av [] S) : MC_Fc_lead κ av S post := by
  refine fx_Met_of (cc := c_Fc_lead) (nL := 1) (ret := (some .int)) (by decide) rfl hq hlen ?_
  intro p e s m args below meth c hC hr hnw
  refine body _ ?_ fx_W_take
  have hF := hC.1
  have hts := hC.1.2.2.2.2
  have hm : ∀ {w : Cond}, w ∈ TB → w.before args s = true := fun h => hts _ (List.mem_cons_of_mem _ h)
  have g150 : ∀ (Q : State → Prop) (pc : Nat), decode c_Fc_lead pc = .ok (.getfield 150, 3) → fx_Snd (fx_W p κ.1 e rm_Fc_lead s m args below meth c Q (fx_A κ.2.2.2 lyX.length) 0 0 (fx_P κ.2.1 vwCl κ.2.2.1 κ.2.2.2 lyX) κ.2.2.2 1) pc (fm_get 0 15 (pc + 3)) := fun Q pc hd => fs_get hC (cN := 0) (j := 15) (ci := 0) (C := R_Fc) (T := T_Fc) (N := 17) rfl rfl rfl (by decide) (fun w h => List.mem_cons_of_mem _ (in_Fc w h)) (hm wd_233) hd
  refine List.forall_mem_cons.mpr ⟨fs_loada_n hF d_Fc_lead_0 rfl, ?_⟩
  refine List.forall_mem_cons.mpr ⟨g150 _ 1 d_Fc_lead_1, ?_⟩
  refine List.forall_mem_cons.mpr ⟨fs_ret hC hr d_Fc_lead_4, ?_⟩
  exact fun _ h => absurd h List.not_mem_nil
abbrev rm_Fc_period : Room := { frames := 0, cells := 0, slots := 0, locals := 0 }
def ws_Fc_period : List Cond := .code y_Fc_period c_Fc_period 1 (some .int) :: TB
abbrev MC_Fc_period (κ : fx_K) : List fx_V → fx_S → (Int32 → fx_S → Prop) → Prop := fx_Met κ.1 κ.2.1 vwCl κ.2.2.1 κ.2.2.2 lyX nwl y_Fc_period ws_Fc_period rm_Fc_period true
def tt_Fc_period (κ : fx_K) (post : Int32 → fx_S → Prop) : List (Nat × fx_M fx_S) := [(0, fm_loada 0 1),
  (1, fm_get 0 16 4),
  (4, fm_ret post)]
set_option maxHeartbeats 4000000 in
set_option maxRecDepth 100000 in
theorem mo_Fc_period {κ : fx_K} (hq : fx_I κ lyX.length) {av : List fx_V} {S : fx_S} {post : Int32 → fx_S → Prop} (hlen : av.length ≤ 1) (body : ∀ J : fx_J fx_S, (∀ r ∈ tt_Fc_period κ post, fx_Snd J r.1 r.2) → (∀ pc k ls st S, J pc (ls.take k) st S → J pc ls st S) → J 0 av [] S) : MC_Fc_period κ av S post := by
  refine fx_Met_of (cc := c_Fc_period) (nL := 1) (ret := (some .int)) (by decide) rfl hq hlen ?_
  intro p e s m args below meth c hC hr hnw
  refine body _ ?_ fx_W_take
  have hF := hC.1
  have hts := hC.1.2.2.2.2
  have hm : ∀ {w : Cond}, w ∈ TB → w.before args s = true := fun h => hts _ (List.mem_cons_of_mem _ h)
  have g154 : ∀ (Q : State → Prop) (pc : Nat), decode c_Fc_period pc = .ok (.getfield 154, 3) → fx_Snd (fx_W p κ.1 e rm_Fc_period s m args below meth c Q (fx_A κ.2.2.2 lyX.length) 0 0 (fx_P κ.2.1 vwCl κ.2.2.1 κ.2.2.2 lyX) κ.2.2.2 1) pc (fm_get 0 16 (pc + 3)) := fun Q pc hd => fs_get hC (cN := 0) (j := 16) (ci := 0) (C := R_Fc) (T := T_Fc) (N := 17) rfl rfl rfl (by decide) (fun w h => List.mem_cons_of_mem _ (in_Fc w h)) (hm wd_234) hd
  refine List.forall_mem_cons.mpr ⟨fs_loada_n hF d_Fc_period_0 rfl, ?_⟩
  refine List.forall_mem_cons.mpr ⟨g154 _ 1 d_Fc_period_1, ?_⟩
  refine List.forall_mem_cons.mpr ⟨fs_ret hC hr d_Fc_period_4, ?_⟩
  exact fun _ h => absurd h List.not_mem_nil
