/-! the law: tables of meanings (by program: wip/gen/mklaw.py) -/
def tl_h (κX κM : fx_K) (L : Nat) (xs : Nat → Int32) : List (Nat × fx_M LS2) := [(18, fm_load 3 19),
  (19, fm_loada 0 20),
  (20, fm_slen L 21),
  (21, fm_const 5 22),
  (22, fm_isub 23),
  (23, fm_cmpgt 590 26),
  (26, fm_loada 0 27),
  (27, fm_load 3 28),
  (28, fm_sld L xs 29),
  (29, fm_const 31 31),
  (31, fm_iand 32),
  (32, fm_sw [(0, 120), (1, 169), (2, 212), (3, 255), (4, 298), (5, 351), (6, 364), (7, 403), (8, 414), (9, 447), (10, 460), (11, 483), (12, 496), (13, 509), (14, 532), (15, 545), (16, 558), (17, 571)] 584),
  (584, fm_inc 3 5 587),
  (587, fm_goto 18),
  (590, fm_const 1 591),
  (591, fm_lret)]
set_option maxHeartbeats 4000000 in
set_option maxRecDepth 100000 in
theorem sl_h {l : Launch} {D : va_G} {cA : Nat → ClassId} {qX qM : Nat → Nat} {p : Program} {e : Env} {s : State} {m : MethodId} {below : List Frame} {meth : Method} {c : Code} {b L : Nat} {xs : Nat → Int32} (hC : lw_C p s m meth c b L xs D cA qX qM) : ∀ r ∈ tl_h (l, D, cA, qX) (l, D, cA, qM) L xs, fx_Snd (lw_J0 l D cA qX qM p e s m below meth c b) r.1 r.2 := by
  have hF := hC.1
  have hts := hC.1.2.2.2.2
  have hm : ∀ {w : Cond}, w ∈ TB → w.before #[Value.ref b] s = true := fun h => hts _ h
  refine List.forall_mem_cons.mpr ⟨fs_load_n hF d_La_18 rfl, ?_⟩
  refine List.forall_mem_cons.mpr ⟨fs_loada_n hF d_La_19 rfl, ?_⟩
  refine List.forall_mem_cons.mpr ⟨fs_slen hC d_La_20, ?_⟩
  refine List.forall_mem_cons.mpr ⟨fs_const hF d_La_21 (by decide), ?_⟩
  refine List.forall_mem_cons.mpr ⟨fs_isub hF d_La_22, ?_⟩
  refine List.forall_mem_cons.mpr ⟨fs_cmpgt hF d_La_23 (by decide), ?_⟩
  refine List.forall_mem_cons.mpr ⟨fs_loada_n hF d_La_26 rfl, ?_⟩
  refine List.forall_mem_cons.mpr ⟨fs_load_n hF d_La_27 rfl, ?_⟩
  refine List.forall_mem_cons.mpr ⟨fs_sld hC d_La_28, ?_⟩
  refine List.forall_mem_cons.mpr ⟨fs_bipush hF d_La_29 (by decide), ?_⟩
  refine List.forall_mem_cons.mpr ⟨fs_iand hF d_La_31, ?_⟩
  refine List.forall_mem_cons.mpr ⟨fs_tableL hF 18 d_La_32 (by decide) (by decide +kernel) (by decide +kernel) (by decide), ?_⟩
  refine List.forall_mem_cons.mpr ⟨fs_inc hF d_La_584 (by decide) (by decide), ?_⟩
  refine List.forall_mem_cons.mpr ⟨fs_goto hF d_La_587 (by decide), ?_⟩
  refine List.forall_mem_cons.mpr ⟨fs_const hF d_La_590 (by decide), ?_⟩
  refine List.forall_mem_cons.mpr ⟨fs_lret hC d_La_591, ?_⟩
  exact fun _ h => absurd h List.not_mem_nil
def tl_120 (κX κM : fx_K) (L : Nat) (xs : Nat → Int32) : List (Nat × fx_M LS2) := [(120, fm_loada 1 121),
  (121, fm_loada 0 122),
  (122, fm_load 3 123),
  (123, fm_const 1 124),
  (124, fm_iadd 125),
  (125, fm_sld L xs 126),
  (126, fm_loada 0 127),
  (127, fm_load 3 128),
  (128, fm_const 2 129),
  (129, fm_iadd 130),
  (130, fm_sld L xs 131),
  (131, fm_ifeq 138 134),
  (134, fm_const 1 135),
  (135, fm_goto 139),
  (138, fm_const 0 139),
  (139, fm_lx true 2 (MC_Fc_step κX) 142),
  (142, fm_loada 2 143),
  (143, fm_loada 0 144),
  (144, fm_load 3 145),
  (145, fm_const 1 146),
  (146, fm_iadd 147),
  (147, fm_sld L xs 148),
  (148, fm_loada 0 149),
  (149, fm_load 3 150),
  (150, fm_const 2 151),
  (151, fm_iadd 152),
  (152, fm_sld L xs 153),
  (153, fm_ifeq 160 156),
  (156, fm_const 1 157),
  (157, fm_goto 161),
  (160, fm_const 0 161),
  (161, fm_lm true 2 (MC_Md_step κM) 164),
  (164, fm_cmpeq 584 167),
  (167, fm_const 0 168)]
set_option maxHeartbeats 4000000 in
set_option maxRecDepth 100000 in
theorem sl_120 {l : Launch} {D : va_G} {cA : Nat → ClassId} {qX qM : Nat → Nat} {p : Program} {e : Env} {s : State} {m : MethodId} {below : List Frame} {meth : Method} {c : Code} {b L : Nat} {xs : Nat → Int32} (hC : lw_C p s m meth c b L xs D cA qX qM) : ∀ r ∈ tl_120 (l, D, cA, qX) (l, D, cA, qM) L xs, fx_Snd (lw_J0 l D cA qX qM p e s m below meth c b) r.1 r.2 := by
  have hF := hC.1
  have hts := hC.1.2.2.2.2
  have hm : ∀ {w : Cond}, w ∈ TB → w.before #[Value.ref b] s = true := fun h => hts _ h
  refine List.forall_mem_cons.mpr ⟨fs_loada_n hF d_La_120 rfl, ?_⟩
  refine List.forall_mem_cons.mpr ⟨fs_loada_n hF d_La_121 rfl, ?_⟩
  refine List.forall_mem_cons.mpr ⟨fs_load_n hF d_La_122 rfl, ?_⟩
  refine List.forall_mem_cons.mpr ⟨fs_const hF d_La_123 (by decide), ?_⟩
  refine List.forall_mem_cons.mpr ⟨fs_iadd hF d_La_124, ?_⟩
  refine List.forall_mem_cons.mpr ⟨fs_sld hC d_La_125, ?_⟩
  refine List.forall_mem_cons.mpr ⟨fs_loada_n hF d_La_126 rfl, ?_⟩
  refine List.forall_mem_cons.mpr ⟨fs_load_n hF d_La_127 rfl, ?_⟩
  refine List.forall_mem_cons.mpr ⟨fs_const hF d_La_128 (by decide), ?_⟩
  refine List.forall_mem_cons.mpr ⟨fs_iadd hF d_La_129, ?_⟩
  refine List.forall_mem_cons.mpr ⟨fs_sld hC d_La_130, ?_⟩
  refine List.forall_mem_cons.mpr ⟨fs_ifeq hF d_La_131 (by decide), ?_⟩
  refine List.forall_mem_cons.mpr ⟨fs_const hF d_La_134 (by decide), ?_⟩
  refine List.forall_mem_cons.mpr ⟨fs_goto hF d_La_135 (by decide), ?_⟩
  refine List.forall_mem_cons.mpr ⟨fs_const hF d_La_138 (by decide), ?_⟩
  refine List.forall_mem_cons.mpr ⟨fs_lx hC ⟨callB_of 2 hts (tb_good0 wk_Fc_step) rfl rfl rfl (hm wl_32) (hm wl_270) pl_Fc_step ⟨Nat.le_of_ble_eq_true rfl, Nat.le_of_ble_eq_true rfl⟩, hm wl_271, hm wl_272⟩ d_La_139, ?_⟩
  refine List.forall_mem_cons.mpr ⟨fs_loada_n hF d_La_142 rfl, ?_⟩
  refine List.forall_mem_cons.mpr ⟨fs_loada_n hF d_La_143 rfl, ?_⟩
  refine List.forall_mem_cons.mpr ⟨fs_load_n hF d_La_144 rfl, ?_⟩
  refine List.forall_mem_cons.mpr ⟨fs_const hF d_La_145 (by decide), ?_⟩
  refine List.forall_mem_cons.mpr ⟨fs_iadd hF d_La_146, ?_⟩
  refine List.forall_mem_cons.mpr ⟨fs_sld hC d_La_147, ?_⟩
  refine List.forall_mem_cons.mpr ⟨fs_loada_n hF d_La_148 rfl, ?_⟩
  refine List.forall_mem_cons.mpr ⟨fs_load_n hF d_La_149 rfl, ?_⟩
  refine List.forall_mem_cons.mpr ⟨fs_const hF d_La_150 (by decide), ?_⟩
  refine List.forall_mem_cons.mpr ⟨fs_iadd hF d_La_151, ?_⟩
  refine List.forall_mem_cons.mpr ⟨fs_sld hC d_La_152, ?_⟩
  refine List.forall_mem_cons.mpr ⟨fs_ifeq hF d_La_153 (by decide), ?_⟩
  refine List.forall_mem_cons.mpr ⟨fs_const hF d_La_156 (by decide), ?_⟩
  refine List.forall_mem_cons.mpr ⟨fs_goto hF d_La_157 (by decide), ?_⟩
  refine List.forall_mem_cons.mpr ⟨fs_const hF d_La_160 (by decide), ?_⟩
  refine List.forall_mem_cons.mpr ⟨fs_lm hC ⟨callB_of 2 hts (tb_good0 wk_Md_step) rfl rfl rfl (hm wl_39) (hm wl_670) pl_Md_step ⟨Nat.le_of_ble_eq_true rfl, Nat.le_of_ble_eq_true rfl⟩, hm wl_671, hm wl_672⟩ d_La_161, ?_⟩
  refine List.forall_mem_cons.mpr ⟨fs_cmpeq hF d_La_164 (by decide), ?_⟩
  refine List.forall_mem_cons.mpr ⟨fs_const hF d_La_167 (by decide), ?_⟩
  exact fun _ h => absurd h List.not_mem_nil
def tl_169 (κX κM : fx_K) (L : Nat) (xs : Nat → Int32) : List (Nat × fx_M LS2) := [(169, fm_loada 1 170),
  (170, fm_loada 0 171),
  (171, fm_load 3 172),
  (172, fm_const 1 173),
  (173, fm_iadd 174),
  (174, fm_sld L xs 175),
  (175, fm_loada 0 176),
  (176, fm_load 3 177),
  (177, fm_const 2 178),
  (178, fm_iadd 179),
  (179, fm_sld L xs 180),
  (180, fm_loada 0 181),
  (181, fm_load 3 182),
  (182, fm_const 3 183),
  (183, fm_iadd 184),
  (184, fm_sld L xs 185),
  (185, fm_lx true 3 (MC_Fc_expression κX) 188),
  (188, fm_loada 2 189),
  (189, fm_loada 0 190),
  (190, fm_load 3 191),
  (191, fm_const 1 192),
  (192, fm_iadd 193),
  (193, fm_sld L xs 194),
  (194, fm_loada 0 195),
  (195, fm_load 3 196),
  (196, fm_const 2 197),
  (197, fm_iadd 198),
  (198, fm_sld L xs 199),
  (199, fm_loada 0 200),
  (200, fm_load 3 201),
  (201, fm_const 3 202),
  (202, fm_iadd 203),
  (203, fm_sld L xs 204),
  (204, fm_lm true 3 (MC_Md_expression κM) 207),
  (207, fm_cmpeq 584 210),
  (210, fm_const 0 211)]
set_option maxHeartbeats 4000000 in
set_option maxRecDepth 100000 in
theorem sl_169 {l : Launch} {D : va_G} {cA : Nat → ClassId} {qX qM : Nat → Nat} {p : Program} {e : Env} {s : State} {m : MethodId} {below : List Frame} {meth : Method} {c : Code} {b L : Nat} {xs : Nat → Int32} (hC : lw_C p s m meth c b L xs D cA qX qM) : ∀ r ∈ tl_169 (l, D, cA, qX) (l, D, cA, qM) L xs, fx_Snd (lw_J0 l D cA qX qM p e s m below meth c b) r.1 r.2 := by
  have hF := hC.1
  have hts := hC.1.2.2.2.2
  have hm : ∀ {w : Cond}, w ∈ TB → w.before #[Value.ref b] s = true := fun h => hts _ h
  refine List.forall_mem_cons.mpr ⟨fs_loada_n hF d_La_169 rfl, ?_⟩
  refine List.forall_mem_cons.mpr ⟨fs_loada_n hF d_La_170 rfl, ?_⟩
  refine List.forall_mem_cons.mpr ⟨fs_load_n hF d_La_171 rfl, ?_⟩
  refine List.forall_mem_cons.mpr ⟨fs_const hF d_La_172 (by decide), ?_⟩
  refine List.forall_mem_cons.mpr ⟨fs_iadd hF d_La_173, ?_⟩
  refine List.forall_mem_cons.mpr ⟨fs_sld hC d_La_174, ?_⟩
  refine List.forall_mem_cons.mpr ⟨fs_loada_n hF d_La_175 rfl, ?_⟩
  refine List.forall_mem_cons.mpr ⟨fs_load_n hF d_La_176 rfl, ?_⟩
  refine List.forall_mem_cons.mpr ⟨fs_const hF d_La_177 (by decide), ?_⟩
  refine List.forall_mem_cons.mpr ⟨fs_iadd hF d_La_178, ?_⟩
  refine List.forall_mem_cons.mpr ⟨fs_sld hC d_La_179, ?_⟩
  refine List.forall_mem_cons.mpr ⟨fs_loada_n hF d_La_180 rfl, ?_⟩
  refine List.forall_mem_cons.mpr ⟨fs_load_n hF d_La_181 rfl, ?_⟩
  refine List.forall_mem_cons.mpr ⟨fs_const hF d_La_182 (by decide), ?_⟩
  refine List.forall_mem_cons.mpr ⟨fs_iadd hF d_La_183, ?_⟩
  refine List.forall_mem_cons.mpr ⟨fs_sld hC d_La_184, ?_⟩
  refine List.forall_mem_cons.mpr ⟨fs_lx hC ⟨callB_of 3 hts (tb_good0 wk_Fc_expression) rfl rfl rfl (hm wl_32) (hm wl_278) pl_Fc_expression ⟨Nat.le_of_ble_eq_true rfl, Nat.le_of_ble_eq_true rfl⟩, hm wl_279, hm wl_280⟩ d_La_185, ?_⟩
  refine List.forall_mem_cons.mpr ⟨fs_loada_n hF d_La_188 rfl, ?_⟩
  refine List.forall_mem_cons.mpr ⟨fs_loada_n hF d_La_189 rfl, ?_⟩
  refine List.forall_mem_cons.mpr ⟨fs_load_n hF d_La_190 rfl, ?_⟩
  refine List.forall_mem_cons.mpr ⟨fs_const hF d_La_191 (by decide), ?_⟩
  refine List.forall_mem_cons.mpr ⟨fs_iadd hF d_La_192, ?_⟩
  refine List.forall_mem_cons.mpr ⟨fs_sld hC d_La_193, ?_⟩
  refine List.forall_mem_cons.mpr ⟨fs_loada_n hF d_La_194 rfl, ?_⟩
  refine List.forall_mem_cons.mpr ⟨fs_load_n hF d_La_195 rfl, ?_⟩
  refine List.forall_mem_cons.mpr ⟨fs_const hF d_La_196 (by decide), ?_⟩
  refine List.forall_mem_cons.mpr ⟨fs_iadd hF d_La_197, ?_⟩
  refine List.forall_mem_cons.mpr ⟨fs_sld hC d_La_198, ?_⟩
  refine List.forall_mem_cons.mpr ⟨fs_loada_n hF d_La_199 rfl, ?_⟩
  refine List.forall_mem_cons.mpr ⟨fs_load_n hF d_La_200 rfl, ?_⟩
  refine List.forall_mem_cons.mpr ⟨fs_const hF d_La_201 (by decide), ?_⟩
  refine List.forall_mem_cons.mpr ⟨fs_iadd hF d_La_202, ?_⟩
  refine List.forall_mem_cons.mpr ⟨fs_sld hC d_La_203, ?_⟩
  refine List.forall_mem_cons.mpr ⟨fs_lm hC ⟨callB_of 3 hts (tb_good0 wk_Md_expression) rfl rfl rfl (hm wl_39) (hm wl_674) pl_Md_expression ⟨Nat.le_of_ble_eq_true rfl, Nat.le_of_ble_eq_true rfl⟩, hm wl_675, hm wl_676⟩ d_La_204, ?_⟩
  refine List.forall_mem_cons.mpr ⟨fs_cmpeq hF d_La_207 (by decide), ?_⟩
  refine List.forall_mem_cons.mpr ⟨fs_const hF d_La_210 (by decide), ?_⟩
  exact fun _ h => absurd h List.not_mem_nil
def tl_212 (κX κM : fx_K) (L : Nat) (xs : Nat → Int32) : List (Nat × fx_M LS2) := [(212, fm_loada 1 213),
  (213, fm_loada 0 214),
  (214, fm_load 3 215),
  (215, fm_const 1 216),
  (216, fm_iadd 217),
  (217, fm_sld L xs 218),
  (218, fm_loada 0 219),
  (219, fm_load 3 220),
  (220, fm_const 2 221),
  (221, fm_iadd 222),
  (222, fm_sld L xs 223),
  (223, fm_loada 0 224),
  (224, fm_load 3 225),
  (225, fm_const 3 226),
  (226, fm_iadd 227),
  (227, fm_sld L xs 228),
  (228, fm_lx true 3 (MC_Fc_transition κX) 231),
  (231, fm_loada 2 232),
  (232, fm_loada 0 233),
  (233, fm_load 3 234),
  (234, fm_const 1 235),
  (235, fm_iadd 236),
  (236, fm_sld L xs 237),
  (237, fm_loada 0 238),
  (238, fm_load 3 239),
  (239, fm_const 2 240),
  (240, fm_iadd 241),
  (241, fm_sld L xs 242),
  (242, fm_loada 0 243),
  (243, fm_load 3 244),
  (244, fm_const 3 245),
  (245, fm_iadd 246),
  (246, fm_sld L xs 247),
  (247, fm_lm true 3 (MC_Md_transition κM) 250),
  (250, fm_cmpeq 584 253),
  (253, fm_const 0 254)]
set_option maxHeartbeats 4000000 in
set_option maxRecDepth 100000 in
theorem sl_212 {l : Launch} {D : va_G} {cA : Nat → ClassId} {qX qM : Nat → Nat} {p : Program} {e : Env} {s : State} {m : MethodId} {below : List Frame} {meth : Method} {c : Code} {b L : Nat} {xs : Nat → Int32} (hC : lw_C p s m meth c b L xs D cA qX qM) : ∀ r ∈ tl_212 (l, D, cA, qX) (l, D, cA, qM) L xs, fx_Snd (lw_J0 l D cA qX qM p e s m below meth c b) r.1 r.2 := by
  have hF := hC.1
  have hts := hC.1.2.2.2.2
  have hm : ∀ {w : Cond}, w ∈ TB → w.before #[Value.ref b] s = true := fun h => hts _ h
  refine List.forall_mem_cons.mpr ⟨fs_loada_n hF d_La_212 rfl, ?_⟩
  refine List.forall_mem_cons.mpr ⟨fs_loada_n hF d_La_213 rfl, ?_⟩
  refine List.forall_mem_cons.mpr ⟨fs_load_n hF d_La_214 rfl, ?_⟩
  refine List.forall_mem_cons.mpr ⟨fs_const hF d_La_215 (by decide), ?_⟩
  refine List.forall_mem_cons.mpr ⟨fs_iadd hF d_La_216, ?_⟩
  refine List.forall_mem_cons.mpr ⟨fs_sld hC d_La_217, ?_⟩
  refine List.forall_mem_cons.mpr ⟨fs_loada_n hF d_La_218 rfl, ?_⟩
  refine List.forall_mem_cons.mpr ⟨fs_load_n hF d_La_219 rfl, ?_⟩
  refine List.forall_mem_cons.mpr ⟨fs_const hF d_La_220 (by decide), ?_⟩
  refine List.forall_mem_cons.mpr ⟨fs_iadd hF d_La_221, ?_⟩
  refine List.forall_mem_cons.mpr ⟨fs_sld hC d_La_222, ?_⟩
  refine List.forall_mem_cons.mpr ⟨fs_loada_n hF d_La_223 rfl, ?_⟩
  refine List.forall_mem_cons.mpr ⟨fs_load_n hF d_La_224 rfl, ?_⟩
  refine List.forall_mem_cons.mpr ⟨fs_const hF d_La_225 (by decide), ?_⟩
  refine List.forall_mem_cons.mpr ⟨fs_iadd hF d_La_226, ?_⟩
  refine List.forall_mem_cons.mpr ⟨fs_sld hC d_La_227, ?_⟩
  refine List.forall_mem_cons.mpr ⟨fs_lx hC ⟨callB_of 3 hts (tb_good0 wk_Fc_transition) rfl rfl rfl (hm wl_32) (hm wl_316) pl_Fc_transition ⟨Nat.le_of_ble_eq_true rfl, Nat.le_of_ble_eq_true rfl⟩, hm wl_317, hm wl_318⟩ d_La_228, ?_⟩
  refine List.forall_mem_cons.mpr ⟨fs_loada_n hF d_La_231 rfl, ?_⟩
  refine List.forall_mem_cons.mpr ⟨fs_loada_n hF d_La_232 rfl, ?_⟩
  refine List.forall_mem_cons.mpr ⟨fs_load_n hF d_La_233 rfl, ?_⟩
  refine List.forall_mem_cons.mpr ⟨fs_const hF d_La_234 (by decide), ?_⟩
  refine List.forall_mem_cons.mpr ⟨fs_iadd hF d_La_235, ?_⟩
  refine List.forall_mem_cons.mpr ⟨fs_sld hC d_La_236, ?_⟩
  refine List.forall_mem_cons.mpr ⟨fs_loada_n hF d_La_237 rfl, ?_⟩
  refine List.forall_mem_cons.mpr ⟨fs_load_n hF d_La_238 rfl, ?_⟩
  refine List.forall_mem_cons.mpr ⟨fs_const hF d_La_239 (by decide), ?_⟩
  refine List.forall_mem_cons.mpr ⟨fs_iadd hF d_La_240, ?_⟩
  refine List.forall_mem_cons.mpr ⟨fs_sld hC d_La_241, ?_⟩
  refine List.forall_mem_cons.mpr ⟨fs_loada_n hF d_La_242 rfl, ?_⟩
  refine List.forall_mem_cons.mpr ⟨fs_load_n hF d_La_243 rfl, ?_⟩
  refine List.forall_mem_cons.mpr ⟨fs_const hF d_La_244 (by decide), ?_⟩
  refine List.forall_mem_cons.mpr ⟨fs_iadd hF d_La_245, ?_⟩
  refine List.forall_mem_cons.mpr ⟨fs_sld hC d_La_246, ?_⟩
  refine List.forall_mem_cons.mpr ⟨fs_lm hC ⟨callB_of 3 hts (tb_good0 wk_Md_transition) rfl rfl rfl (hm wl_39) (hm wl_691) pl_Md_transition ⟨Nat.le_of_ble_eq_true rfl, Nat.le_of_ble_eq_true rfl⟩, hm wl_692, hm wl_693⟩ d_La_247, ?_⟩
  refine List.forall_mem_cons.mpr ⟨fs_cmpeq hF d_La_250 (by decide), ?_⟩
  refine List.forall_mem_cons.mpr ⟨fs_const hF d_La_253 (by decide), ?_⟩
  exact fun _ h => absurd h List.not_mem_nil
def tl_255 (κX κM : fx_K) (L : Nat) (xs : Nat → Int32) : List (Nat × fx_M LS2) := [(255, fm_loada 1 256),
  (256, fm_loada 0 257),
  (257, fm_load 3 258),
  (258, fm_const 1 259),
  (259, fm_iadd 260),
  (260, fm_sld L xs 261),
  (261, fm_loada 0 262),
  (262, fm_load 3 263),
  (263, fm_const 2 264),
  (264, fm_iadd 265),
  (265, fm_sld L xs 266),
  (266, fm_loada 0 267),
  (267, fm_load 3 268),
  (268, fm_const 3 269),
  (269, fm_iadd 270),
  (270, fm_sld L xs 271),
  (271, fm_lx true 3 (MC_Fc_order κX) 274),
  (274, fm_loada 2 275),
  (275, fm_loada 0 276),
  (276, fm_load 3 277),
  (277, fm_const 1 278),
  (278, fm_iadd 279),
  (279, fm_sld L xs 280),
  (280, fm_loada 0 281),
  (281, fm_load 3 282),
  (282, fm_const 2 283),
  (283, fm_iadd 284),
  (284, fm_sld L xs 285),
  (285, fm_loada 0 286),
  (286, fm_load 3 287),
  (287, fm_const 3 288),
  (288, fm_iadd 289),
  (289, fm_sld L xs 290),
  (290, fm_lm true 3 (MC_Md_order κM) 293),
  (293, fm_cmpeq 584 296),
  (296, fm_const 0 297)]
set_option maxHeartbeats 4000000 in
set_option maxRecDepth 100000 in
theorem sl_255 {l : Launch} {D : va_G} {cA : Nat → ClassId} {qX qM : Nat → Nat} {p : Program} {e : Env} {s : State} {m : MethodId} {below : List Frame} {meth : Method} {c : Code} {b L : Nat} {xs : Nat → Int32} (hC : lw_C p s m meth c b L xs D cA qX qM) : ∀ r ∈ tl_255 (l, D, cA, qX) (l, D, cA, qM) L xs, fx_Snd (lw_J0 l D cA qX qM p e s m below meth c b) r.1 r.2 := by
  have hF := hC.1
  have hts := hC.1.2.2.2.2
  have hm : ∀ {w : Cond}, w ∈ TB → w.before #[Value.ref b] s = true := fun h => hts _ h
  refine List.forall_mem_cons.mpr ⟨fs_loada_n hF d_La_255 rfl, ?_⟩
  refine List.forall_mem_cons.mpr ⟨fs_loada_n hF d_La_256 rfl, ?_⟩
  refine List.forall_mem_cons.mpr ⟨fs_load_n hF d_La_257 rfl, ?_⟩
  refine List.forall_mem_cons.mpr ⟨fs_const hF d_La_258 (by decide), ?_⟩
  refine List.forall_mem_cons.mpr ⟨fs_iadd hF d_La_259, ?_⟩
  refine List.forall_mem_cons.mpr ⟨fs_sld hC d_La_260, ?_⟩
  refine List.forall_mem_cons.mpr ⟨fs_loada_n hF d_La_261 rfl, ?_⟩
  refine List.forall_mem_cons.mpr ⟨fs_load_n hF d_La_262 rfl, ?_⟩
  refine List.forall_mem_cons.mpr ⟨fs_const hF d_La_263 (by decide), ?_⟩
  refine List.forall_mem_cons.mpr ⟨fs_iadd hF d_La_264, ?_⟩
  refine List.forall_mem_cons.mpr ⟨fs_sld hC d_La_265, ?_⟩
  refine List.forall_mem_cons.mpr ⟨fs_loada_n hF d_La_266 rfl, ?_⟩
  refine List.forall_mem_cons.mpr ⟨fs_load_n hF d_La_267 rfl, ?_⟩
  refine List.forall_mem_cons.mpr ⟨fs_const hF d_La_268 (by decide), ?_⟩
  refine List.forall_mem_cons.mpr ⟨fs_iadd hF d_La_269, ?_⟩
  refine List.forall_mem_cons.mpr ⟨fs_sld hC d_La_270, ?_⟩
  refine List.forall_mem_cons.mpr ⟨fs_lx hC ⟨callB_of 3 hts (tb_good0 wk_Fc_order) rfl rfl rfl (hm wl_32) (hm wl_329) pl_Fc_order ⟨Nat.le_of_ble_eq_true rfl, Nat.le_of_ble_eq_true rfl⟩, hm wl_330, hm wl_331⟩ d_La_271, ?_⟩
  refine List.forall_mem_cons.mpr ⟨fs_loada_n hF d_La_274 rfl, ?_⟩
  refine List.forall_mem_cons.mpr ⟨fs_loada_n hF d_La_275 rfl, ?_⟩
  refine List.forall_mem_cons.mpr ⟨fs_load_n hF d_La_276 rfl, ?_⟩
  refine List.forall_mem_cons.mpr ⟨fs_const hF d_La_277 (by decide), ?_⟩
  refine List.forall_mem_cons.mpr ⟨fs_iadd hF d_La_278, ?_⟩
  refine List.forall_mem_cons.mpr ⟨fs_sld hC d_La_279, ?_⟩
  refine List.forall_mem_cons.mpr ⟨fs_loada_n hF d_La_280 rfl, ?_⟩
  refine List.forall_mem_cons.mpr ⟨fs_load_n hF d_La_281 rfl, ?_⟩
  refine List.forall_mem_cons.mpr ⟨fs_const hF d_La_282 (by decide), ?_⟩
  refine List.forall_mem_cons.mpr ⟨fs_iadd hF d_La_283, ?_⟩
  refine List.forall_mem_cons.mpr ⟨fs_sld hC d_La_284, ?_⟩
  refine List.forall_mem_cons.mpr ⟨fs_loada_n hF d_La_285 rfl, ?_⟩
  refine List.forall_mem_cons.mpr ⟨fs_load_n hF d_La_286 rfl, ?_⟩
  refine List.forall_mem_cons.mpr ⟨fs_const hF d_La_287 (by decide), ?_⟩
  refine List.forall_mem_cons.mpr ⟨fs_iadd hF d_La_288, ?_⟩
  refine List.forall_mem_cons.mpr ⟨fs_sld hC d_La_289, ?_⟩
  refine List.forall_mem_cons.mpr ⟨fs_lm hC ⟨callB_of 3 hts (tb_good0 wk_Md_order) rfl rfl rfl (hm wl_39) (hm wl_699) pl_Md_order ⟨Nat.le_of_ble_eq_true rfl, Nat.le_of_ble_eq_true rfl⟩, hm wl_700, hm wl_701⟩ d_La_290, ?_⟩
  refine List.forall_mem_cons.mpr ⟨fs_cmpeq hF d_La_293 (by decide), ?_⟩
  refine List.forall_mem_cons.mpr ⟨fs_const hF d_La_296 (by decide), ?_⟩
  exact fun _ h => absurd h List.not_mem_nil
def tl_298 (κX κM : fx_K) (L : Nat) (xs : Nat → Int32) : List (Nat × fx_M LS2) := [(298, fm_loada 1 299),
  (299, fm_loada 0 300),
  (300, fm_load 3 301),
  (301, fm_const 1 302),
  (302, fm_iadd 303),
  (303, fm_sld L xs 304),
  (304, fm_loada 0 305),
  (305, fm_load 3 306),
  (306, fm_const 2 307),
  (307, fm_iadd 308),
  (308, fm_sld L xs 309),
  (309, fm_loada 0 310),
  (310, fm_load 3 311),
  (311, fm_const 3 312),
  (312, fm_iadd 313),
  (313, fm_sld L xs 314),
  (314, fm_loada 0 315),
  (315, fm_load 3 316),
  (316, fm_const 4 317),
  (317, fm_iadd 318),
  (318, fm_sld L xs 319),
  (319, fm_lx true 4 (MC_Fc_action κX) 322),
  (322, fm_loada 2 323),
  (323, fm_loada 0 324),
  (324, fm_load 3 325),
  (325, fm_const 1 326),
  (326, fm_iadd 327),
  (327, fm_sld L xs 328),
  (328, fm_loada 0 329),
  (329, fm_load 3 330),
  (330, fm_const 2 331),
  (331, fm_iadd 332),
  (332, fm_sld L xs 333),
  (333, fm_loada 0 334),
  (334, fm_load 3 335),
  (335, fm_const 3 336),
  (336, fm_iadd 337),
  (337, fm_sld L xs 338),
  (338, fm_loada 0 339),
  (339, fm_load 3 340),
  (340, fm_const 4 341),
  (341, fm_iadd 342),
  (342, fm_sld L xs 343),
  (343, fm_lm true 4 (MC_Md_action κM) 346),
  (346, fm_cmpeq 584 349),
  (349, fm_const 0 350)]
set_option maxHeartbeats 4000000 in
set_option maxRecDepth 100000 in
theorem sl_298 {l : Launch} {D : va_G} {cA : Nat → ClassId} {qX qM : Nat → Nat} {p : Program} {e : Env} {s : State} {m : MethodId} {below : List Frame} {meth : Method} {c : Code} {b L : Nat} {xs : Nat → Int32} (hC : lw_C p s m meth c b L xs D cA qX qM) : ∀ r ∈ tl_298 (l, D, cA, qX) (l, D, cA, qM) L xs, fx_Snd (lw_J0 l D cA qX qM p e s m below meth c b) r.1 r.2 := by
  have hF := hC.1
  have hts := hC.1.2.2.2.2
  have hm : ∀ {w : Cond}, w ∈ TB → w.before #[Value.ref b] s = true := fun h => hts _ h
  refine List.forall_mem_cons.mpr ⟨fs_loada_n hF d_La_298 rfl, ?_⟩
  refine List.forall_mem_cons.mpr ⟨fs_loada_n hF d_La_299 rfl, ?_⟩
  refine List.forall_mem_cons.mpr ⟨fs_load_n hF d_La_300 rfl, ?_⟩
  refine List.forall_mem_cons.mpr ⟨fs_const hF d_La_301 (by decide), ?_⟩
  refine List.forall_mem_cons.mpr ⟨fs_iadd hF d_La_302, ?_⟩
  refine List.forall_mem_cons.mpr ⟨fs_sld hC d_La_303, ?_⟩
  refine List.forall_mem_cons.mpr ⟨fs_loada_n hF d_La_304 rfl, ?_⟩
  refine List.forall_mem_cons.mpr ⟨fs_load_n hF d_La_305 rfl, ?_⟩
  refine List.forall_mem_cons.mpr ⟨fs_const hF d_La_306 (by decide), ?_⟩
  refine List.forall_mem_cons.mpr ⟨fs_iadd hF d_La_307, ?_⟩
  refine List.forall_mem_cons.mpr ⟨fs_sld hC d_La_308, ?_⟩
  refine List.forall_mem_cons.mpr ⟨fs_loada_n hF d_La_309 rfl, ?_⟩
  refine List.forall_mem_cons.mpr ⟨fs_load_n hF d_La_310 rfl, ?_⟩
  refine List.forall_mem_cons.mpr ⟨fs_const hF d_La_311 (by decide), ?_⟩
  refine List.forall_mem_cons.mpr ⟨fs_iadd hF d_La_312, ?_⟩
  refine List.forall_mem_cons.mpr ⟨fs_sld hC d_La_313, ?_⟩
  refine List.forall_mem_cons.mpr ⟨fs_loada_n hF d_La_314 rfl, ?_⟩
  refine List.forall_mem_cons.mpr ⟨fs_load_n hF d_La_315 rfl, ?_⟩
  refine List.forall_mem_cons.mpr ⟨fs_const hF d_La_316 (by decide), ?_⟩
  refine List.forall_mem_cons.mpr ⟨fs_iadd hF d_La_317, ?_⟩
  refine List.forall_mem_cons.mpr ⟨fs_sld hC d_La_318, ?_⟩
  refine List.forall_mem_cons.mpr ⟨fs_lx hC ⟨callB_of 4 hts (tb_good0 wk_Fc_action) rfl rfl rfl (hm wl_32) (hm wl_338) pl_Fc_action ⟨Nat.le_of_ble_eq_true rfl, Nat.le_of_ble_eq_true rfl⟩, hm wl_339, hm wl_340⟩ d_La_319, ?_⟩
  refine List.forall_mem_cons.mpr ⟨fs_loada_n hF d_La_322 rfl, ?_⟩
  refine List.forall_mem_cons.mpr ⟨fs_loada_n hF d_La_323 rfl, ?_⟩
  refine List.forall_mem_cons.mpr ⟨fs_load_n hF d_La_324 rfl, ?_⟩
  refine List.forall_mem_cons.mpr ⟨fs_const hF d_La_325 (by decide), ?_⟩
  refine List.forall_mem_cons.mpr ⟨fs_iadd hF d_La_326, ?_⟩
  refine List.forall_mem_cons.mpr ⟨fs_sld hC d_La_327, ?_⟩
  refine List.forall_mem_cons.mpr ⟨fs_loada_n hF d_La_328 rfl, ?_⟩
  refine List.forall_mem_cons.mpr ⟨fs_load_n hF d_La_329 rfl, ?_⟩
  refine List.forall_mem_cons.mpr ⟨fs_const hF d_La_330 (by decide), ?_⟩
  refine List.forall_mem_cons.mpr ⟨fs_iadd hF d_La_331, ?_⟩
  refine List.forall_mem_cons.mpr ⟨fs_sld hC d_La_332, ?_⟩
  refine List.forall_mem_cons.mpr ⟨fs_loada_n hF d_La_333 rfl, ?_⟩
  refine List.forall_mem_cons.mpr ⟨fs_load_n hF d_La_334 rfl, ?_⟩
  refine List.forall_mem_cons.mpr ⟨fs_const hF d_La_335 (by decide), ?_⟩
  refine List.forall_mem_cons.mpr ⟨fs_iadd hF d_La_336, ?_⟩
  refine List.forall_mem_cons.mpr ⟨fs_sld hC d_La_337, ?_⟩
  refine List.forall_mem_cons.mpr ⟨fs_loada_n hF d_La_338 rfl, ?_⟩
  refine List.forall_mem_cons.mpr ⟨fs_load_n hF d_La_339 rfl, ?_⟩
  refine List.forall_mem_cons.mpr ⟨fs_const hF d_La_340 (by decide), ?_⟩
  refine List.forall_mem_cons.mpr ⟨fs_iadd hF d_La_341, ?_⟩
  refine List.forall_mem_cons.mpr ⟨fs_sld hC d_La_342, ?_⟩
  refine List.forall_mem_cons.mpr ⟨fs_lm hC ⟨callB_of 4 hts (tb_good0 wk_Md_action) rfl rfl rfl (hm wl_39) (hm wl_703) pl_Md_action ⟨Nat.le_of_ble_eq_true rfl, Nat.le_of_ble_eq_true rfl⟩, hm wl_704, hm wl_705⟩ d_La_343, ?_⟩
  refine List.forall_mem_cons.mpr ⟨fs_cmpeq hF d_La_346 (by decide), ?_⟩
  refine List.forall_mem_cons.mpr ⟨fs_const hF d_La_349 (by decide), ?_⟩
  exact fun _ h => absurd h List.not_mem_nil
def tl_351 (κX κM : fx_K) (L : Nat) (xs : Nat → Int32) : List (Nat × fx_M LS2) := [(351, fm_loada 1 352),
  (352, fm_lx true 0 (MC_Fc_unreached κX) 355),
  (355, fm_loada 2 356),
  (356, fm_lm true 0 (MC_Md_unreached κM) 359),
  (359, fm_cmpeq 584 362),
  (362, fm_const 0 363)]
set_option maxHeartbeats 4000000 in
set_option maxRecDepth 100000 in
theorem sl_351 {l : Launch} {D : va_G} {cA : Nat → ClassId} {qX qM : Nat → Nat} {p : Program} {e : Env} {s : State} {m : MethodId} {below : List Frame} {meth : Method} {c : Code} {b L : Nat} {xs : Nat → Int32} (hC : lw_C p s m meth c b L xs D cA qX qM) : ∀ r ∈ tl_351 (l, D, cA, qX) (l, D, cA, qM) L xs, fx_Snd (lw_J0 l D cA qX qM p e s m below meth c b) r.1 r.2 := by
  have hF := hC.1
  have hts := hC.1.2.2.2.2
  have hm : ∀ {w : Cond}, w ∈ TB → w.before #[Value.ref b] s = true := fun h => hts _ h
  refine List.forall_mem_cons.mpr ⟨fs_loada_n hF d_La_351 rfl, ?_⟩
  refine List.forall_mem_cons.mpr ⟨fs_lx hC ⟨callB_of 0 hts (tb_good0 wk_Fc_unreached) rfl rfl rfl (hm wl_32) (hm wl_351) pl_Fc_unreached ⟨Nat.le_of_ble_eq_true rfl, Nat.le_of_ble_eq_true rfl⟩, hm wl_352, hm wl_353⟩ d_La_352, ?_⟩
  refine List.forall_mem_cons.mpr ⟨fs_loada_n hF d_La_355 rfl, ?_⟩
  refine List.forall_mem_cons.mpr ⟨fs_lm hC ⟨callB_of 0 hts (tb_good0 wk_Md_unreached) rfl rfl rfl (hm wl_39) (hm wl_707) pl_Md_unreached ⟨Nat.le_of_ble_eq_true rfl, Nat.le_of_ble_eq_true rfl⟩, hm wl_708, hm wl_709⟩ d_La_356, ?_⟩
  refine List.forall_mem_cons.mpr ⟨fs_cmpeq hF d_La_359 (by decide), ?_⟩
  refine List.forall_mem_cons.mpr ⟨fs_const hF d_La_362 (by decide), ?_⟩
  exact fun _ h => absurd h List.not_mem_nil
def tl_364 (κX κM : fx_K) (L : Nat) (xs : Nat → Int32) : List (Nat × fx_M LS2) := [(364, fm_loada 1 365),
  (365, fm_loada 0 366),
  (366, fm_load 3 367),
  (367, fm_const 1 368),
  (368, fm_iadd 369),
  (369, fm_sld L xs 370),
  (370, fm_ifeq 377 373),
  (373, fm_const 1 374),
  (374, fm_goto 378),
  (377, fm_const 0 378),
  (378, fm_lx true 1 (MC_Fc_start κX) 381),
  (381, fm_loada 2 382),
  (382, fm_loada 0 383),
  (383, fm_load 3 384),
  (384, fm_const 1 385),
  (385, fm_iadd 386),
  (386, fm_sld L xs 387),
  (387, fm_ifeq 394 390),
  (390, fm_const 1 391),
  (391, fm_goto 395),
  (394, fm_const 0 395),
  (395, fm_lm true 1 (MC_Md_start κM) 398),
  (398, fm_cmpeq 584 401),
  (401, fm_const 0 402)]
set_option maxHeartbeats 4000000 in
set_option maxRecDepth 100000 in
theorem sl_364 {l : Launch} {D : va_G} {cA : Nat → ClassId} {qX qM : Nat → Nat} {p : Program} {e : Env} {s : State} {m : MethodId} {below : List Frame} {meth : Method} {c : Code} {b L : Nat} {xs : Nat → Int32} (hC : lw_C p s m meth c b L xs D cA qX qM) : ∀ r ∈ tl_364 (l, D, cA, qX) (l, D, cA, qM) L xs, fx_Snd (lw_J0 l D cA qX qM p e s m below meth c b) r.1 r.2 := by
  have hF := hC.1
  have hts := hC.1.2.2.2.2
  have hm : ∀ {w : Cond}, w ∈ TB → w.before #[Value.ref b] s = true := fun h => hts _ h
  refine List.forall_mem_cons.mpr ⟨fs_loada_n hF d_La_364 rfl, ?_⟩
  refine List.forall_mem_cons.mpr ⟨fs_loada_n hF d_La_365 rfl, ?_⟩
  refine List.forall_mem_cons.mpr ⟨fs_load_n hF d_La_366 rfl, ?_⟩
  refine List.forall_mem_cons.mpr ⟨fs_const hF d_La_367 (by decide), ?_⟩
  refine List.forall_mem_cons.mpr ⟨fs_iadd hF d_La_368, ?_⟩
  refine List.forall_mem_cons.mpr ⟨fs_sld hC d_La_369, ?_⟩
  refine List.forall_mem_cons.mpr ⟨fs_ifeq hF d_La_370 (by decide), ?_⟩
  refine List.forall_mem_cons.mpr ⟨fs_const hF d_La_373 (by decide), ?_⟩
  refine List.forall_mem_cons.mpr ⟨fs_goto hF d_La_374 (by decide), ?_⟩
  refine List.forall_mem_cons.mpr ⟨fs_const hF d_La_377 (by decide), ?_⟩
  refine List.forall_mem_cons.mpr ⟨fs_lx hC ⟨callB_of 1 hts (tb_good0 wk_Fc_start) rfl rfl rfl (hm wl_32) (hm wl_383) pl_Fc_start ⟨Nat.le_of_ble_eq_true rfl, Nat.le_of_ble_eq_true rfl⟩, hm wl_384, hm wl_385⟩ d_La_378, ?_⟩
  refine List.forall_mem_cons.mpr ⟨fs_loada_n hF d_La_381 rfl, ?_⟩
  refine List.forall_mem_cons.mpr ⟨fs_loada_n hF d_La_382 rfl, ?_⟩
  refine List.forall_mem_cons.mpr ⟨fs_load_n hF d_La_383 rfl, ?_⟩
  refine List.forall_mem_cons.mpr ⟨fs_const hF d_La_384 (by decide), ?_⟩
  refine List.forall_mem_cons.mpr ⟨fs_iadd hF d_La_385, ?_⟩
  refine List.forall_mem_cons.mpr ⟨fs_sld hC d_La_386, ?_⟩
  refine List.forall_mem_cons.mpr ⟨fs_ifeq hF d_La_387 (by decide), ?_⟩
  refine List.forall_mem_cons.mpr ⟨fs_const hF d_La_390 (by decide), ?_⟩
  refine List.forall_mem_cons.mpr ⟨fs_goto hF d_La_391 (by decide), ?_⟩
  refine List.forall_mem_cons.mpr ⟨fs_const hF d_La_394 (by decide), ?_⟩
  refine List.forall_mem_cons.mpr ⟨fs_lm hC ⟨callB_of 1 hts (tb_good0 wk_Md_start) rfl rfl rfl (hm wl_39) (hm wl_718) pl_Md_start ⟨Nat.le_of_ble_eq_true rfl, Nat.le_of_ble_eq_true rfl⟩, hm wl_719, hm wl_720⟩ d_La_395, ?_⟩
  refine List.forall_mem_cons.mpr ⟨fs_cmpeq hF d_La_398 (by decide), ?_⟩
  refine List.forall_mem_cons.mpr ⟨fs_const hF d_La_401 (by decide), ?_⟩
  exact fun _ h => absurd h List.not_mem_nil
def tl_403 (κX κM : fx_K) (L : Nat) (xs : Nat → Int32) : List (Nat × fx_M LS2) := [(403, fm_loada 1 404),
  (404, fm_lx false 0 (MC_Fc_stop κX) 407),
  (407, fm_loada 2 408),
  (408, fm_lm false 0 (MC_Md_stop κM) 411),
  (411, fm_goto 584)]
set_option maxHeartbeats 4000000 in
set_option maxRecDepth 100000 in
theorem sl_403 {l : Launch} {D : va_G} {cA : Nat → ClassId} {qX qM : Nat → Nat} {p : Program} {e : Env} {s : State} {m : MethodId} {below : List Frame} {meth : Method} {c : Code} {b L : Nat} {xs : Nat → Int32} (hC : lw_C p s m meth c b L xs D cA qX qM) : ∀ r ∈ tl_403 (l, D, cA, qX) (l, D, cA, qM) L xs, fx_Snd (lw_J0 l D cA qX qM p e s m below meth c b) r.1 r.2 := by
  have hF := hC.1
  have hts := hC.1.2.2.2.2
  have hm : ∀ {w : Cond}, w ∈ TB → w.before #[Value.ref b] s = true := fun h => hts _ h
  refine List.forall_mem_cons.mpr ⟨fs_loada_n hF d_La_403 rfl, ?_⟩
  refine List.forall_mem_cons.mpr ⟨fs_lx hC ⟨callB_of 0 hts (tb_good0 wk_Fc_stop) rfl rfl rfl (hm wl_32) (hm wl_395) pl_Fc_stop ⟨Nat.le_of_ble_eq_true rfl, Nat.le_of_ble_eq_true rfl⟩, hm wl_396, hm wl_397⟩ d_La_404, ?_⟩
  refine List.forall_mem_cons.mpr ⟨fs_loada_n hF d_La_407 rfl, ?_⟩
  refine List.forall_mem_cons.mpr ⟨fs_lm hC ⟨callB_of 0 hts (tb_good0 wk_Md_stop) rfl rfl rfl (hm wl_39) (hm wl_726) pl_Md_stop ⟨Nat.le_of_ble_eq_true rfl, Nat.le_of_ble_eq_true rfl⟩, hm wl_727, hm wl_728⟩ d_La_408, ?_⟩
  refine List.forall_mem_cons.mpr ⟨fs_goto hF d_La_411 (by decide), ?_⟩
  exact fun _ h => absurd h List.not_mem_nil
def tl_414 (κX κM : fx_K) (L : Nat) (xs : Nat → Int32) : List (Nat × fx_M LS2) := [(414, fm_loada 1 415),
  (415, fm_loada 0 416),
  (416, fm_load 3 417),
  (417, fm_const 1 418),
  (418, fm_iadd 419),
  (419, fm_sld L xs 420),
  (420, fm_loada 0 421),
  (421, fm_load 3 422),
  (422, fm_const 2 423),
  (423, fm_iadd 424),
  (424, fm_sld L xs 425),
  (425, fm_lx true 2 (MC_Fc_scan κX) 428),
  (428, fm_loada 2 429),
  (429, fm_loada 0 430),
  (430, fm_load 3 431),
  (431, fm_const 1 432),
  (432, fm_iadd 433),
  (433, fm_sld L xs 434),
  (434, fm_loada 0 435),
  (435, fm_load 3 436),
  (436, fm_const 2 437),
  (437, fm_iadd 438),
  (438, fm_sld L xs 439),
  (439, fm_lm true 2 (MC_Md_scan κM) 442),
  (442, fm_cmpeq 584 445),
  (445, fm_const 0 446)]
set_option maxHeartbeats 4000000 in
set_option maxRecDepth 100000 in
theorem sl_414 {l : Launch} {D : va_G} {cA : Nat → ClassId} {qX qM : Nat → Nat} {p : Program} {e : Env} {s : State} {m : MethodId} {below : List Frame} {meth : Method} {c : Code} {b L : Nat} {xs : Nat → Int32} (hC : lw_C p s m meth c b L xs D cA qX qM) : ∀ r ∈ tl_414 (l, D, cA, qX) (l, D, cA, qM) L xs, fx_Snd (lw_J0 l D cA qX qM p e s m below meth c b) r.1 r.2 := by
  have hF := hC.1
  have hts := hC.1.2.2.2.2
  have hm : ∀ {w : Cond}, w ∈ TB → w.before #[Value.ref b] s = true := fun h => hts _ h
  refine List.forall_mem_cons.mpr ⟨fs_loada_n hF d_La_414 rfl, ?_⟩
  refine List.forall_mem_cons.mpr ⟨fs_loada_n hF d_La_415 rfl, ?_⟩
  refine List.forall_mem_cons.mpr ⟨fs_load_n hF d_La_416 rfl, ?_⟩
  refine List.forall_mem_cons.mpr ⟨fs_const hF d_La_417 (by decide), ?_⟩
  refine List.forall_mem_cons.mpr ⟨fs_iadd hF d_La_418, ?_⟩
  refine List.forall_mem_cons.mpr ⟨fs_sld hC d_La_419, ?_⟩
  refine List.forall_mem_cons.mpr ⟨fs_loada_n hF d_La_420 rfl, ?_⟩
  refine List.forall_mem_cons.mpr ⟨fs_load_n hF d_La_421 rfl, ?_⟩
  refine List.forall_mem_cons.mpr ⟨fs_const hF d_La_422 (by decide), ?_⟩
  refine List.forall_mem_cons.mpr ⟨fs_iadd hF d_La_423, ?_⟩
  refine List.forall_mem_cons.mpr ⟨fs_sld hC d_La_424, ?_⟩
  refine List.forall_mem_cons.mpr ⟨fs_lx hC ⟨callB_of 2 hts (tb_good0 wk_Fc_scan) rfl rfl rfl (hm wl_32) (hm wl_399) pl_Fc_scan ⟨Nat.le_of_ble_eq_true rfl, Nat.le_of_ble_eq_true rfl⟩, hm wl_400, hm wl_401⟩ d_La_425, ?_⟩
  refine List.forall_mem_cons.mpr ⟨fs_loada_n hF d_La_428 rfl, ?_⟩
  refine List.forall_mem_cons.mpr ⟨fs_loada_n hF d_La_429 rfl, ?_⟩
  refine List.forall_mem_cons.mpr ⟨fs_load_n hF d_La_430 rfl, ?_⟩
  refine List.forall_mem_cons.mpr ⟨fs_const hF d_La_431 (by decide), ?_⟩
  refine List.forall_mem_cons.mpr ⟨fs_iadd hF d_La_432, ?_⟩
  refine List.forall_mem_cons.mpr ⟨fs_sld hC d_La_433, ?_⟩
  refine List.forall_mem_cons.mpr ⟨fs_loada_n hF d_La_434 rfl, ?_⟩
  refine List.forall_mem_cons.mpr ⟨fs_load_n hF d_La_435 rfl, ?_⟩
  refine List.forall_mem_cons.mpr ⟨fs_const hF d_La_436 (by decide), ?_⟩
  refine List.forall_mem_cons.mpr ⟨fs_iadd hF d_La_437, ?_⟩
  refine List.forall_mem_cons.mpr ⟨fs_sld hC d_La_438, ?_⟩
  refine List.forall_mem_cons.mpr ⟨fs_lm hC ⟨callB_of 2 hts (tb_good0 wk_Md_scan) rfl rfl rfl (hm wl_39) (hm wl_730) pl_Md_scan ⟨Nat.le_of_ble_eq_true rfl, Nat.le_of_ble_eq_true rfl⟩, hm wl_731, hm wl_732⟩ d_La_439, ?_⟩
  refine List.forall_mem_cons.mpr ⟨fs_cmpeq hF d_La_442 (by decide), ?_⟩
  refine List.forall_mem_cons.mpr ⟨fs_const hF d_La_445 (by decide), ?_⟩
  exact fun _ h => absurd h List.not_mem_nil
def tl_447 (κX κM : fx_K) (L : Nat) (xs : Nat → Int32) : List (Nat × fx_M LS2) := [(447, fm_loada 1 448),
  (448, fm_lx true 0 (MC_Fc_active κX) 451),
  (451, fm_loada 2 452),
  (452, fm_lm true 0 (MC_Md_active κM) 455),
  (455, fm_cmpeq 584 458),
  (458, fm_const 0 459)]
set_option maxHeartbeats 4000000 in
set_option maxRecDepth 100000 in
theorem sl_447 {l : Launch} {D : va_G} {cA : Nat → ClassId} {qX qM : Nat → Nat} {p : Program} {e : Env} {s : State} {m : MethodId} {below : List Frame} {meth : Method} {c : Code} {b L : Nat} {xs : Nat → Int32} (hC : lw_C p s m meth c b L xs D cA qX qM) : ∀ r ∈ tl_447 (l, D, cA, qX) (l, D, cA, qM) L xs, fx_Snd (lw_J0 l D cA qX qM p e s m below meth c b) r.1 r.2 := by
  have hF := hC.1
  have hts := hC.1.2.2.2.2
  have hm : ∀ {w : Cond}, w ∈ TB → w.before #[Value.ref b] s = true := fun h => hts _ h
  refine List.forall_mem_cons.mpr ⟨fs_loada_n hF d_La_447 rfl, ?_⟩
  refine List.forall_mem_cons.mpr ⟨fs_lx hC ⟨callB_of 0 hts (tb_good0 wk_Fc_active) rfl rfl rfl (hm wl_32) (hm wl_493) pl_Fc_active ⟨Nat.le_of_ble_eq_true rfl, Nat.le_of_ble_eq_true rfl⟩, hm wl_494, hm wl_495⟩ d_La_448, ?_⟩
  refine List.forall_mem_cons.mpr ⟨fs_loada_n hF d_La_451 rfl, ?_⟩
  refine List.forall_mem_cons.mpr ⟨fs_lm hC ⟨callB_of 0 hts (tb_good0 wk_Md_active) rfl rfl rfl (hm wl_39) (hm wl_786) pl_Md_active ⟨Nat.le_of_ble_eq_true rfl, Nat.le_of_ble_eq_true rfl⟩, hm wl_787, hm wl_788⟩ d_La_452, ?_⟩
  refine List.forall_mem_cons.mpr ⟨fs_cmpeq hF d_La_455 (by decide), ?_⟩
  refine List.forall_mem_cons.mpr ⟨fs_const hF d_La_458 (by decide), ?_⟩
  exact fun _ h => absurd h List.not_mem_nil
def tl_460 (κX κM : fx_K) (L : Nat) (xs : Nat → Int32) : List (Nat × fx_M LS2) := [(460, fm_loada 1 461),
  (461, fm_loada 0 462),
  (462, fm_load 3 463),
  (463, fm_const 1 464),
  (464, fm_iadd 465),
  (465, fm_sld L xs 466),
  (466, fm_lx true 1 (MC_Fc_time κX) 469),
  (469, fm_loada 2 470),
  (470, fm_loada 0 471),
  (471, fm_load 3 472),
  (472, fm_const 1 473),
  (473, fm_iadd 474),
  (474, fm_sld L xs 475),
  (475, fm_lm true 1 (MC_Md_time κM) 478),
  (478, fm_cmpeq 584 481),
  (481, fm_const 0 482)]
set_option maxHeartbeats 4000000 in
set_option maxRecDepth 100000 in
theorem sl_460 {l : Launch} {D : va_G} {cA : Nat → ClassId} {qX qM : Nat → Nat} {p : Program} {e : Env} {s : State} {m : MethodId} {below : List Frame} {meth : Method} {c : Code} {b L : Nat} {xs : Nat → Int32} (hC : lw_C p s m meth c b L xs D cA qX qM) : ∀ r ∈ tl_460 (l, D, cA, qX) (l, D, cA, qM) L xs, fx_Snd (lw_J0 l D cA qX qM p e s m below meth c b) r.1 r.2 := by
  have hF := hC.1
  have hts := hC.1.2.2.2.2
  have hm : ∀ {w : Cond}, w ∈ TB → w.before #[Value.ref b] s = true := fun h => hts _ h
  refine List.forall_mem_cons.mpr ⟨fs_loada_n hF d_La_460 rfl, ?_⟩
  refine List.forall_mem_cons.mpr ⟨fs_loada_n hF d_La_461 rfl, ?_⟩
  refine List.forall_mem_cons.mpr ⟨fs_load_n hF d_La_462 rfl, ?_⟩
  refine List.forall_mem_cons.mpr ⟨fs_const hF d_La_463 (by decide), ?_⟩
  refine List.forall_mem_cons.mpr ⟨fs_iadd hF d_La_464, ?_⟩
  refine List.forall_mem_cons.mpr ⟨fs_sld hC d_La_465, ?_⟩
  refine List.forall_mem_cons.mpr ⟨fs_lx hC ⟨callB_of 1 hts (tb_good0 wk_Fc_time) rfl rfl rfl (hm wl_32) (hm wl_497) pl_Fc_time ⟨Nat.le_of_ble_eq_true rfl, Nat.le_of_ble_eq_true rfl⟩, hm wl_498, hm wl_499⟩ d_La_466, ?_⟩
  refine List.forall_mem_cons.mpr ⟨fs_loada_n hF d_La_469 rfl, ?_⟩
  refine List.forall_mem_cons.mpr ⟨fs_loada_n hF d_La_470 rfl, ?_⟩
  refine List.forall_mem_cons.mpr ⟨fs_load_n hF d_La_471 rfl, ?_⟩
  refine List.forall_mem_cons.mpr ⟨fs_const hF d_La_472 (by decide), ?_⟩
  refine List.forall_mem_cons.mpr ⟨fs_iadd hF d_La_473, ?_⟩
  refine List.forall_mem_cons.mpr ⟨fs_sld hC d_La_474, ?_⟩
  refine List.forall_mem_cons.mpr ⟨fs_lm hC ⟨callB_of 1 hts (tb_good0 wk_Md_time) rfl rfl rfl (hm wl_39) (hm wl_790) pl_Md_time ⟨Nat.le_of_ble_eq_true rfl, Nat.le_of_ble_eq_true rfl⟩, hm wl_791, hm wl_792⟩ d_La_475, ?_⟩
  refine List.forall_mem_cons.mpr ⟨fs_cmpeq hF d_La_478 (by decide), ?_⟩
  refine List.forall_mem_cons.mpr ⟨fs_const hF d_La_481 (by decide), ?_⟩
  exact fun _ h => absurd h List.not_mem_nil
def tl_483 (κX κM : fx_K) (L : Nat) (xs : Nat → Int32) : List (Nat × fx_M LS2) := [(483, fm_loada 1 484),
  (484, fm_lx true 0 (MC_Fc_enabled κX) 487),
  (487, fm_loada 2 488),
  (488, fm_lm true 0 (MC_Md_enabled κM) 491),
  (491, fm_cmpeq 584 494),
  (494, fm_const 0 495)]
set_option maxHeartbeats 4000000 in
set_option maxRecDepth 100000 in
theorem sl_483 {l : Launch} {D : va_G} {cA : Nat → ClassId} {qX qM : Nat → Nat} {p : Program} {e : Env} {s : State} {m : MethodId} {below : List Frame} {meth : Method} {c : Code} {b L : Nat} {xs : Nat → Int32} (hC : lw_C p s m meth c b L xs D cA qX qM) : ∀ r ∈ tl_483 (l, D, cA, qX) (l, D, cA, qM) L xs, fx_Snd (lw_J0 l D cA qX qM p e s m below meth c b) r.1 r.2 := by
  have hF := hC.1
  have hts := hC.1.2.2.2.2
  have hm : ∀ {w : Cond}, w ∈ TB → w.before #[Value.ref b] s = true := fun h => hts _ h
  refine List.forall_mem_cons.mpr ⟨fs_loada_n hF d_La_483 rfl, ?_⟩
  refine List.forall_mem_cons.mpr ⟨fs_lx hC ⟨callB_of 0 hts (tb_good0 wk_Fc_enabled) rfl rfl rfl (hm wl_32) (hm wl_501) pl_Fc_enabled ⟨Nat.le_of_ble_eq_true rfl, Nat.le_of_ble_eq_true rfl⟩, hm wl_502, hm wl_503⟩ d_La_484, ?_⟩
  refine List.forall_mem_cons.mpr ⟨fs_loada_n hF d_La_487 rfl, ?_⟩
  refine List.forall_mem_cons.mpr ⟨fs_lm hC ⟨callB_of 0 hts (tb_good0 wk_Md_enabled) rfl rfl rfl (hm wl_39) (hm wl_794) pl_Md_enabled ⟨Nat.le_of_ble_eq_true rfl, Nat.le_of_ble_eq_true rfl⟩, hm wl_795, hm wl_796⟩ d_La_488, ?_⟩
  refine List.forall_mem_cons.mpr ⟨fs_cmpeq hF d_La_491 (by decide), ?_⟩
  refine List.forall_mem_cons.mpr ⟨fs_const hF d_La_494 (by decide), ?_⟩
  exact fun _ h => absurd h List.not_mem_nil
def tl_496 (κX κM : fx_K) (L : Nat) (xs : Nat → Int32) : List (Nat × fx_M LS2) := [(496, fm_loada 1 497),
  (497, fm_lx true 0 (MC_Fc_outputs κX) 500),
  (500, fm_loada 2 501),
  (501, fm_lm true 0 (MC_Md_outputs κM) 504),
  (504, fm_cmpeq 584 507),
  (507, fm_const 0 508)]
set_option maxHeartbeats 4000000 in
set_option maxRecDepth 100000 in
theorem sl_496 {l : Launch} {D : va_G} {cA : Nat → ClassId} {qX qM : Nat → Nat} {p : Program} {e : Env} {s : State} {m : MethodId} {below : List Frame} {meth : Method} {c : Code} {b L : Nat} {xs : Nat → Int32} (hC : lw_C p s m meth c b L xs D cA qX qM) : ∀ r ∈ tl_496 (l, D, cA, qX) (l, D, cA, qM) L xs, fx_Snd (lw_J0 l D cA qX qM p e s m below meth c b) r.1 r.2 := by
  have hF := hC.1
  have hts := hC.1.2.2.2.2
  have hm : ∀ {w : Cond}, w ∈ TB → w.before #[Value.ref b] s = true := fun h => hts _ h
  refine List.forall_mem_cons.mpr ⟨fs_loada_n hF d_La_496 rfl, ?_⟩
  refine List.forall_mem_cons.mpr ⟨fs_lx hC ⟨callB_of 0 hts (tb_good0 wk_Fc_outputs) rfl rfl rfl (hm wl_32) (hm wl_505) pl_Fc_outputs ⟨Nat.le_of_ble_eq_true rfl, Nat.le_of_ble_eq_true rfl⟩, hm wl_506, hm wl_507⟩ d_La_497, ?_⟩
  refine List.forall_mem_cons.mpr ⟨fs_loada_n hF d_La_500 rfl, ?_⟩
  refine List.forall_mem_cons.mpr ⟨fs_lm hC ⟨callB_of 0 hts (tb_good0 wk_Md_outputs) rfl rfl rfl (hm wl_39) (hm wl_798) pl_Md_outputs ⟨Nat.le_of_ble_eq_true rfl, Nat.le_of_ble_eq_true rfl⟩, hm wl_799, hm wl_800⟩ d_La_501, ?_⟩
  refine List.forall_mem_cons.mpr ⟨fs_cmpeq hF d_La_504 (by decide), ?_⟩
  refine List.forall_mem_cons.mpr ⟨fs_const hF d_La_507 (by decide), ?_⟩
  exact fun _ h => absurd h List.not_mem_nil
def tl_509 (κX κM : fx_K) (L : Nat) (xs : Nat → Int32) : List (Nat × fx_M LS2) := [(509, fm_loada 1 510),
  (510, fm_loada 0 511),
  (511, fm_load 3 512),
  (512, fm_const 1 513),
  (513, fm_iadd 514),
  (514, fm_sld L xs 515),
  (515, fm_lx true 1 (MC_Fc_stored κX) 518),
  (518, fm_loada 2 519),
  (519, fm_loada 0 520),
  (520, fm_load 3 521),
  (521, fm_const 1 522),
  (522, fm_iadd 523),
  (523, fm_sld L xs 524),
  (524, fm_lm true 1 (MC_Md_stored κM) 527),
  (527, fm_cmpeq 584 530),
  (530, fm_const 0 531)]
set_option maxHeartbeats 4000000 in
set_option maxRecDepth 100000 in
theorem sl_509 {l : Launch} {D : va_G} {cA : Nat → ClassId} {qX qM : Nat → Nat} {p : Program} {e : Env} {s : State} {m : MethodId} {below : List Frame} {meth : Method} {c : Code} {b L : Nat} {xs : Nat → Int32} (hC : lw_C p s m meth c b L xs D cA qX qM) : ∀ r ∈ tl_509 (l, D, cA, qX) (l, D, cA, qM) L xs, fx_Snd (lw_J0 l D cA qX qM p e s m below meth c b) r.1 r.2 := by
  have hF := hC.1
  have hts := hC.1.2.2.2.2
  have hm : ∀ {w : Cond}, w ∈ TB → w.before #[Value.ref b] s = true := fun h => hts _ h
  refine List.forall_mem_cons.mpr ⟨fs_loada_n hF d_La_509 rfl, ?_⟩
  refine List.forall_mem_cons.mpr ⟨fs_loada_n hF d_La_510 rfl, ?_⟩
  refine List.forall_mem_cons.mpr ⟨fs_load_n hF d_La_511 rfl, ?_⟩
  refine List.forall_mem_cons.mpr ⟨fs_const hF d_La_512 (by decide), ?_⟩
  refine List.forall_mem_cons.mpr ⟨fs_iadd hF d_La_513, ?_⟩
  refine List.forall_mem_cons.mpr ⟨fs_sld hC d_La_514, ?_⟩
  refine List.forall_mem_cons.mpr ⟨fs_lx hC ⟨callB_of 1 hts (tb_good0 wk_Fc_stored) rfl rfl rfl (hm wl_32) (hm wl_509) pl_Fc_stored ⟨Nat.le_of_ble_eq_true rfl, Nat.le_of_ble_eq_true rfl⟩, hm wl_510, hm wl_511⟩ d_La_515, ?_⟩
  refine List.forall_mem_cons.mpr ⟨fs_loada_n hF d_La_518 rfl, ?_⟩
  refine List.forall_mem_cons.mpr ⟨fs_loada_n hF d_La_519 rfl, ?_⟩
  refine List.forall_mem_cons.mpr ⟨fs_load_n hF d_La_520 rfl, ?_⟩
  refine List.forall_mem_cons.mpr ⟨fs_const hF d_La_521 (by decide), ?_⟩
  refine List.forall_mem_cons.mpr ⟨fs_iadd hF d_La_522, ?_⟩
  refine List.forall_mem_cons.mpr ⟨fs_sld hC d_La_523, ?_⟩
  refine List.forall_mem_cons.mpr ⟨fs_lm hC ⟨callB_of 1 hts (tb_good0 wk_Md_stored) rfl rfl rfl (hm wl_39) (hm wl_802) pl_Md_stored ⟨Nat.le_of_ble_eq_true rfl, Nat.le_of_ble_eq_true rfl⟩, hm wl_803, hm wl_804⟩ d_La_524, ?_⟩
  refine List.forall_mem_cons.mpr ⟨fs_cmpeq hF d_La_527 (by decide), ?_⟩
  refine List.forall_mem_cons.mpr ⟨fs_const hF d_La_530 (by decide), ?_⟩
  exact fun _ h => absurd h List.not_mem_nil
def tl_532 (κX κM : fx_K) (L : Nat) (xs : Nat → Int32) : List (Nat × fx_M LS2) := [(532, fm_loada 1 533),
  (533, fm_lx true 0 (MC_Fc_evolutions κX) 536),
  (536, fm_loada 2 537),
  (537, fm_lm true 0 (MC_Md_evolutions κM) 540),
  (540, fm_cmpeq 584 543),
  (543, fm_const 0 544)]
set_option maxHeartbeats 4000000 in
set_option maxRecDepth 100000 in
theorem sl_532 {l : Launch} {D : va_G} {cA : Nat → ClassId} {qX qM : Nat → Nat} {p : Program} {e : Env} {s : State} {m : MethodId} {below : List Frame} {meth : Method} {c : Code} {b L : Nat} {xs : Nat → Int32} (hC : lw_C p s m meth c b L xs D cA qX qM) : ∀ r ∈ tl_532 (l, D, cA, qX) (l, D, cA, qM) L xs, fx_Snd (lw_J0 l D cA qX qM p e s m below meth c b) r.1 r.2 := by
  have hF := hC.1
  have hts := hC.1.2.2.2.2
  have hm : ∀ {w : Cond}, w ∈ TB → w.before #[Value.ref b] s = true := fun h => hts _ h
  refine List.forall_mem_cons.mpr ⟨fs_loada_n hF d_La_532 rfl, ?_⟩
  refine List.forall_mem_cons.mpr ⟨fs_lx hC ⟨callB_of 0 hts (tb_good0 wk_Fc_evolutions) rfl rfl rfl (hm wl_32) (hm wl_517) pl_Fc_evolutions ⟨Nat.le_of_ble_eq_true rfl, Nat.le_of_ble_eq_true rfl⟩, hm wl_518, hm wl_519⟩ d_La_533, ?_⟩
  refine List.forall_mem_cons.mpr ⟨fs_loada_n hF d_La_536 rfl, ?_⟩
  refine List.forall_mem_cons.mpr ⟨fs_lm hC ⟨callB_of 0 hts (tb_good0 wk_Md_evolutions) rfl rfl rfl (hm wl_39) (hm wl_806) pl_Md_evolutions ⟨Nat.le_of_ble_eq_true rfl, Nat.le_of_ble_eq_true rfl⟩, hm wl_807, hm wl_808⟩ d_La_537, ?_⟩
  refine List.forall_mem_cons.mpr ⟨fs_cmpeq hF d_La_540 (by decide), ?_⟩
  refine List.forall_mem_cons.mpr ⟨fs_const hF d_La_543 (by decide), ?_⟩
  exact fun _ h => absurd h List.not_mem_nil
def tl_545 (κX κM : fx_K) (L : Nat) (xs : Nat → Int32) : List (Nat × fx_M LS2) := [(545, fm_loada 1 546),
  (546, fm_lx true 0 (MC_Fc_cleared κX) 549),
  (549, fm_loada 2 550),
  (550, fm_lm true 0 (MC_Md_cleared κM) 553),
  (553, fm_cmpeq 584 556),
  (556, fm_const 0 557)]
set_option maxHeartbeats 4000000 in
set_option maxRecDepth 100000 in
theorem sl_545 {l : Launch} {D : va_G} {cA : Nat → ClassId} {qX qM : Nat → Nat} {p : Program} {e : Env} {s : State} {m : MethodId} {below : List Frame} {meth : Method} {c : Code} {b L : Nat} {xs : Nat → Int32} (hC : lw_C p s m meth c b L xs D cA qX qM) : ∀ r ∈ tl_545 (l, D, cA, qX) (l, D, cA, qM) L xs, fx_Snd (lw_J0 l D cA qX qM p e s m below meth c b) r.1 r.2 := by
  have hF := hC.1
  have hts := hC.1.2.2.2.2
  have hm : ∀ {w : Cond}, w ∈ TB → w.before #[Value.ref b] s = true := fun h => hts _ h
  refine List.forall_mem_cons.mpr ⟨fs_loada_n hF d_La_545 rfl, ?_⟩
  refine List.forall_mem_cons.mpr ⟨fs_lx hC ⟨callB_of 0 hts (tb_good0 wk_Fc_cleared) rfl rfl rfl (hm wl_32) (hm wl_521) pl_Fc_cleared ⟨Nat.le_of_ble_eq_true rfl, Nat.le_of_ble_eq_true rfl⟩, hm wl_522, hm wl_523⟩ d_La_546, ?_⟩
  refine List.forall_mem_cons.mpr ⟨fs_loada_n hF d_La_549 rfl, ?_⟩
  refine List.forall_mem_cons.mpr ⟨fs_lm hC ⟨callB_of 0 hts (tb_good0 wk_Md_cleared) rfl rfl rfl (hm wl_39) (hm wl_810) pl_Md_cleared ⟨Nat.le_of_ble_eq_true rfl, Nat.le_of_ble_eq_true rfl⟩, hm wl_811, hm wl_812⟩ d_La_550, ?_⟩
  refine List.forall_mem_cons.mpr ⟨fs_cmpeq hF d_La_553 (by decide), ?_⟩
  refine List.forall_mem_cons.mpr ⟨fs_const hF d_La_556 (by decide), ?_⟩
  exact fun _ h => absurd h List.not_mem_nil
def tl_558 (κX κM : fx_K) (L : Nat) (xs : Nat → Int32) : List (Nat × fx_M LS2) := [(558, fm_loada 1 559),
  (559, fm_lx true 0 (MC_Fc_lead κX) 562),
  (562, fm_loada 2 563),
  (563, fm_lm true 0 (MC_Md_lead κM) 566),
  (566, fm_cmpeq 584 569),
  (569, fm_const 0 570)]
set_option maxHeartbeats 4000000 in
set_option maxRecDepth 100000 in
theorem sl_558 {l : Launch} {D : va_G} {cA : Nat → ClassId} {qX qM : Nat → Nat} {p : Program} {e : Env} {s : State} {m : MethodId} {below : List Frame} {meth : Method} {c : Code} {b L : Nat} {xs : Nat → Int32} (hC : lw_C p s m meth c b L xs D cA qX qM) : ∀ r ∈ tl_558 (l, D, cA, qX) (l, D, cA, qM) L xs, fx_Snd (lw_J0 l D cA qX qM p e s m below meth c b) r.1 r.2 := by
  have hF := hC.1
  have hts := hC.1.2.2.2.2
  have hm : ∀ {w : Cond}, w ∈ TB → w.before #[Value.ref b] s = true := fun h => hts _ h
  refine List.forall_mem_cons.mpr ⟨fs_loada_n hF d_La_558 rfl, ?_⟩
  refine List.forall_mem_cons.mpr ⟨fs_lx hC ⟨callB_of 0 hts (tb_good0 wk_Fc_lead) rfl rfl rfl (hm wl_32) (hm wl_525) pl_Fc_lead ⟨Nat.le_of_ble_eq_true rfl, Nat.le_of_ble_eq_true rfl⟩, hm wl_526, hm wl_527⟩ d_La_559, ?_⟩
  refine List.forall_mem_cons.mpr ⟨fs_loada_n hF d_La_562 rfl, ?_⟩
  refine List.forall_mem_cons.mpr ⟨fs_lm hC ⟨callB_of 0 hts (tb_good0 wk_Md_lead) rfl rfl rfl (hm wl_39) (hm wl_814) pl_Md_lead ⟨Nat.le_of_ble_eq_true rfl, Nat.le_of_ble_eq_true rfl⟩, hm wl_815, hm wl_816⟩ d_La_563, ?_⟩
  refine List.forall_mem_cons.mpr ⟨fs_cmpeq hF d_La_566 (by decide), ?_⟩
  refine List.forall_mem_cons.mpr ⟨fs_const hF d_La_569 (by decide), ?_⟩
  exact fun _ h => absurd h List.not_mem_nil
def tl_571 (κX κM : fx_K) (L : Nat) (xs : Nat → Int32) : List (Nat × fx_M LS2) := [(571, fm_loada 1 572),
  (572, fm_lx true 0 (MC_Fc_period κX) 575),
  (575, fm_loada 2 576),
  (576, fm_lm true 0 (MC_Md_period κM) 579),
  (579, fm_cmpeq 584 582),
  (582, fm_const 0 583)]
set_option maxHeartbeats 4000000 in
set_option maxRecDepth 100000 in
theorem sl_571 {l : Launch} {D : va_G} {cA : Nat → ClassId} {qX qM : Nat → Nat} {p : Program} {e : Env} {s : State} {m : MethodId} {below : List Frame} {meth : Method} {c : Code} {b L : Nat} {xs : Nat → Int32} (hC : lw_C p s m meth c b L xs D cA qX qM) : ∀ r ∈ tl_571 (l, D, cA, qX) (l, D, cA, qM) L xs, fx_Snd (lw_J0 l D cA qX qM p e s m below meth c b) r.1 r.2 := by
  have hF := hC.1
  have hts := hC.1.2.2.2.2
  have hm : ∀ {w : Cond}, w ∈ TB → w.before #[Value.ref b] s = true := fun h => hts _ h
  refine List.forall_mem_cons.mpr ⟨fs_loada_n hF d_La_571 rfl, ?_⟩
  refine List.forall_mem_cons.mpr ⟨fs_lx hC ⟨callB_of 0 hts (tb_good0 wk_Fc_period) rfl rfl rfl (hm wl_32) (hm wl_529) pl_Fc_period ⟨Nat.le_of_ble_eq_true rfl, Nat.le_of_ble_eq_true rfl⟩, hm wl_530, hm wl_531⟩ d_La_572, ?_⟩
  refine List.forall_mem_cons.mpr ⟨fs_loada_n hF d_La_575 rfl, ?_⟩
  refine List.forall_mem_cons.mpr ⟨fs_lm hC ⟨callB_of 0 hts (tb_good0 wk_Md_period) rfl rfl rfl (hm wl_39) (hm wl_818) pl_Md_period ⟨Nat.le_of_ble_eq_true rfl, Nat.le_of_ble_eq_true rfl⟩, hm wl_819, hm wl_820⟩ d_La_576, ?_⟩
  refine List.forall_mem_cons.mpr ⟨fs_cmpeq hF d_La_579 (by decide), ?_⟩
  refine List.forall_mem_cons.mpr ⟨fs_const hF d_La_582 (by decide), ?_⟩
  exact fun _ h => absurd h List.not_mem_nil
