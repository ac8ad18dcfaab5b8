section START
variable {l : Launch} {p : Program} {e : Env} {s : State} {m : MethodId} {below : List Frame} {meth : Method} {c : Code} {b : Nat} {D : va_G} {cA : Nat → ClassId} {A : Nat → Prop} {ls : Array Slot} {Q : State → Prop}
set_option maxHeartbeats 1000000 in
set_option maxRecDepth 100000 in
theorem st_X (hF : CallFix p m c code 4 s #[Value.ref b] TB R_law) (hK : va_K D vwCl (fx_ty cA) s) (hnw : ∀ w ∈ nwl, va_Nw w s) (hA : ∀ q : Nat, s.heap.size ≤ q → A q) (hl : lv_has ls 4 [(0, .ref b)]) (kk : ∀ (qx : Nat) (u : Nat → Nat) (ls : Array Slot) (H : Heap) (locs : List Loc), lv_has ls 4 [(1, .ref qx), (0, .ref b)] → va_P D vwCl (fx_w cA (lw_qX qx u) lyX lw_S0) H → va_D A (fx_w cA (lw_qX qx u) lyX lw_S0) → va_S A s.heap H locs → W p l e room_1 s m #[Value.ref b] below meth c H locs 28 800 Q (F0 m 8 ls [])) : W p l e room_1 s m #[Value.ref b] below meth c s.heap [] 0 0 Q (F0 m 0 ls []) := by
  obtain ⟨hx, hb, hml, hown, hts⟩ := hF
  have hm : ∀ {w : Cond}, w ∈ TB → w.before #[Value.ref b] s = true := fun h => hts _ h
  have hP : va_P D vwCl [] s.heap := fun k q h => by simp at h
  have hD : va_D A [] := ⟨fun i j p q h => by simp at h, fun k q h => by simp at h⟩
  have hS : va_S A s.heap s.heap [] := va_S.rf
  refine va_new (ci := 0) (fs := [.null, .null, .null, .null, .null, .null, .null, .int 0, .int 0, .int 0, .int 0, .int 0, .int 0, .int 0, .int 0, .int 0, .int 0]) (C := R_Fc) (T := T_Fc) (N := 17) hx hb hts in_Fc ty_Fc tk_Fc hown (hm wm_41) (hm wm_42) (hm wl_32) hK hP hD hS hA rfl (fun j hj => df_Fc j hj) (Nat.le_of_ble_eq_true rfl) (Nat.le_of_ble_eq_true rfl) d_La_0 (fun qx H hP hD hS => ?_)
  refine W.widen (k := 1) (n := 17) (Nat.le_of_ble_eq_true rfl) (Nat.le_of_ble_eq_true rfl) ?_
  have hP : va_P D vwCl [(qx, .inr (0, [.null, .null, .null, .null, .null, .null, .null, .int 0, .int 0, .int 0, .int 0, .int 0, .int 0, .int 0, .int 0, .int 0, .int 0]))] H := hP
  have hD : va_D A [(qx, .inr (0, [.null, .null, .null, .null, .null, .null, .null, .int 0, .int 0, .int 0, .int 0, .int 0, .int 0, .int 0, .int 0, .int 0, .int 0]))] := hD
  refine lv_dup hx hb d_La_3 rfl ?_
  have hFc := va_free (wc := [(qx, .inr (0, [.null, .null, .null, .null, .null, .null, .null, .int 0, .int 0, .int 0, .int 0, .int 0, .int 0, .int 0, .int 0, .int 0, .int 0]))]) hD hS hA [0] rfl
  refine va_callv (va_runI (As := []) (rest := [.ref qx]) ⟨hx, hb, hml, hown, hts⟩ (ci_Fc_init l D cA qx H.size) ⟨callB_of 0 hts (tb_good0 wc_Fc_init) rfl rfl rfl (hm wl_32) (hm wm_43) pd_Fc_init ⟨Nat.le_of_ble_eq_true rfl, Nat.le_of_ble_eq_true rfl⟩, rfl, hm wm_44⟩ ⟨fun a U g mk q => by obtain ⟨q0, q1, qP, qK, qD, qN⟩ := q; exact ⟨q0, q1, qP, va_K.moved (u := U) (U := U.calling g mk a) (Vm.Alike.refl U.vm) qK, qD, fun w hw => va_Nw.same (u := U) (U := U.calling g mk a) (nwl_ok w hw).1 rfl (qN w hw)⟩, fun U hU hW => ⟨rfl, by rw [hU], by rw [hU]; exact hP, va_K.moved hW.alike hK, hD.weaken (fun _ _ _ _ => trivial), fun w hw => (nwl_ok w hw).2 s U hW (hnw w hw)⟩⟩ rfl rfl hl.1 rfl (lv_room (Nat.le_of_ble_eq_true rfl)) d_La_4 ⟨Nat.le_of_ble_eq_true rfl, Nat.le_of_ble_eq_true rfl⟩) hS (fun q _ h => hFc q h) hFc (fun uX t H1 locs1 ht hvm _ hB hz1 hk1 hS => ?_)
  obtain ⟨hP1, hD1⟩ := hB
  rw [ht] at hP1
  rw [← lw_wX] at hP1 hD1
  refine W.widen (k := 28) (n := 800) (Nat.le_of_ble_eq_true rfl) (Nat.le_of_ble_eq_true rfl) ?_
  exact lv_astore_n hx hb d_La_7 rfl hl (by decide) rfl (fun ls hl => kk qx uX ls H1 locs1 hl hP1 ⟨hD1.1, fun k q h => hFc _ (hD1.2 k q h)⟩ hS)
set_option maxHeartbeats 1000000 in
set_option maxRecDepth 100000 in
theorem st_M {W1 : va_W} {H : Heap} {locs : List Loc} {qx : Nat} (hW1 : W1.length = 28) (hF : CallFix p m c code 4 s #[Value.ref b] TB R_law) (hK : va_K D vwCl (fx_ty cA) s) (hA : ∀ q : Nat, s.heap.size ≤ q → A q) (hl : lv_has ls 4 [(1, .ref qx), (0, .ref b)]) (hP : va_P D vwCl W1 H) (hD : va_D A W1) (hS : va_S A s.heap H locs) (kk : ∀ (qm : Nat) (u : Nat → Nat) (ls : Array Slot) (H : Heap) (locs : List Loc), lv_has ls 4 [(3, .int 0), (2, .ref qm), (1, .ref qx), (0, .ref b)] → va_P D vwCl (W1 ++ fx_w cA (lw_qM qm u) lyM lw_S0) H → va_D A (W1 ++ fx_w cA (lw_qM qm u) lyM lw_S0) → va_S A s.heap H locs → W p l e room_1 s m #[Value.ref b] below meth c H locs 51 7676 Q (F0 m 18 ls [])) : W p l e room_1 s m #[Value.ref b] below meth c H locs 28 800 Q (F0 m 8 ls []) := by
  obtain ⟨hx, hb, hml, hown, hts⟩ := hF
  have hm : ∀ {w : Cond}, w ∈ TB → w.before #[Value.ref b] s = true := fun h => hts _ h
  refine va_new (ci := 7) (fs := [.int 0, .null, .null, .int 0, .null, .null, .null, .null, .null, .int 0, .null, .null, .null, .int 0, .null, .null, .null, .int 0, .null, .null, .null, .null, .null, .null, .int 0, .int 0, .int 0, .null, .int 0, .int 0, .int 0, .int 0, .int 0, .int 0, .int 0, .int 0, .null, .int 0, .int 0, .int 0, .int 0, .int 0, .null]) (C := R_Md) (T := T_Md) (N := 43) hx hb hts in_Md ty_Md tk_Md hown (hm wm_533) (hm wm_534) (hm wl_39) hK hP hD hS hA rfl (fun j hj => df_Md j hj) (Nat.le_of_ble_eq_true rfl) (Nat.le_of_ble_eq_true rfl) d_La_8 (fun qm H hP hD hS => ?_)
  refine W.widen (k := 29) (n := 843) (Nat.le_of_ble_eq_true rfl) (Nat.le_of_ble_eq_true rfl) ?_
  refine lv_dup hx hb d_La_11 rfl ?_
  generalize hw9 : ((qm, .inr (7, [.int 0, .null, .null, .int 0, .null, .null, .null, .null, .null, .int 0, .null, .null, .null, .int 0, .null, .null, .null, .int 0, .null, .null, .null, .null, .null, .null, .int 0, .int 0, .int 0, .null, .int 0, .int 0, .int 0, .int 0, .int 0, .int 0, .int 0, .int 0, .null, .int 0, .int 0, .int 0, .int 0, .int 0, .null])) : Nat × va_E) = w9 at hP hD
  have g28 : (W1 ++ [w9])[28]? = some w9 := by rw [← hW1]; simp
  have hPc := hP.sub (ws' := [w9]) [28] (by simp only [List.filterMap_cons, List.filterMap_nil, g28])
  have hDc := hD.sub (ws' := [w9]) [28] (by decide) (by simp only [List.map_cons, List.map_nil, g28])
  have hFc := va_free (wc := [w9]) hD hS hA [28] (by simp only [List.map_cons, List.map_nil, g28])
  have hJn : ∀ {H1 : Heap} {w1 : va_W}, (∀ q : Nat, q < H.size → ¬ va_A [w9] H.size q → H1[q]? = H[q]?) → va_P D vwCl w1 H1 → va_D (va_A [w9] H.size) w1 → va_P D vwCl (W1 ++ w1) H1 ∧ va_D A (W1 ++ w1) := fun hk1 hP1 hD1 => va_join hP hD [28] (List.range 28) (by simp only [List.map_cons, List.map_nil, g28]) (lw_rng W1 [w9] hW1) (by decide) (by decide) hk1 hFc hP1 hD1
  subst hw9
  refine va_callv (va_runI (As := []) (rest := [.ref qm]) ⟨hx, hb, hml, hown, hts⟩ (ci_Md_init l D cA qm H.size) ⟨callB_of 0 hts (tb_good0 wc_Md_init) rfl rfl rfl (hm wl_39) (hm wm_535) pd_Md_init ⟨Nat.le_of_ble_eq_true rfl, Nat.le_of_ble_eq_true rfl⟩, rfl, hm wm_536⟩ ⟨fun a U g mk q => by obtain ⟨q0, q1, qP, qK, qD⟩ := q; exact ⟨q0, q1, qP, va_K.moved (u := U) (U := U.calling g mk a) (Vm.Alike.refl U.vm) qK, qD⟩, fun U hU hW => ⟨rfl, by rw [hU], by rw [hU]; exact hPc, va_K.moved hW.alike hK, hDc.weaken (fun _ _ _ _ => trivial)⟩⟩ rfl rfl hl.1 rfl (lv_room (Nat.le_of_ble_eq_true rfl)) d_La_12 ⟨Nat.le_of_ble_eq_true rfl, Nat.le_of_ble_eq_true rfl⟩) hS (fun q _ h => hFc q h) hFc (fun uM t H1 locs1 ht hvm _ hB hz1 hk1 hS => ?_)
  obtain ⟨hP1, hD1⟩ := hB
  rw [ht] at hP1
  rw [← lw_wM] at hP1 hD1
  obtain ⟨hP2, hD2⟩ := hJn hk1 hP1 hD1
  refine W.widen (k := 51) (n := 7676) (Nat.le_of_ble_eq_true rfl) (Nat.le_of_ble_eq_true rfl) ?_
  refine lv_astore_n hx hb d_La_15 rfl hl (by decide) rfl (fun ls hl => ?_)
  refine lv_iconst (v := 0) hx hb d_La_16 (by decide) ?_
  exact lv_istore_n hx hb d_La_17 rfl hl (by decide) rfl (fun ls hl => kk qm uM ls H1 locs1 hl hP2 hD2 hS)
end START
set_option maxHeartbeats 1000000 in
set_option maxRecDepth 100000 in
theorem whole_start {p : Program} {e : Env} {s : State} {m : MethodId} {below : List Frame} {meth : Method} {c : Code} (l : Launch) {b L : Nat} {xs : Nat → Int32} (hL : L ≤ 2560) (C0 : lw_At p s m meth c b L xs) : W p l e room_1 s m #[Value.ref b] below meth c s.heap [] 0 0 (lw_Z below #[Value.ref b] s) (entryFrame m ([Value.ref b] : List Value).toArray 4) := by
  obtain ⟨hx, hb, hr, hml, hown, hts0, hXs, hbl, hlocks, -⟩ := C0
  have hts : ∀ w ∈ TB, w.before #[Value.ref b] s = true := fun w h => hts0 w (List.mem_filter.mp h).1
  obtain ⟨D, cA, hK⟩ := lw_K hts
  have hnw : ∀ w ∈ nwl, va_Nw w s := lw_nw hts0
  have hF : CallFix p m c code 4 s #[Value.ref b] TB R_law := ⟨hx, hb, hml, hown, hts⟩
  have hl := lv_entry ([.ref b]) (n := 4) (Nat.le_of_ble_eq_true rfl)
  rw [lg_entry_eq]
  generalize (lg_sl ([.ref b]) ++ List.replicate (4 - (lg_sl ([.ref b])).length) Slot.unset).toArray = ls at hl ⊢
  have hl : lv_has ls 4 [(0, .ref b)] := hl
  refine st_X (A := fun a => s.heap.size ≤ a) hF hK hnw (fun _ h => h) hl (fun qx uX ls H locs hl hP hD hS => ?_)
  refine st_M (A := fun a => s.heap.size ≤ a) (fx_w_len (ly := lyX)) hF hK (fun _ h => h) hl hP hD hS (fun qm uM ls H locs hl hP hD hS => ?_)
  obtain ⟨x1, x2, x3, x4, x5⟩ := lw_apart hD
  have hC : lw_C p s m meth c b L xs D cA (lw_qX qx uX) (lw_qM qm uM) := ⟨hF, hK, hnw, hXs, hbl, x1, x2, x3, x4, x5, hlocks, hr⟩
  have hJ : lw_J0 l D cA (lw_qX qx uX) (lw_qM qm uM) p e s m below meth c b 18 [.inr 2, .inr 0, .inr 1, .inl (nI (5 * 0))] [] (lw_S0, lw_S0) := lw_loop (κX := (l, D, cA, lw_qX qx uX)) (κM := (l, D, cA, lw_qM qm uM)) x4 x5 hL (sl_h hC) (sl_120 hC) (sl_169 hC) (sl_212 hC) (sl_255 hC) (sl_298 hC) (sl_351 hC) (sl_364 hC) (sl_403 hC) (sl_414 hC) (sl_447 hC) (sl_460 hC) (sl_483 hC) (sl_496 hC) (sl_509 hC) (sl_532 hC) (sl_545 hC) (sl_558 hC) (sl_571 hC) fx_W_take (L + 5) 0 lw_S0 lw_S0 RR_0 (by omega) (by omega)
  refine hJ ls H locs (fx_has_mono hl (fun x hx => ?_)) ⟨fun k q h => hP k q ?_, fun k q h => hP (28 + k) q ?_⟩ hS
  · obtain ⟨i, v, hi, rfl⟩ := fx_ls_mem.mp hx
    match i, hi with
    | 0, hi => cases hi; exact List.mem_cons_of_mem _ (List.mem_cons_of_mem _ (List.mem_cons_of_mem _ List.mem_cons_self))
    | 1, hi => cases hi; exact List.mem_cons_of_mem _ (List.mem_cons_of_mem _ List.mem_cons_self)
    | 2, hi => cases hi; exact List.mem_cons_of_mem _ List.mem_cons_self
    | 3, hi => cases hi; exact List.mem_cons_self
    | i + 4, hi => simp at hi
  · rw [List.getElem?_append_left (List.getElem?_eq_some_iff.mp h).1]; exact h
  · rw [List.getElem?_append_right (by rw [fx_w_len]; exact Nat.le_add_right 28 k), fx_w_len, show 28 + k - lyX.length = k from Nat.add_sub_cancel_left 28 k]; exact h
