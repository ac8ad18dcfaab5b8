/-! unreached: both come to the same set -/
theorem px_in_any (k : Int32) : ∃ j, j < 32 ∧ ∀ x, px_in x k ↔ bt x j = true := by
  have hle : (k &&& 31).toBitVec.toNat ≤ 31 := by
    rw [Int32.toBitVec_and, BitVec.toNat_and]
    exact Nat.and_le_right
  have he : nI (k &&& 31).toBitVec.toNat = k &&& 31 := by
    apply Int32.toBitVec_inj.mp
    show BitVec.ofNat 32 _ = _
    rw [BitVec.ofNat_toNat]
    exact BitVec.setWidth_eq _
  refine ⟨(k &&& 31).toBitVec.toNat, by omega, fun x => ?_⟩
  rw [← px_in_bt (by omega)]
  have h2 : nI (k &&& 31).toBitVec.toNat &&& 31 = k &&& 31 := by
    rw [he]
    apply b_ext
    intro i hi
    rw [b_and, b_and]
    cases bt k i <;> cases bt 31 i <;> rfl
  unfold px_in
  rw [h2]
theorem px_in_mono {x y k : Int32} (h : px_sub x y) (hx : px_in x k) : px_in y k := by
  obtain ⟨j, hj, hk⟩ := px_in_any k
  exact (hk y).mpr (px_sub_bt.mp h j hj ((hk x).mp hx))
theorem px_sub_0 (c : Int32) : px_sub 0 c := px_sub_bt.mpr (fun i _ h => by rw [b_0] at h; cases h)
theorem un_in {en : Nat → Int32} {se c : Int32} : ∀ n, px_sub (pf_un en se n) c ↔ ∀ k, k < n → px_in se (nI k) → px_sub (en k) c
  | 0 => ⟨fun _ k hk => absurd hk (by omega), fun _ => px_sub_0 c⟩
  | n + 1 => by
    have ih := un_in (en := en) (se := se) (c := c) n
    rw [pf_un]
    by_cases h : px_in se (nI n)
    · rw [if_pos h, px_sub_or, ih]
      refine ⟨fun q k hk hi => ?_, fun q => ⟨fun k hk => q k (by omega), q n (by omega) h⟩⟩
      by_cases hkn : k = n
      · subst hkn; exact q.2
      · exact q.1 k (by omega) hi
    · rw [if_neg h, ih]
      refine ⟨fun q k hk hi => ?_, fun q k hk => q k (by omega)⟩
      by_cases hkn : k = n
      · subst hkn; exact absurd hi h
      · exact q k (by omega) hi
theorem fix_in {gv fx : Nat → Int32} {se c : Int32} : ∀ n, px_sub (pf_fix gv fx se n) c ↔ ∀ k, k < n → px_in se (gv k) → ¬ fx k = -1 → px_sub (fx k) c
  | 0 => ⟨fun _ k hk => absurd hk (by omega), fun _ => px_sub_0 c⟩
  | n + 1 => by
    have ih := fix_in (gv := gv) (fx := fx) (se := se) (c := c) n
    have hfo : px_sub (pf_fo (fx n) 0) c ↔ (¬ fx n = -1 → px_sub (fx n) c) := by
      unfold pf_fo
      by_cases hm : fx n = -1
      · rw [if_pos hm]; exact ⟨fun _ q => absurd hm q, fun _ => px_sub_0 c⟩
      · rw [if_neg hm]; exact ⟨fun q _ => q, fun q => q hm⟩
    rw [pf_fix]
    by_cases h : px_in se (gv n)
    · rw [if_pos h, px_sub_or, ih, hfo]
      refine ⟨fun q k hk hi => ?_, fun q => ⟨fun k hk => q k (by omega), q n (by omega) h⟩⟩
      by_cases hkn : k = n
      · subst hkn; exact q.2
      · exact q.1 k (by omega) hi
    · rw [if_neg h, ih]
      refine ⟨fun q k hk hi => ?_, fun q k hk => q k (by omega)⟩
      by_cases hkn : k = n
      · subst hkn; exact absurd hi h
      · exact q k (by omega) hi
def un_cl (bf af og fx : Nat → Int32) (nT nO : Nat) (c : Int32) : Prop := (∀ t, t < nT → px_sub (bf t) c → px_sub (af t) c) ∧ ∀ k, k < nO → px_in c (og k) → ¬ fx k = -1 → px_sub (fx k) c
theorem rt_ge {bf af : Nat → Int32} {r : Int32} : ∀ n, px_sub r (pm_rt bf af n r)
  | 0 => px_sub_rf r
  | n + 1 => by
    have ih := rt_ge (bf := bf) (af := af) (r := r) n
    rw [pm_rt]
    by_cases h : px_sub (bf n) (pm_rt bf af n r)
    · rw [if_pos h]; exact px_sub_or_r _ ih
    · rw [if_neg h]; exact ih
theorem ro_ge {og fx : Nat → Int32} {r : Int32} : ∀ n, px_sub r (pm_ro og fx n r)
  | 0 => px_sub_rf r
  | n + 1 => by
    have ih := ro_ge (og := og) (fx := fx) (r := r) n
    rw [pm_ro]
    by_cases h : px_in (pm_ro og fx n r) (og n) ∧ ¬ fx n = -1
    · rw [if_pos h]; exact px_sub_or_r _ ih
    · rw [if_neg h]; exact ih
theorem rt_in {bf af : Nat → Int32} {r c : Int32} (hr : px_sub r c) : ∀ n, (∀ t, t < n → px_sub (bf t) c → px_sub (af t) c) → px_sub (pm_rt bf af n r) c
  | 0, _ => hr
  | n + 1, hc => by
    have ih := rt_in (bf := bf) (af := af) hr n (fun t ht => hc t (by omega))
    rw [pm_rt]
    by_cases h : px_sub (bf n) (pm_rt bf af n r)
    · rw [if_pos h]; exact px_sub_or.mpr ⟨ih, hc n (by omega) (px_sub_tr h ih)⟩
    · rw [if_neg h]; exact ih
theorem ro_in {og fx : Nat → Int32} {r c : Int32} (hr : px_sub r c) : ∀ n, (∀ k, k < n → px_in c (og k) → ¬ fx k = -1 → px_sub (fx k) c) → px_sub (pm_ro og fx n r) c
  | 0, _ => hr
  | n + 1, hc => by
    have ih := ro_in (og := og) (fx := fx) hr n (fun t ht => hc t (by omega))
    rw [pm_ro]
    by_cases h : px_in (pm_ro og fx n r) (og n) ∧ ¬ fx n = -1
    · rw [if_pos h]; exact px_sub_or.mpr ⟨ih, hc n (by omega) (px_in_mono ih h.1) h.2⟩
    · rw [if_neg h]; exact ih
theorem rt_fx {bf af : Nat → Int32} {r : Int32} : ∀ n, px_sub (pm_rt bf af n r) r → ∀ t, t < n → px_sub (bf t) r → px_sub (af t) r
  | 0, _, t, ht => absurd ht (by omega)
  | n + 1, h, t, ht => by
    rw [pm_rt] at h
    by_cases hb : px_sub (bf n) (pm_rt bf af n r)
    · rw [if_pos hb] at h
      have h1 := px_sub_or.mp h
      intro hs
      by_cases htn : t = n
      · subst htn; exact h1.2
      · exact rt_fx n h1.1 t (by omega) hs
    · rw [if_neg hb] at h
      intro hs
      by_cases htn : t = n
      · subst htn; exact absurd (px_sub_tr hs (rt_ge t)) hb
      · exact rt_fx n h t (by omega) hs
theorem ro_fx {og fx : Nat → Int32} {r : Int32} : ∀ n, px_sub (pm_ro og fx n r) r → ∀ k, k < n → px_in r (og k) → ¬ fx k = -1 → px_sub (fx k) r
  | 0, _, t, ht => absurd ht (by omega)
  | n + 1, h, t, ht => by
    rw [pm_ro] at h
    by_cases hb : px_in (pm_ro og fx n r) (og n) ∧ ¬ fx n = -1
    · rw [if_pos hb] at h
      have h1 := px_sub_or.mp h
      intro hs hm
      by_cases htn : t = n
      · subst htn; exact h1.2
      · exact ro_fx n h1.1 t (by omega) hs hm
    · rw [if_neg hb] at h
      intro hs hm
      by_cases htn : t = n
      · subst htn; exact absurd ⟨px_in_mono (ro_ge t) hs, hm⟩ hb
      · exact ro_fx n h t (by omega) hs hm
theorem un_same {bf af og fx : Nat → Int32} {nT nO nS : Nat} (hT : nT ≤ 12) (hS : nS ≤ 8) {r : Int32} (hr : px_lo nS r) (ha : ∀ t, t < nT → px_lo nS (af t)) (hf : ∀ k, k < nO → fx k = -1 ∨ px_lo nS (fx k)) : cl_it (pf_rd bf af og fx nT nO) 8 r = cl_it (pm_rd bf af og fx nT nO) 9 r := by
  have lo8 : ∀ x, px_lo nS x → px_sub x 255 := fun x hx => px_sub_bt.mpr (fun i hi hb => by
    rw [b_255]
    by_cases h8 : i < 8
    · exact decide_eq_true h8
    · rw [hx i (by omega) hi] at hb; cases hb)
  have en : ∀ x t, t < nT → (px_in (pf_en bf x nT) (nI t) ↔ px_sub (bf t) x) := fun x t ht => by
    rw [px_in_bt (by omega), pf_en_bt bf x nT (by omega) t (by omega)]
    exact ⟨fun q => q.2, fun q => ⟨ht, q⟩⟩
  have fin : ∀ x c, px_sub x c → (∀ t, t < nT → px_sub (bf t) x → px_sub (af t) c) → (∀ k, k < nO → px_in x (og k) → ¬ fx k = -1 → px_sub (fx k) c) → px_sub (pf_rd bf af og fx nT nO x) c := fun x c h1 h2 h3 => by
    unfold pf_rd
    rw [px_sub_or, px_sub_or, un_in, fix_in]
    exact ⟨h1, fun t ht q => h2 t ht ((en x t ht).mp q), h3⟩
  refine cl_same (M := 255) (closed := un_cl bf af og fx nT nO) ?_ (lo8 r hr) ?_ ?_ ?_ ?_ ?_ ?_ ?_ ?_ 8 9 (by omega) (by omega)
  · intro i h1 _; rw [b_255]; exact decide_eq_false (by omega)
  · intro x; exact px_sub_l _ _
  · intro c x hc hx
    exact fin x c hx (fun t ht q => hc.1 t ht (px_sub_tr q hx)) (fun k hk q => hc.2 k hk (px_in_mono hx q))
  · intro x hx
    have h1 : px_sub (pf_rd bf af og fx nT nO x) x := by rw [hx]; exact px_sub_rf x
    unfold pf_rd at h1
    rw [px_sub_or, px_sub_or, un_in, fix_in] at h1
    exact ⟨fun t ht q => h1.2.1 t ht ((en x t ht).mpr q), h1.2.2⟩
  · intro x hx
    exact fin x 255 hx (fun t ht _ => lo8 _ (ha t ht)) (fun k hk _ hm => lo8 _ ((hf k hk).resolve_left hm))
  · intro x; exact px_sub_tr (rt_ge nT) (ro_ge nO)
  · intro c x hc hx
    exact ro_in (rt_in hx nT hc.1) nO hc.2
  · intro x hx
    have h0 : px_sub (pm_ro og fx nO (pm_rt bf af nT x)) x := by
      have : pm_rd bf af og fx nT nO x = pm_ro og fx nO (pm_rt bf af nT x) := rfl
      rw [← this, hx]; exact px_sub_rf x
    have h1 : px_sub (pm_rt bf af nT x) x := px_sub_tr (ro_ge nO) h0
    have h2 : pm_rt bf af nT x = x := px_sub_as h1 (rt_ge nT)
    rw [h2] at h0
    exact ⟨rt_fx nT h1, ro_fx nO h0⟩
  · intro x hx
    exact ro_in (rt_in hx nT (fun t ht _ => lo8 _ (ha t ht))) nO (fun k hk _ hm => lo8 _ ((hf k hk).resolve_left hm))
theorem RS_lo {X M : fx_S} {nS nE nT nO nA : Nat} (hs : RS X M nS nE nT nO nA) : (∀ t, t < nT → px_lo nS (M 9 t)) ∧ (∀ k, k < nO → M 13 k = -1 ∨ px_lo nS (M 13 k)) := by
  obtain ⟨⟨s1, s2, s3⟩, ⟨e1, e2, e3⟩, ⟨t1, t2, t3⟩, ⟨o1, o2, o3⟩, ⟨a1, a2, a3⟩, _, _, _, _, gt, go, _⟩ := hs
  refine ⟨fun t ht => ?_, fun k hk => ?_⟩
  · obtain ⟨_, _, p, hp, h⟩ := gt t ht
    exact px_lo_sub (px_sub_or.mp h).2 (pf_part_lo _ _ nS (by omega))
  · rcases go k hk with h | ⟨p, hp, h⟩
    · exact Or.inl h
    · exact Or.inr (px_lo_sub h (pf_part_lo _ _ nS (by omega)))
theorem sim_unreached {X M X' M' : fx_S} {nS nE nT nO nA : Nat} (hs : RS X M nS nE nT nO nA) (hd : RD X M nS) {r r' : Int32} (px : X' = X ∧ r = ((1 <<< (X 1 2 &&& 31)) - 1) &&& (cl_it (pf_rd (X 14) (X 15) (X 18) (X 20) nT nO) 8 (X 1 3) ^^^ (-1))) (pm : M' = M ∧ r' = ((1 <<< (M 0 0 &&& 31)) - 1) &&& (cl_it (pm_rd (M 8) (M 9) (M 11) (M 13) nT nO) 9 (pf_ini (M 2) nS) ^^^ (-1))) : r = r' ∧ RR X' M' := by
  obtain ⟨rfl, p2⟩ := px
  obtain ⟨rfl, q2⟩ := pm
  refine ⟨?_, nS, nE, nT, nO, nA, hs, hd⟩
  have hl := RS_lo hs
  obtain ⟨⟨s1, s2, s3⟩, ⟨e1, e2, e3⟩, ⟨t1, t2, t3⟩, ⟨o1, o2, o3⟩, ⟨a1, a2, a3⟩, ⟨w8, w10, w11, w12, w13, w14, w15, w16, w18, w19, w20, w21, w22, w23, w24⟩, ⟨g9, g17, g3⟩, _⟩ := hs
  rw [p2, q2, s1, s2, w14, w15, w18, w20, g3, un_same t3 s3 (pf_ini_lo _ nS (by omega)) hl.1 hl.2]
/-! the readers -/
theorem sim_same {X M X' M' : fx_S} {nS nE nT nO nA : Nat} (hs : RS X M nS nE nT nO nA) (hd : RD X M nS) {x m r r' : Int32} (hxm : x = m) (px : X' = X ∧ r = x) (pm : M' = M ∧ r' = m) : r = r' ∧ RR X' M' := by
  obtain ⟨rfl, p2⟩ := px
  obtain ⟨rfl, q2⟩ := pm
  exact ⟨by rw [p2, q2, hxm], nS, nE, nT, nO, nA, hs, hd⟩
theorem sim_enabled {X M : fx_S} {nS nE nT nO nA : Nat} (hs : RS X M nS nE nT nO nA) (hd : RD X M nS) : pf_en (X 14) (X 0 9) nT = pf_en (M 8) (M 0 26) nT := by
  rw [hd.2.2.1, hs.2.2.2.2.2.1.2.2.2.2.2.1]
theorem sim_time {X M : fx_S} {nS nE nT nO nA : Nat} (hs : RS X M nS nE nT nO nA) (hd : RD X M nS) (a : Int32) : (if 0 ≤ a ∧ a < X 1 2 then X 7 a.toNatClampNeg else 0) = (if 0 ≤ a ∧ a < M 0 0 then M 20 a.toNatClampNeg else 0) := by
  have s3 : nS ≤ 8 := hs.1.2.2
  rw [hs.1.1, hs.1.2.1]
  by_cases h : 0 ≤ a ∧ a < nI nS
  · rw [if_pos h, if_pos h]
    obtain ⟨j, hj, rfl⟩ := nI_le_of h.1 h.2 (by omega)
    rw [nI_clamp (by omega)]
    exact hd.2.2.2.2.2.2.2.2.2.2.1 j (by omega)
  · rw [if_neg h, if_neg h]
theorem sim_stored {X M : fx_S} {nS nE nT nO nA : Nat} (hs : RS X M nS nE nT nO nA) (hd : RD X M nS) (a : Int32) : px_z (0 ≤ a ∧ a < X 5 5 ∧ px_in (X 5 6) a) = px_z (0 ≤ a ∧ a < M 0 17 ∧ ¬ M 18 a.toNatClampNeg = 0) := by
  have a3 : nA ≤ 12 := hs.2.2.2.2.1.2.2
  rw [hs.2.2.2.2.1.1, hs.2.2.2.2.1.2.1]
  apply px_z_congr
  have key : 0 ≤ a → a < nI nA → (px_in (X 5 6) a ↔ ¬ M 18 a.toNatClampNeg = 0) := fun h0 h1 => by
    obtain ⟨j, hj, rfl⟩ := nI_le_of h0 h1 (by omega)
    rw [nI_clamp (by omega), (hd.2.2.2.2.2.2.2.2.2.2.2.2 j (by omega)).1, px_z_ne0, px_in_bt (by omega)]
  exact ⟨fun ⟨h0, h1, h2⟩ => ⟨h0, h1, (key h0 h1).mp h2⟩, fun ⟨h0, h1, h2⟩ => ⟨h0, h1, (key h0 h1).mpr h2⟩⟩
