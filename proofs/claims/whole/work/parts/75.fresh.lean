/-! the world of a fresh object, as the constructor leaves it -/
def fx_wr {α β : Type} (f : Nat → α → β) : Nat → List α → List β
  | _, [] => []
  | n, a :: l => f n a :: fx_wr f (n + 1) l
theorem fx_wr_eq {α β : Type} : ∀ (l : List α) (n : Nat) (f : Nat → α → β), fx_wr f n l = l.mapIdx (fun i => f (i + n))
  | [], n, f => by simp [fx_wr]
  | a :: l, n, f => by
    have e : (fun i => f (i + (n + 1))) = (fun i => f (i + 1 + n)) := by
      funext i; exact congrArg f (by omega)
    rw [List.mapIdx_cons, fx_wr, fx_wr_eq l (n + 1) f, e, Nat.zero_add]
def fx_e2 (cA : Nat → ClassId) (q : Nat → Nat) (r : Nat → Int32) : (Nat × Nat) ⊕ (Nat × List (Option Nat)) → va_E
  | .inl (t, n) => .inl (cA t, n, .inl r)
  | .inr (ci, fs) => .inr (ci, fx_wr (fx_f q r) 0 fs)
theorem fx_e2_eq (cA : Nat → ClassId) (q : Nat → Nat) (r : Nat → Int32) (c : (Nat × Nat) ⊕ (Nat × List (Option Nat))) : fx_e2 cA q r c = fx_e cA q r c := by
  rcases c with ⟨t, n⟩ | ⟨ci, fs⟩
  · rfl
  · show (Sum.inr (ci, fx_wr (fx_f q r) 0 fs) : va_E) = Sum.inr (ci, fs.mapIdx (fx_f q r))
    rw [fx_wr_eq]
    rfl
theorem fx_w2 (cA : Nat → ClassId) (q : Nat → Nat) (ly : fx_L) (S : fx_S) : fx_w cA q ly S = fx_wr (fun k c => (q k, fx_e2 cA q (S k) c)) 0 ly := by
  rw [fx_wr_eq]
  unfold fx_w
  have e : (fun (k : Nat) (c : (Nat × Nat) ⊕ (Nat × List (Option Nat))) => (q k, fx_e cA q (S k) c)) = (fun i => (fun (k : Nat) (c : (Nat × Nat) ⊕ (Nat × List (Option Nat))) => (q k, fx_e2 cA q (S k) c)) (i + 0)) := by
    funext k c
    show (q k, fx_e cA q (S k) c) = (q k, fx_e2 cA q (S k) c)
    rw [fx_e2_eq]
  rw [e]
theorem lw_wX (cA : Nat → ClassId) (h0 : Nat) (u : Nat → Nat) : fx_w cA (lw_qX h0 u) lyX lw_S0 = [(h0, .inr (0, [.ref (u 1), .ref (u 2), .ref (u 3), .ref (u 4), .ref (u 5), .ref (u 6), .ref (u 7), .int 0, .int 0, .int 0, .int 0, .int 0, .int 0, .int 0, .int 0, .int 0, .int 0])), (u 1, .inr (1, [.ref ((u 8)), .ref ((u 9)), .int 0, .int 0])), (u 2, .inr (2, [.ref ((u 10)), .ref ((u 11)), .ref ((u 12)), .ref ((u 13)), .int 0])), (u 3, .inr (3, [.ref ((u 14)), .ref ((u 15)), .ref ((u 16)), .ref ((u 17)), .int 0])), (u 4, .inr (4, [.ref ((u 18)), .ref ((u 19)), .ref ((u 20)), .int 0])), (u 5, .inr (5, [.ref ((u 21)), .ref ((u 22)), .ref ((u 23)), .ref ((u 24)), .ref ((u 25)), .int 0, .int 0])), (u 6, .inr (6, [.ref ((u 26)), .ref ((u 27)), .int 0, .int 0, .int 0, .int 0, .int 0, .int 0, .int 0, .int 0, .int 0])), (u 7, in_ar cA 0 8), (u 8, in_ar cA 0 8), (u 9, in_ar cA 0 3), (u 10, in_ar cA 0 24), (u 11, in_ar cA 0 24), (u 12, in_ar cA 0 24), (u 13, in_ar cA 0 24), (u 14, in_ar cA 0 12), (u 15, in_ar cA 0 12), (u 16, in_ar cA 0 12), (u 17, in_ar cA 0 3), (u 18, in_ar cA 0 4), (u 19, in_ar cA 0 4), (u 20, in_ar cA 0 4), (u 21, in_ar cA 0 12), (u 22, in_ar cA 0 12), (u 23, in_ar cA 0 12), (u 24, in_ar cA 0 12), (u 25, in_ar cA 0 12), (u 26, in_ar cA 0 8), (u 27, in_ar cA 0 513)] := by
  rw [fx_w2]; rfl
theorem lw_wM (cA : Nat → ClassId) (h0 : Nat) (u : Nat → Nat) : fx_w cA (lw_qM h0 u) lyM lw_S0 = [(h0, .inr (7, [.int 0, .ref (u 0), .ref (u 1), .int 0, .ref (u 2), .ref (u 3), .ref (u 4), .ref (u 5), .ref (u 6), .int 0, .ref (u 7), .ref (u 8), .ref (u 9), .int 0, .ref (u 10), .ref (u 11), .ref (u 12), .int 0, .ref (u 13), .ref (u 14), .ref (u 15), .ref (u 16), .ref (u 17), .ref (u 18), .int 0, .int 0, .int 0, .ref (u 19), .int 0, .int 0, .int 0, .int 0, .int 0, .int 0, .int 0, .int 0, .ref (u 20), .int 0, .int 0, .int 0, .int 0, .int 0, .ref (u 21)])), (u 0, in_ar cA 0 8), (u 1, in_ar cA 1 8), (u 2, in_ar cA 0 24), (u 3, in_ar cA 0 24), (u 4, in_ar cA 0 24), (u 5, in_ar cA 0 24), (u 6, in_ar cA 1 24), (u 7, in_ar cA 0 12), (u 8, in_ar cA 0 12), (u 9, in_ar cA 0 12), (u 10, in_ar cA 0 4), (u 11, in_ar cA 0 4), (u 12, in_ar cA 0 4), (u 13, in_ar cA 0 12), (u 14, in_ar cA 0 12), (u 15, in_ar cA 0 12), (u 16, in_ar cA 0 12), (u 17, in_ar cA 1 12), (u 18, in_ar cA 0 12), (u 19, in_ar cA 0 8), (u 20, in_ar cA 0 8), (u 21, in_ar cA 0 6561)] := by
  rw [fx_w2]; rfl
theorem lw_rng (w1 w2 : va_W) {n : Nat} (hn : w1.length = n) : (List.range n).map (fun i => (w1 ++ w2)[i]?) = w1.map some := by
  subst hn
  apply List.ext_getElem?
  intro i
  rw [List.getElem?_map, List.getElem?_map]
  by_cases h : i < w1.length
  · rw [List.getElem?_range h, List.getElem?_eq_getElem h]
    simp [List.getElem?_append_left h]
  · rw [List.getElem?_eq_none (by simpa using h), List.getElem?_eq_none (by simpa using h)]
    rfl
