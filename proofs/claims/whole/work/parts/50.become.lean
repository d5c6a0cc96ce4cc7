/-! PURE LEVEL, 11: become -/
/-- at a there is the Fleet F -/
def fa (N : ah_h) (a : Nat) (F : fl_T) : Prop := fl a F N = N
theorem fa_fl {a : Nat} {F : fl_T} {M0 : ah_h} : fa (fl a F M0) a F := by
  unfold fa
  funext q
  unfold fl
  by_cases h : a ≤ q ∧ q < a + 9 ∧ q ≠ a + 2
  · rw [if_pos h, if_pos h]
  · rw [if_neg h, if_neg h]
theorem fa_of {N N' : ah_h} {a : Nat} {F : fl_T} (h : fa N a F) (hq : ∀ q, a ≤ q → q < a + 9 → q ≠ a + 2 → N' q = N q) : fa N' a F := by
  unfold fa at *
  funext q
  have := congrFun h q
  unfold fl at this ⊢
  by_cases hc : a ≤ q ∧ q < a + 9 ∧ q ≠ a + 2
  · rw [if_pos hc] at this ⊢
    rw [hq q hc.1 hc.2.1 hc.2.2]
    exact this
  · rw [if_neg hc]
/-- the addresses of two fleets are apart -/
def fa_ap (a a' : Nat) : Prop := a + 9 ≤ a' ∨ a' + 9 ≤ a
theorem fa_fl' {a a' : Nat} {F F' : fl_T} {M0 : ah_h} (h : fa M0 a' F') (ha : fa_ap a a') : fa (fl a F M0) a' F' :=
  fa_of h (fun q h1 h2 _ => fl_out (by unfold fa_ap at ha; omega))
section FA
variable {N : ah_h} {a : Nat} {F : fl_T}
theorem fa.r3 (h : fa N a F) : ah_gr N a 2 3 = some (a + 1) := by rw [← h]; exact fl_r3
theorem fa.r4 (h : fa N a F) : ah_gr N a 2 4 = some (a + 3) := by rw [← h]; exact fl_r4
theorem fa.r5 (h : fa N a F) : ah_gr N a 2 5 = some (a + 4) := by rw [← h]; exact fl_r5
theorem fa.r6 (h : fa N a F) : ah_gr N a 2 6 = some (a + 5) := by rw [← h]; exact fl_r6
theorem fa.r7 (h : fa N a F) : ah_gr N a 2 7 = some (a + 6) := by rw [← h]; exact fl_r7
theorem fa.r8 (h : fa N a F) : ah_gr N a 2 8 = some (a + 7) := by rw [← h]; exact fl_r8
theorem fa.r9 (h : fa N a F) : ah_gr N a 2 9 = some (a + 8) := by rw [← h]; exact fl_r9
theorem fa.i0 (h : fa N a F) : ah_gi N a 2 0 = some (F.1 0) := by rw [← h]; exact fl_i0
theorem fa.i1 (h : fa N a F) : ah_gi N a 2 1 = some (F.1 1) := by rw [← h]; exact fl_i1
theorem fa.i2 (h : fa N a F) : ah_gi N a 2 2 = some (F.1 2) := by rw [← h]; exact fl_i2
theorem fa.ai (h : fa N a F) {k i : Nat} (hk : k < 9) (h3 : 3 ≤ k) (hi : i < fl_n k) : ah_ai N (a + k) (nI i) = some (F.2.2 k i) := by rw [← h]; exact fl_ai hk h3 hi
theorem fa.ar (h : fa N a F) {i : Nat} (hi : i < 5) : ah_ar N (a + 1) 2 (nI i) = F.2.1 i := by rw [← h]; exact fl_ar hi
end FA
/-- two Fleets that nobody can tell from each other -/
def fl_eq (F G : fl_T) : Prop := F.1 0 = G.1 0 ∧ F.1 1 = G.1 1 ∧ F.1 2 = G.1 2 ∧ (∀ i, i < 5 → F.2.1 i = G.2.1 i ∧ F.2.2 3 i = G.2.2 3 i) ∧ ∀ j, j < 12 → F.2.2 4 j = G.2.2 4 j ∧ F.2.2 5 j = G.2.2 5 j ∧ F.2.2 6 j = G.2.2 6 j ∧ F.2.2 7 j = G.2.2 7 j ∧ F.2.2 8 j = G.2.2 8 j
theorem rf_eq {b : Nat} {M : ah_h} {F G : fl_T} {S : Nat → Int32} {n m : Nat} (h : rf b M F S n m) (e : fl_eq G F) : rf b M G S n m := by
  obtain ⟨h1, h2, h3, h4, h5, h6, h7⟩ := h
  obtain ⟨e0, e1, e2, ec, ej⟩ := e
  refine ⟨h1, e0.trans h2, e1.trans h3, e2.trans h4, fun i hi => ?_, fun j hj => ?_, fun i hi => (ec i hi).2.trans (h7 i hi)⟩
  · obtain ⟨c, kd, fg, f1, f2⟩ := h5 i hi
    exact ⟨c, kd, fg, (ec i hi).1.trans f1, f2⟩
  · obtain ⟨f1, f2, f3, f4, f5⟩ := ej j hj
    obtain ⟨g1, g2, g3, g4, g5⟩ := h6 j hj
    exact ⟨f1.trans g1, f2.trans g2, f3.trans g3, f4.trans g4, f5.trans g5⟩
def fl_b1 (G : fl_T) (F : fl_T) (k : Nat) : fl_T := fl_A (fl_C F (va_up F.2.1 k (G.2.1 k))) 3 (upd (F.2.2 3) k (G.2.2 3 k))
def fl_b2 (G : fl_T) (F : fl_T) (k : Nat) : fl_T := fl_A (fl_A (fl_A (fl_A (fl_A F 4 (upd (F.2.2 4) k (G.2.2 4 k))) 5 (upd (F.2.2 5) k (G.2.2 5 k))) 6 (upd (F.2.2 6) k (G.2.2 6 k))) 7 (upd (F.2.2 7) k (G.2.2 7 k))) 8 (upd (F.2.2 8) k (G.2.2 8 k))
/-- what a Fleet is that has become another -/
def fl_be (G F : fl_T) : fl_T := pl_fd (fl_b2 G) (pl_fd (fl_b1 G) (fl_V (fl_V (fl_V F 0 (G.1 0)) 1 (G.1 1)) 2 (G.1 2)) 0 5) 0 12
theorem fl_be_eq (G F : fl_T) : fl_eq (fl_be G F) G := by
  unfold fl_be
  generalize hF0 : fl_V (fl_V (fl_V F 0 (G.1 0)) 1 (G.1 1)) 2 (G.1 2) = F0
  have v0 : F0.1 0 = G.1 0 ∧ F0.1 1 = G.1 1 ∧ F0.1 2 = G.1 2 := by rw [← hF0]; exact ⟨rfl, rfl, rfl⟩
  have s1 := pl_fd_inv (f := fl_b1 G) (fun k X => (X.1 0 = G.1 0 ∧ X.1 1 = G.1 1 ∧ X.1 2 = G.1 2) ∧ ∀ i, i < k → X.2.1 i = G.2.1 i ∧ X.2.2 3 i = G.2.2 3 i) (s := F0) (k := 0) (c := 5) ⟨v0, fun i hi => absurd hi (Nat.not_lt_zero _)⟩ (fun X k _ _ hX => ⟨hX.1, fun i hi => by
    show va_up X.2.1 k (G.2.1 k) i = _ ∧ upd (X.2.2 3) k (G.2.2 3 k) i = _
    by_cases e : i = k
    · subst e
      exact ⟨va_up_self _ _ _, pk_us⟩
    · exact ⟨(va_up_ne _ _ e).trans (hX.2 i (by omega)).1, (pk_un e).trans (hX.2 i (by omega)).2⟩⟩)
  generalize pl_fd (fl_b1 G) F0 0 5 = F1 at s1 ⊢
  have s2 := pl_fd_inv (f := fl_b2 G) (fun k X => ((X.1 0 = G.1 0 ∧ X.1 1 = G.1 1 ∧ X.1 2 = G.1 2) ∧ ∀ i, i < 5 → X.2.1 i = G.2.1 i ∧ X.2.2 3 i = G.2.2 3 i) ∧ ∀ j, j < k → X.2.2 4 j = G.2.2 4 j ∧ X.2.2 5 j = G.2.2 5 j ∧ X.2.2 6 j = G.2.2 6 j ∧ X.2.2 7 j = G.2.2 7 j ∧ X.2.2 8 j = G.2.2 8 j) (s := F1) (k := 0) (c := 12) ⟨s1, fun j hj => absurd hj (Nat.not_lt_zero _)⟩ (fun X k _ _ hX => ⟨hX.1, fun j hj => by
    show upd (X.2.2 4) k (G.2.2 4 k) j = _ ∧ upd (X.2.2 5) k (G.2.2 5 k) j = _ ∧ upd (X.2.2 6) k (G.2.2 6 k) j = _ ∧ upd (X.2.2 7) k (G.2.2 7 k) j = _ ∧ upd (X.2.2 8) k (G.2.2 8 k) j = _
    by_cases e : j = k
    · subst e
      exact ⟨pk_us, pk_us, pk_us, pk_us, pk_us⟩
    · obtain ⟨f1, f2, f3, f4, f5⟩ := hX.2 j (by omega)
      exact ⟨(pk_un e).trans f1, (pk_un e).trans f2, (pk_un e).trans f3, (pk_un e).trans f4, (pk_un e).trans f5⟩⟩)
  exact ⟨s2.1.1.1, s2.1.1.2.1, s2.1.1.2.2, s2.1.2, s2.2⟩
theorem fl_become {a a' : Nat} {F G : fl_T} {M0 : ah_h} (ha : fa_ap a a') (hG : fa M0 a' G) (hc : ∀ i, i < 5 → ∃ c x, G.2.1 i = some c ∧ (c < a ∨ a + 9 ≤ c ∨ c = a + 2) ∧ ah_oc M0 c = some x) : fX2_become (fl a F M0) a a' = some (fl a (fl_be G F) M0) := by
  have hs : ∀ X, fa (fl a X M0) a' G := fun X => fa_fl' hG ha
  unfold fX2_become
  rw [fl_ob, Option.bind_some, (hs _).i0, Option.bind_some, fl_p0, Option.bind_some, (hs _).i1, Option.bind_some, fl_p1, Option.bind_some, (hs _).i2, Option.bind_some, fl_p2, Option.bind_some]
  unfold fl_be
  generalize fl_V (fl_V (fl_V F 0 (G.1 0)) 1 (G.1 1)) 2 (G.1 2) = F0
  have l2 : ∀ X, fX2_become_63 ah_fu (fl a X M0) a a' 0 = some (fl a (pl_fd (fl_b2 G) X 0 12) M0) := fun X => by
    have := pl_loop (fun n X k => fX2_become_63 n (fl a X M0) a a' (nI k)) 12 (fl_b2 G) (fun X => fl a X M0) (fun _ _ => True) ?_ (fun _ _ _ _ => trivial) ?_ ah_fu X 0 (by omega) (by decide) trivial
    · exact this
    · intro n X k hk _
      show fX2_become_63_b _ _ _ _ _ = _
      unfold fX2_become_63_b fl_b2
      rw [if_neg (pl_n12 hk), nI_1]
      rw [fl_r5, Option.bind_some, (hs _).r5, Option.bind_some, (hs _).ai (by decide) (by decide) (show k < fl_n 4 from hk), Option.bind_some, fl_si (by decide) (by decide) (show k < fl_n 4 from hk), Option.bind_some]
      rw [fl_r6, Option.bind_some, (hs _).r6, Option.bind_some, (hs _).ai (by decide) (by decide) (show k < fl_n 5 from hk), Option.bind_some, fl_si (by decide) (by decide) (show k < fl_n 5 from hk), Option.bind_some]
      rw [fl_r7, Option.bind_some, (hs _).r7, Option.bind_some, (hs _).ai (by decide) (by decide) (show k < fl_n 6 from hk), Option.bind_some, fl_si (by decide) (by decide) (show k < fl_n 6 from hk), Option.bind_some]
      rw [fl_r8, Option.bind_some, (hs _).r8, Option.bind_some, (hs _).ai (by decide) (by decide) (show k < fl_n 7 from hk), Option.bind_some, fl_si (by decide) (by decide) (show k < fl_n 7 from hk), Option.bind_some]
      rw [fl_r9, Option.bind_some, (hs _).r9, Option.bind_some, (hs _).ai (by decide) (by decide) (show k < fl_n 8 from hk), Option.bind_some, fl_si (by decide) (by decide) (show k < fl_n 8 from hk), Option.bind_some]
      rfl
    · intro n X _
      show fX2_become_63_b _ _ _ _ _ = _
      unfold fX2_become_63_b
      rw [if_pos (pl_12 (by omega) (by decide))]
  have := pl_loop (fun n X k => fX2_become_26 n (fl a X M0) a a' (nI k)) 5 (fl_b1 G) (fun X => fl a (pl_fd (fl_b2 G) X 0 12) M0) (fun _ _ => True) ?_ (fun _ _ _ _ => trivial) ?_ ah_fu F0 0 (by omega) (by decide) trivial
  · exact this
  · intro n X k hk _
    show fX2_become_26_b _ _ _ _ _ = _
    unfold fX2_become_26_b fl_b1
    obtain ⟨c, x, e1, e2, e3⟩ := hc k hk
    have e4 : ah_oc (fl a X M0) c = some x := by
      rw [← e3]
      unfold ah_oc
      rw [fl_out e2]
    rw [if_neg (pl_n5 hk), nI_1, fl_r3, Option.bind_some, (hs _).r3, Option.bind_some, (hs _).ar hk, e1, Option.bind_some, e4, Option.bind_some, fl_sr hk, Option.bind_some, fl_r4, Option.bind_some, (hs _).r4, Option.bind_some, (hs _).ai (by decide) (by decide) (show k < fl_n 3 from hk), Option.bind_some, fl_si (by decide) (by decide) (show k < fl_n 3 from hk), Option.bind_some]
    rfl
  · intro n X _
    show fX2_become_26_b _ _ _ _ _ = _
    unfold fX2_become_26_b
    rw [if_pos (pl_5 (by omega) (by decide))]
    exact l2 X
