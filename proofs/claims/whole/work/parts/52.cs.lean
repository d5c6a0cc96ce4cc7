/-! PURE LEVEL, 13: runs of loops, a meeting by numbers as they come, the class's half of the world -/
theorem pl_run {σ ρ : Type} (L : Nat → σ → Nat → Option ρ) (m : Nat) (I : Nat → σ → Prop) (Q : ρ → Prop) (hs : ∀ n s k, k < m → I k s → (∃ s', L (n + 1) s k = L n s' (k + 1) ∧ I (k + 1) s') ∨ ∃ r, L (n + 1) s k = some r ∧ Q r) (he : ∀ n s, I m s → ∃ r, L (n + 1) s m = some r ∧ Q r) :
    ∀ (n : Nat) (s : σ) (k : Nat), k ≤ m → m - k < n → I k s → ∃ r, L n s k = some r ∧ Q r := by
  intro n
  induction n with
  | zero => intro s k _ h; omega
  | succ n ih =>
    intro s k hk hn hi
    by_cases hkm : k < m
    · rcases hs n s k hkm hi with ⟨s', e, h⟩ | h
      · rw [e]
        exact ih s' (k + 1) (by omega) (by omega) h
      · exact h
    · have : k = m := by omega
      subst this
      exact he n s hi
theorem fl_fl {a : Nat} {F G : fl_T} {M : ah_h} : fl a F (fl a G M) = fl a F M := by
  funext q
  unfold fl
  by_cases h : a ≤ q ∧ q < a + 9 ∧ q ≠ a + 2
  · rw [if_pos h, if_pos h]
  · rw [if_neg h, if_neg h, if_neg h]
/-- whether two may meet -/
def sp_mm (S : Nat → Int32) (n m : Nat) (x y : Int32) : Int32 := if sp_is n x = 0 then 0 else if sp_is n y = 0 then 0 else if x = y then 0 else if sp_cw S x m = 0 then 0 else if sp_cw S y m = 0 then 0 else 1
/-- whom one gives -/
def sp_g (S : Nat → Int32) (m : Nat) (x : Int32) : Nat := (sp_gv S m x.toNatClampNeg).getD 0
/-- the row behind a meeting, if there can be one -/
def sp_go (S : Nat → Int32) (n m : Nat) (x y : Int32) : Nat → Int32 := if sp_mm S n m x y = 0 then S else sp_mt S m x.toNatClampNeg y.toNatClampNeg (sp_g S m x) (sp_g S m y)
theorem sp_mm_cases {S : Nat → Int32} {n m : Nat} (h : rf_S S n m) (x y : Int32) : (sp_mm S n m x y = 0 ∧ sp_go S n m x y = S) ∨ ∃ i j g1 g2, x = nI i ∧ y = nI j ∧ i < n ∧ j < n ∧ i ≠ j ∧ sp_cw S (nI i) m ≠ 0 ∧ sp_cw S (nI j) m ≠ 0 ∧ sp_gv S m i = some g1 ∧ sp_gv S m j = some g2 ∧ g1 < m ∧ g2 < m ∧ S (13 + 5 * g1) = nI i ∧ S (13 + 5 * g2) = nI j ∧ sp_mm S n m x y = 1 ∧ sp_g S m x = g1 ∧ sp_g S m y = g2 ∧ sp_go S n m x y = sp_mt S m i j g1 g2 := by
  have hn := h.1
  by_cases h0 : sp_mm S n m x y = 0
  · exact Or.inl ⟨h0, by unfold sp_go; rw [if_pos h0]⟩
  · right
    have h0' := h0
    unfold sp_mm at h0
    rcases sp_is_cases (n := n) (by omega) x with hx | ⟨i, hi, rfl, hx⟩
    · rw [if_pos hx] at h0; exact absurd rfl h0
    rcases sp_is_cases (n := n) (by omega) y with hy | ⟨j, hj, rfl, hy⟩
    · rw [if_neg (by rw [hx]; decide), if_pos hy] at h0; exact absurd rfl h0
    rw [if_neg (by rw [hx]; decide), if_neg (by rw [hy]; decide)] at h0
    by_cases hij : nI i = nI j
    · rw [if_pos hij] at h0; exact absurd rfl h0
    rw [if_neg hij] at h0
    by_cases hwi : sp_cw S (nI i) m = 0
    · rw [if_pos hwi] at h0; exact absurd rfl h0
    rw [if_neg hwi] at h0
    by_cases hwj : sp_cw S (nI j) m = 0
    · rw [if_pos hwj] at h0; exact absurd rfl h0
    obtain ⟨g1, e1, l1, s1⟩ := sp_gv_some h hi hwi
    obtain ⟨g2, e2, l2, s2⟩ := sp_gv_some h hj hwj
    have q1 : sp_g S m (nI i) = g1 := by unfold sp_g; rw [nI_clamp (by omega), e1]; rfl
    have q2 : sp_g S m (nI j) = g2 := by unfold sp_g; rw [nI_clamp (by omega), e2]; rfl
    refine ⟨i, j, g1, g2, rfl, rfl, hi, hj, fun e => hij (by rw [e]), hwi, hwj, e1, e2, l1, l2, s1, s2, ?_, q1, q2, ?_⟩
    · unfold sp_mm
      rw [hx, hy, if_neg (by decide), if_neg (by decide), if_neg hij, if_neg hwi, if_neg hwj]
    · unfold sp_go
      rw [if_neg h0', q1, q2, nI_clamp (by omega), nI_clamp (by omega)]
theorem sp_mm_01 (S : Nat → Int32) (n m : Nat) (x y : Int32) : sp_mm S n m x y = 0 ∨ sp_mm S n m x y = 1 := by
  unfold sp_mm
  split
  · exact Or.inl rfl
  split
  · exact Or.inl rfl
  split
  · exact Or.inl rfl
  split
  · exact Or.inl rfl
  split
  · exact Or.inl rfl
  · exact Or.inr rfl
section STEP
variable {b a : Nat} {F : fl_T} {M0 : ah_h} {S : Nat → Int32} {n m : Nat} {τ : md_T}
/-- the class's step -/
theorem fl_step (h : rf b M0 F S n m) (ha : rf_f b a) (x y : Int32) : ∃ F', fX2_holdMeeting (fl a F M0) a x y = some (sp_mm S n m x y, fl a F' M0) ∧ rf b M0 F' (sp_go S n m x y) n m := by
  rcases sp_mm_cases h.1 x y with ⟨e, eg⟩ | ⟨i, j, g1, g2, rfl, rfl, hi, hj, hij, hwi, hwj, e1, e2, -, -, -, -, em, -, -, eg⟩
  · refine ⟨F, ?_, by rw [eg]; exact h⟩
    unfold fX2_holdMeeting
    rw [fl_ob, Option.bind_some, fl_canMeet h, Option.bind_some]
    show (if sp_mm S n m x y = 0 then _ else _) = _
    rw [if_pos e, e]
  · obtain ⟨F', f1, f2⟩ := rf_hold h ha hi hj hij hwi hwj e1 e2
    exact ⟨F', by rw [f1, em], by rw [eg]; exact f2⟩
theorem md_may (h : rf_S (τ.1 1) n m) (x y : Int32) : fX11_mayMeet (md a τ M0) a x y = some (sp_mm (τ.1 1) n m x y) := md_mayMeet h x y
theorem fl_may (h : rf b M0 F S n m) (x y : Int32) : fX2_canMeet (fl a F M0) a x y = some (sp_mm S n m x y) := fl_canMeet h x y
/-- the reference's step -/
theorem md_step (h : rf_S (τ.1 1) n m) {x y : Int32} (hm : sp_mm (τ.1 1) n m x y = 1) : fX11_meets (md a τ M0) a x y = some (md a (md_V (md_V (md_A τ 1 (sp_go (τ.1 1) n m x y)) 12 (nI (sp_g (τ.1 1) m x))) 13 (nI (sp_g (τ.1 1) m y))) M0) := by
  rcases sp_mm_cases h x y with ⟨e, -⟩ | ⟨i, j, g1, g2, rfl, rfl, hi, hj, hij, hwi, hwj, e1, e2, l1, l2, -, -, em, q1, q2, eg⟩
  · rw [hm] at e; exact absurd e (by decide)
  · rw [md_meets h hi hj e1 e2 l1 l2, q1, q2, eg]
end STEP
/-- every row in range is some Fleet's -/
theorem rf_ex {S : Nat → Int32} {n m : Nat} (h : rf_S S n m) : ∃ M F, rf 0 M F S n m := by
  obtain ⟨hn, hm, h0, h1, h2, h3⟩ := id h
  have hk : ∀ i : Nat, ∃ q : Nat × Nat, q.1 < 8 ∧ q.2 < 10 ∧ (i < n → S (3 + 2 * i) = nI q.1 ∧ S (3 + 2 * i + 1) = nI q.2) := fun i => by
    by_cases hi : i < n
    · obtain ⟨kd, fg, e1, e2, e3, e4⟩ := h2 i hi
      exact ⟨(kd, fg), e1, e2, fun _ => ⟨e3, e4⟩⟩
    · exact ⟨(0, 0), by decide, by decide, fun hh => absurd hh hi⟩
  obtain ⟨q, hq⟩ := Classical.axiomOfChoice hk
  refine ⟨fun c => some (ah_O (cp_c (q (c - 69)).1) [.int (nI (q (c - 69)).1), .int (nI (q (c - 69)).2)]), (fun k => if k = 0 then nI n else if k = 1 then nI m else S 2, fun i => some (69 + i), fun k j => if k = 3 then nI (sp_cw S (nI j) m) else S (13 + 5 * j + (k - 4))), h, rfl, rfl, rfl, fun i hi => ?_, fun j hj => ⟨rfl, rfl, rfl, rfl, rfl⟩, fun i hi => rfl⟩
  refine ⟨69 + i, (q i).1, (q i).2, rfl, Or.inr (Or.inr (Or.inr (by omega))), ⟨?_, (hq i).1, (hq i).2.1⟩, (hq i).2.2⟩
  show some (ah_O (cp_c (q (69 + i - 69)).1) _) = _
  rw [Nat.add_sub_cancel_left]
theorem rf_S_go {S : Nat → Int32} {n m : Nat} (h : rf_S S n m) (x y : Int32) : rf_S (sp_go S n m x y) n m := by
  obtain ⟨M, F, hr⟩ := rf_ex h
  obtain ⟨F', -, h'⟩ := fl_step (a := 1) hr (Or.inl rfl) x y
  exact h'.1
/-- rows that agree where one looks -/
theorem sp_cw_congrP {S T : Nat → Int32} {m : Nat} (h : ∀ k, k < m → T (13 + 5 * k) = S (13 + 5 * k)) (x : Int32) : sp_cw T x m = sp_cw S x m := by
  unfold sp_cw
  refine pl_fd_congr (fun s j _ hj => ?_)
  rw [h j (by omega)]
def sq (S T : Nat → Int32) : Prop := ∀ q, q < 73 → T q = S q
theorem rf_S_sq {S T : Nat → Int32} {n m : Nat} (h : rf_S S n m) (e : sq S T) : rf_S T n m := by
  obtain ⟨hn, hm, h0, h1, h2, h3⟩ := h
  refine ⟨hn, hm, (e 0 (by decide)).trans h0, (e 1 (by decide)).trans h1, fun i hi => ?_, fun j hj => ?_⟩
  · obtain ⟨kd, fg, e1, e2, e3, e4⟩ := h2 i hi
    exact ⟨kd, fg, e1, e2, (e _ (by omega)).trans e3, (e _ (by omega)).trans e4⟩
  · obtain ⟨i, e1, e2⟩ := h3 j hj
    exact ⟨i, e1, (e _ (by omega)).trans e2⟩
theorem sp_cw_sq {S T : Nat → Int32} {m : Nat} (hm : m ≤ 12) (e : sq S T) (x : Int32) : sp_cw T x m = sp_cw S x m := sp_cw_congrP (fun k hk => e _ (by omega)) x
theorem rf_sq {b : Nat} {M : ah_h} {F : fl_T} {S T : Nat → Int32} {n m : Nat} (h : rf b M F S n m) (e : sq S T) : rf b M F T n m := by
  obtain ⟨h1, h2, h3, h4, h5, h6, h7⟩ := h
  have hn := h1.1
  have hm := h1.2.1
  refine ⟨rf_S_sq h1 e, h2, h3, h4.trans (e 2 (by decide)).symm, fun i hi => ?_, fun j hj => ?_, fun i hi => by rw [h7 i hi, sp_cw_sq hm e]⟩
  · obtain ⟨c, kd, fg, e1, e2, e3, e4⟩ := h5 i hi
    exact ⟨c, kd, fg, e1, e2, e3, fun hin => ⟨(e _ (by omega)).trans (e4 hin).1, (e _ (by omega)).trans (e4 hin).2⟩⟩
  · obtain ⟨f1, f2, f3, f4, f5⟩ := h6 j hj
    exact ⟨f1.trans (e _ (by omega)).symm, f2.trans (e _ (by omega)).symm, f3.trans (e _ (by omega)).symm, f4.trans (e _ (by omega)).symm, f5.trans (e _ (by omega)).symm⟩
/-- the reference's states that nobody can tell from each other, its row aside -/
def tf (τ τ' : md_T) : Prop := sq (τ.1 2) (τ'.1 2) ∧ (∀ k, 5 ≤ k → k ≤ 10 → τ'.1 k = τ.1 k) ∧ τ'.2.2 10 = τ.2.2 10
def te (τ τ' : md_T) : Prop := sq (τ.1 1) (τ'.1 1) ∧ tf τ τ'
theorem tf.rfl' {τ : md_T} : tf τ τ := ⟨fun _ _ => rfl, fun _ _ _ => rfl, rfl⟩
theorem te.rfl' {τ : md_T} : te τ τ := ⟨fun _ _ => rfl, tf.rfl'⟩
theorem tf.trans {τ τ' τ'' : md_T} (h : tf τ τ') (h' : tf τ' τ'') : tf τ τ'' := ⟨fun q hq => (h'.1 q hq).trans (h.1 q hq), fun k h1 h2 => (h'.2.1 k h1 h2).trans (h.2.1 k h1 h2), h'.2.2.trans h.2.2⟩
/-- the class's half -/
def cs (b : Nat) (M : ah_h) (τ : md_T) (n m : Nat) (F1 : fl_T) : Prop :=
  co b M (τ.2.2 10) ∧ fa M (b + 1) F1 ∧ rf b M F1 (τ.1 1) n m ∧ (∃ F2, fa M (b + 10) F2) ∧
  (∃ F3, fa M (b + 19) F3 ∧ (τ.2.2 10 = 0 ∨ τ.2.2 10 = 1 ∧ ∃ n3 m3, rf b M F3 (τ.1 2) n3 m3)) ∧
  (∀ d, d < 8 → sr b M τ d) ∧ (∃ f, M (b + 45) = some (ah_R 4 5 f) ∧ ∀ i, i < 5 → f i = some (b + 46 + i)) ∧
  (∀ i, i < 5 → ∃ f, M (b + 46 + i) = some (ah_I 5 f)) ∧ (∃ f, M (b + 51) = some (ah_I 12 f)) ∧ ∃ f, M (b + 52) = some (ah_J 5 f)
section CS
variable {b : Nat} {M : ah_h} {τ : md_T} {n m : Nat} {F1 : fl_T}
theorem cs.o (h : cs b M τ n m F1) : co b M (τ.2.2 10) := h.1
theorem cs.f1 (h : cs b M τ n m F1) : fa M (b + 1) F1 := h.2.1
theorem cs.r1 (h : cs b M τ n m F1) : rf b M F1 (τ.1 1) n m := h.2.2.1
theorem cs.f2 (h : cs b M τ n m F1) : ∃ F2, fa M (b + 10) F2 := h.2.2.2.1
theorem cs.f3 (h : cs b M τ n m F1) : ∃ F3, fa M (b + 19) F3 ∧ (τ.2.2 10 = 0 ∨ τ.2.2 10 = 1 ∧ ∃ n3 m3, rf b M F3 (τ.1 2) n3 m3) := h.2.2.2.2.1
theorem cs.sh (h : cs b M τ n m F1) : ∀ d, d < 8 → sr b M τ d := h.2.2.2.2.2.1
theorem cs.g0 (h : cs b M τ n m F1) : ∃ f, M (b + 45) = some (ah_R 4 5 f) ∧ ∀ i, i < 5 → f i = some (b + 46 + i) := h.2.2.2.2.2.2.1
theorem cs.g1 (h : cs b M τ n m F1) : ∀ i, i < 5 → ∃ f, M (b + 46 + i) = some (ah_I 5 f) := h.2.2.2.2.2.2.2.1
theorem cs.wa (h : cs b M τ n m F1) : ∃ f, M (b + 51) = some (ah_I 12 f) := h.2.2.2.2.2.2.2.2.1
theorem cs.ch (h : cs b M τ n m F1) : ∃ f, M (b + 52) = some (ah_J 5 f) := h.2.2.2.2.2.2.2.2.2
end CS
theorem sr_te {b : Nat} {M : ah_h} {τ τ' : md_T} {d : Nat} (hd : d < 8) (h : sr b M τ d) (e : ∀ k, 5 ≤ k → k ≤ 10 → τ'.1 k = τ.1 k) : sr b M τ' d := by
  obtain ⟨cap, so, si, el, H, hc⟩ := h
  refine ⟨cap, so, si, el, H, ?_⟩
  rw [e 5 (by decide) (by decide), e 6 (by decide) (by decide), e 7 (by decide) (by decide), e 8 (by decide) (by decide), e 9 (by decide) (by decide), e 10 (by decide) (by decide)]
  exact hc
theorem cs_te {b : Nat} {M : ah_h} {τ τ' : md_T} {n m : Nat} {F1 : fl_T} (h : cs b M τ n m F1) (e : te τ τ') : cs b M τ' n m F1 := by
  obtain ⟨e1, e2, e3, e4⟩ := e
  refine ⟨by rw [e4]; exact h.o, h.f1, rf_sq h.r1 e1, h.f2, ?_, fun d hd => sr_te hd (h.sh d hd) e3, h.g0, h.g1, h.wa, h.ch⟩
  obtain ⟨F3, k1, k2⟩ := h.f3
  refine ⟨F3, k1, ?_⟩
  rw [e4]
  rcases k2 with k2 | ⟨k2, n3, m3, k3⟩
  · exact Or.inl k2
  · exact Or.inr ⟨k2, n3, m3, rf_sq k3 e2⟩
/-- .. it looks at nothing else -/
theorem sr_of {b : Nat} {M M' : ah_h} {τ : md_T} {d : Nat} (h : sr b M τ d) (h1 : M' (b + 29 + 2 * d) = M (b + 29 + 2 * d)) (h2 : M' (b + 29 + 2 * d + 1) = M (b + 29 + 2 * d + 1)) (hM : ∀ c, rf_a b c → M' c = M c) : sr b M' τ d := by
  obtain ⟨cap, so, si, el, H, hc⟩ := h
  refine ⟨cap, so, si, el, shA_of H h1 h2, ?_⟩
  rcases hc with hc | ⟨k1, k2, c, kd, fg, k3, k4, k5, k6⟩ | hc
  · exact Or.inl hc
  · exact Or.inr (Or.inl ⟨k1, k2, c, kd, fg, k3, k4, ⟨(hM c k4).trans k5.1, k5.2⟩, k6⟩)
  · exact Or.inr (Or.inr hc)
/-- the class's cells, the mind's aside -/
theorem cs_of {b : Nat} {M M' : ah_h} {τ : md_T} {n m : Nat} {F1 : fl_T} (h : cs b M τ n m F1) (hq : ∀ q, (q < b + 45 ∧ (q < b + 10 ∨ b + 19 ≤ q ∨ q = b + 12)) ∨ b + 69 ≤ q → M' q = M q) (h2 : ∃ F2, fa M' (b + 10) F2) (hg0 : M' (b + 45) = M (b + 45)) (hg1 : ∀ i, i < 5 → ∃ f, M' (b + 46 + i) = some (ah_I 5 f)) (hwa : ∃ f, M' (b + 51) = some (ah_I 12 f)) (hch : ∃ f, M' (b + 52) = some (ah_J 5 f)) : cs b M' τ n m F1 := by
  have hc : ∀ c, rf_a b c → M' c = M c := fun c hc => hq c (by unfold rf_a at hc; omega)
  refine ⟨co_of h.o (hq _ (by omega)) (hq _ (by omega)), fa_of h.f1 (fun q _ _ _ => hq q (by omega)), rf_keep h.r1 hc, h2, ?_, fun d hd => sr_of (h.sh d hd) (hq _ (by omega)) (hq _ (by omega)) hc, ?_, hg1, hwa, hch⟩
  · obtain ⟨F3, k1, k2⟩ := h.f3
    refine ⟨F3, fa_of k1 (fun q _ _ _ => hq q (by omega)), ?_⟩
    rcases k2 with k2 | ⟨k2, n3, m3, k3⟩
    · exact Or.inl k2
    · exact Or.inr ⟨k2, n3, m3, rf_keep k3 hc⟩
  · rw [hg0]
    exact h.g0
theorem cs_mind {b : Nat} {M : ah_h} {τ : md_T} {n m : Nat} {F1 : fl_T} (h : cs b M τ n m F1) (X : fl_T) : cs b (fl (b + 10) X M) τ n m F1 := by
  have ho : ∀ q, q < b + 10 ∨ b + 19 ≤ q ∨ q = b + 12 → fl (b + 10) X M q = M q := fun q hq => fl_out (by omega)
  refine cs_of h (fun q hq => ho q (by omega)) ⟨X, fa_fl⟩ (ho _ (by omega)) (fun i hi => ?_) ?_ ?_
  · rw [ho _ (by omega)]; exact h.g1 i hi
  · rw [ho _ (by omega)]; exact h.wa
  · rw [ho _ (by omega)]; exact h.ch
theorem cs_md {b : Nat} {M : ah_h} {τ : md_T} {n m : Nat} {F1 : fl_T} (h : cs b M τ n m F1) (σ : md_T) : cs b (md (b + 53) σ M) τ n m F1 := by
  have ho : ∀ q, q < b + 53 ∨ b + 68 ≤ q → md (b + 53) σ M q = M q := fun q hq => md_out (by omega)
  refine cs_of h (fun q hq => ho q (by omega)) ?_ (ho _ (by omega)) (fun i hi => ?_) ?_ ?_
  · obtain ⟨F2, k⟩ := h.f2
    exact ⟨F2, fa_of k (fun q _ _ _ => ho q (by omega))⟩
  · rw [ho _ (by omega)]; exact h.g1 i hi
  · rw [ho _ (by omega)]; exact h.wa
  · rw [ho _ (by omega)]; exact h.ch
/-- the mind becomes the real fleet -/
theorem cs_become {b : Nat} {M : ah_h} {τ : md_T} {n m : Nat} {F1 : fl_T} (h : cs b M τ n m F1) : ∃ X, fX2_become M (b + 10) (b + 1) = some (fl (b + 10) X M) ∧ rf b M X (τ.1 1) n m := by
  obtain ⟨F2, k⟩ := h.f2
  have e := fl_become (a := b + 10) (a' := b + 1) (F := F2) (G := F1) (M0 := M) (Or.inr (by omega)) h.f1 (fun i hi => ?_)
  · rw [k] at e
    exact ⟨_, e, rf_eq h.r1 (fl_be_eq F1 F2)⟩
  · obtain ⟨c, kd, fg, e1, e2, e3, -⟩ := h.r1.2.2.2.2.1 i hi
    exact ⟨c, _, e1, by unfold rf_a at e2; omega, cp_oc e3⟩
