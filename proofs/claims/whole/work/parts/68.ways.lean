/-! PURE LEVEL, 29: ways: series of meetings behind which all are as wanted -/
/-- rows that differ in who has sailed with whom alone -/
def sx (S T : Nat → Int32) : Prop := ∀ q, q < 73 → (∀ k, q ≠ 13 + 5 * k + 4) → T q = S q
section SX
variable {S T U : Nat → Int32} {n m : Nat}
theorem sx.rfl' : sx S S := fun _ _ _ => rfl
theorem sx_of_sq (h : sq S T) : sx S T := fun q hq _ => h q hq
theorem sx.trans (h : sx S T) (h' : sx T U) : sx S U := fun q h1 h2 => (h' q h1 h2).trans (h q h1 h2)
theorem sx.symm (h : sx S T) : sx T S := fun q h1 h2 => (h q h1 h2).symm
theorem rf_S_sx (h : rf_S S n m) (e : sx S T) : rf_S T n m := by
  obtain ⟨hn, hm, h0, h1, h2, h3⟩ := h
  refine ⟨hn, hm, (e 0 (by decide) (fun k => by omega)).trans h0, (e 1 (by decide) (fun k => by omega)).trans h1, fun i hi => ?_, fun j hj => ?_⟩
  · obtain ⟨kd, fg, e1, e2, e3, e4⟩ := h2 i hi
    exact ⟨kd, fg, e1, e2, (e _ (by omega) (fun k => by omega)).trans e3, (e _ (by omega) (fun k => by omega)).trans e4⟩
  · obtain ⟨i, e1, e2⟩ := h3 j hj
    exact ⟨i, e1, (e _ (by omega) (fun k => by omega)).trans e2⟩
theorem sp_cw_sx (hm : m ≤ 12) (e : sx S T) (x : Int32) : sp_cw T x m = sp_cw S x m := sp_cw_congrP (fun k hk => e _ (by omega) (fun j => by omega)) x
theorem sp_mm_sx (hm : m ≤ 12) (e : sx S T) (x y : Int32) : sp_mm T n m x y = sp_mm S n m x y := by
  unfold sp_mm
  rw [sp_cw_sx hm e, sp_cw_sx hm e]
theorem sp_gv_sx (h : rf_S S n m) (e : sx S T) {i : Nat} (hi : i < n) : sp_gv T m i = sp_gv S m i := by
  have hn := h.1
  unfold sp_gv
  rw [e (3 + 2 * i) (by omega) (fun k => by omega), e (3 + 2 * i + 1) (by omega) (fun k => by omega), sp_cw_sx h.2.1 e]
  exact sp_gift_congr (fun j hj => e _ (by omega) (fun k => by omega)) (fun j hj => e _ (by omega) (fun k => by omega)) (fun j hj => e _ (by omega) (fun k => by omega)) _ _ _
theorem sp_g_sx (h : rf_S S n m) (e : sx S T) {i : Nat} (hi : i < n) : sp_g T m (nI i) = sp_g S m (nI i) := by
  have hn := h.1
  unfold sp_g
  rw [nI_clamp (by omega), sp_gv_sx h e hi]
/-- a meeting without a word of who has sailed with whom -/
def sp_xs (S : Nat → Int32) (m i j : Nat) : Nat → Int32 := sp_swap S i j (sp_g S m (nI i)) (sp_g S m (nI j))
theorem sp_mm_facts (h : rf_S S n m) {i j : Nat} (hi : i < n) (hj : j < n) (e : sp_mm S n m (nI i) (nI j) = 1) : i ≠ j ∧ sp_cw S (nI i) m ≠ 0 ∧ sp_cw S (nI j) m ≠ 0 ∧ ∃ g1 g2, sp_gv S m i = some g1 ∧ sp_gv S m j = some g2 ∧ g1 < m ∧ g2 < m ∧ S (13 + 5 * g1) = nI i ∧ S (13 + 5 * g2) = nI j ∧ g1 ≠ g2 ∧ sp_g S m (nI i) = g1 ∧ sp_g S m (nI j) = g2 ∧ sp_go S n m (nI i) (nI j) = sp_mt S m i j g1 g2 ∧ sp_xs S m i j = sp_swap S i j g1 g2 := by
  have hn := h.1
  rcases sp_mm_cases h (nI i) (nI j) with ⟨e0, -⟩ | ⟨i', j', g1, g2, ei, ej, hi', hj', hij, hwi, hwj, e1, e2, l1, l2, s1, s2, -, q1, q2, eg⟩
  · rw [e] at e0; exact absurd e0 (by decide)
  · have : i = i' := (nI_eq (by omega) (by omega)).mp ei
    subst this
    have : j = j' := (nI_eq (by omega) (by omega)).mp ej
    subst this
    refine ⟨hij, hwi, hwj, g1, g2, e1, e2, l1, l2, s1, s2, fun ee => ?_, q1, q2, eg, ?_⟩
    · rw [ee, s2] at s1
      exact hij ((nI_eq (by omega) (by omega)).mp s1).symm
    · unfold sp_xs
      rw [q1, q2]
theorem sp_mm_comm (S : Nat → Int32) (n m : Nat) (x y : Int32) : sp_mm S n m x y = sp_mm S n m y x := by
  unfold sp_mm
  by_cases a1 : sp_is n x = 0
  · rw [if_pos a1]
    by_cases a2 : sp_is n y = 0
    · rw [if_pos a2]
    · rw [if_neg a2, if_pos a1]
  by_cases a2 : sp_is n y = 0
  · rw [if_neg a1, if_pos a2, if_pos a2]
  rw [if_neg a1, if_neg a2, if_neg a2, if_neg a1]
  by_cases a3 : x = y
  · rw [if_pos a3, if_pos a3.symm]
  rw [if_neg a3, if_neg (Ne.symm a3)]
  by_cases a4 : sp_cw S x m = 0
  · rw [if_pos a4]
    by_cases a5 : sp_cw S y m = 0
    · rw [if_pos a5]
    · rw [if_neg a5, if_pos a4]
  by_cases a5 : sp_cw S y m = 0
  · rw [if_neg a4, if_pos a5, if_pos a5]
  rw [if_neg a4, if_neg a5, if_neg a5, if_neg a4]
theorem sp_swap_ab (S : Nat → Int32) (i j g1 g2 g : Nat) : sp_swap S i j g1 g2 (13 + 5 * g) = if g = g2 then nI i else if g = g1 then nI j else S (13 + 5 * g) := by
  unfold sp_swap
  rw [pk_un (by omega), pk_un (by omega)]
  by_cases h2 : g = g2
  · rw [if_pos h2, h2, pk_us]
  · rw [if_neg h2, pk_un (by omega)]
    by_cases h1 : g = g1
    · rw [if_pos h1, h1, pk_us]
    · rw [if_neg h1, pk_un (by omega), pk_un (by omega)]
theorem sp_swap_comm (S : Nat → Int32) (i j : Nat) {g1 g2 : Nat} (h : g1 ≠ g2) : sp_swap S i j g1 g2 = sp_swap S j i g2 g1 := by
  funext q
  unfold sp_swap
  by_cases c1 : q = 13 + 5 * g2 + 3
  · rw [c1, pk_us, pk_un (by omega), pk_us]
  by_cases c2 : q = 13 + 5 * g1 + 3
  · rw [c2, pk_un (by omega), pk_us, pk_us]
  rw [pk_un c1, pk_un c2, pk_un c2, pk_un c1]
  by_cases c3 : q = 13 + 5 * g2
  · rw [c3, pk_us, pk_un (by omega), pk_us]
  by_cases c4 : q = 13 + 5 * g1
  · rw [c4, pk_un (by omega), pk_us, pk_us]
  rw [pk_un c3, pk_un c4, pk_un c4, pk_un c3]
theorem sp_xs_sx (h : rf_S S n m) (e : sx S T) {i j : Nat} (hi : i < n) (hj : j < n) : sx (sp_xs S m i j) (sp_xs T m i j) := by
  intro q hq hk
  unfold sp_xs
  rw [sp_g_sx h e hi, sp_g_sx h e hj]
  simp only [sp_swap, upd]
  rw [e 2 (by decide) (fun k => by omega), e q hq hk]
theorem sp_go_sx (h : rf_S S n m) (e : sx S T) {i j : Nat} (hi : i < n) (hj : j < n) (hm : sp_mm S n m (nI i) (nI j) = 1) : sx (sp_xs S m i j) (sp_go T n m (nI i) (nI j)) := by
  have hT := rf_S_sx h e
  have hmT : sp_mm T n m (nI i) (nI j) = 1 := by rw [sp_mm_sx h.2.1 e]; exact hm
  obtain ⟨-, -, -, g1, g2, -, -, -, -, -, -, -, -, -, e1, e2⟩ := sp_mm_facts hT hi hj hmT
  refine (sp_xs_sx h e hi hj).trans ?_
  intro q hq hk
  rw [e1, e2]
  unfold sp_mt
  rw [sp_sails_out _ _ _ hk, sp_sails_out _ _ _ hk]
theorem rf_S_xs (h : rf_S S n m) {i j : Nat} (hi : i < n) (hj : j < n) (hm : sp_mm S n m (nI i) (nI j) = 1) : rf_S (sp_xs S m i j) n m := by
  obtain ⟨M, F, hr⟩ := rf_ex h
  obtain ⟨hij, -, -, g1, g2, -, -, l1, l2, s1, s2, -, -, -, -, e2⟩ := sp_mm_facts h hi hj hm
  rw [e2]
  exact (rf_swap hr hi hj hij l1 l2 s1 s2).1
end SX
/-- just k meetings bring all where they are wanted -/
def sp_way (n m : Nat) (w : Nat → Option Nat) : Nat → (Nat → Int32) → Prop
  | 0, S => ∀ g i, g < m → w g = some i → S (13 + 5 * g) = nI i
  | k + 1, S => ∃ i j, i < j ∧ j < n ∧ sp_mm S n m (nI i) (nI j) = 1 ∧ sp_way n m w k (sp_xs S m i j)
/-- no way begins ahead of i, j -/
def sp_np (n m : Nat) (w : Nat → Option Nat) (k : Nat) (S : Nat → Int32) (i j : Nat) : Prop := ∀ i' j', i' < j' → j' < n → (i' < i ∨ i' = i ∧ j' < j) → sp_mm S n m (nI i') (nI j') = 1 → ¬ sp_way n m w k (sp_xs S m i' j')
/-- the first way begins with i, j -/
def sp_fst (n m : Nat) (w : Nat → Option Nat) (k : Nat) (S : Nat → Int32) (i j : Nat) : Prop := i < j ∧ j < n ∧ sp_mm S n m (nI i) (nI j) = 1 ∧ sp_way n m w k (sp_xs S m i j) ∧ sp_np n m w k S i j
section WAY
variable {S T : Nat → Int32} {n m : Nat} {w : Nat → Option Nat}
theorem sp_way_sx : ∀ (k : Nat) {S T : Nat → Int32}, rf_S S n m → sx S T → sp_way n m w k S → sp_way n m w k T
  | 0, S, T, h, e, hw => fun g i hg hi => (e _ (by have := h.2.1; omega) (fun k => by omega)).trans (hw g i hg hi)
  | k + 1, S, T, h, e, ⟨i, j, hij, hj, hm, hw⟩ => ⟨i, j, hij, hj, by rw [sp_mm_sx h.2.1 e]; exact hm, sp_way_sx k (rf_S_xs h (by omega) hj hm) (sp_xs_sx h e (by omega) hj) hw⟩
theorem sp_way_iff (k : Nat) (h : rf_S S n m) (e : sx S T) : sp_way n m w k T ↔ sp_way n m w k S := ⟨sp_way_sx k (rf_S_sx h e) e.symm, sp_way_sx k h e⟩
theorem sp_fst_eq {k i j i' j' : Nat} (h : sp_fst n m w k S i j) (h' : sp_fst n m w k S i' j') : i = i' ∧ j = j' := by
  obtain ⟨a1, a2, a3, a4, a5⟩ := h
  obtain ⟨b1, b2, b3, b4, b5⟩ := h'
  have n1 : ¬ (i' < i ∨ i' = i ∧ j' < j) := fun c => a5 i' j' b1 b2 c b3 b4
  have n2 : ¬ (i < i' ∨ i = i' ∧ j < j') := fun c => b5 i j a1 a2 c a3 a4
  omega
theorem sp_fst_way {k i j : Nat} (h : sp_fst n m w k S i j) : sp_way n m w (k + 1) S := ⟨i, j, h.1, h.2.1, h.2.2.1, h.2.2.2.1⟩
theorem sp_np_end {k j : Nat} (h : sp_np n m w k S n j) : ¬ sp_way n m w (k + 1) S := fun ⟨i, j, h1, h2, h3, h4⟩ => h i j h1 h2 (by omega) h3 h4
theorem sp_np_0 {k : Nat} : sp_np n m w k S 0 1 := fun i' j' h1 _ h3 => by omega
theorem sp_np_row {k i : Nat} (h : sp_np n m w k S i n) : sp_np n m w k S (i + 1) (i + 1 + 1) := fun i' j' h1 h2 h3 => h i' j' h1 h2 (by omega)
theorem sp_np_step {k i j : Nat} (h : sp_np n m w k S i j) (hn : sp_mm S n m (nI i) (nI j) = 1 → ¬ sp_way n m w k (sp_xs S m i j)) : sp_np n m w k S i (j + 1) := fun i' j' h1 h2 h3 h4 => by
  by_cases e : i' = i ∧ j' = j
  · obtain ⟨rfl, rfl⟩ := e
    exact hn h4
  · exact h i' j' h1 h2 (by omega) h4
/-! astray -/
def sp_as (S : Nat → Int32) (w : Nat → Option Nat) (g : Nat) : Bool := match w g with
  | some i => !decide (S (13 + 5 * g) = nI i)
  | none => false
def sp_ast (S : Nat → Int32) (w : Nat → Option Nat) (m : Nat) : Nat := pl_fd (fun c g => c + (sp_as S w g).toNat) 0 0 m
theorem sp_ast_succ (S : Nat → Int32) (w : Nat → Option Nat) (m : Nat) : sp_ast S w (m + 1) = sp_ast S w m + (sp_as S w m).toNat := by
  unfold sp_ast
  rw [pl_fd_snoc, Nat.zero_add]
theorem sp_ast_le2 (g1 g2 : Nat) : ∀ m, (∀ g, g < m → g ≠ g1 → g ≠ g2 → sp_as S w g = sp_as T w g) → sp_ast S w m ≤ sp_ast T w m + (if g1 < m then 1 else 0) + (if g2 < m then 1 else 0) := by
  intro m
  induction m with
  | zero => intro _; simp [sp_ast, pl_fd]
  | succ m ih =>
    intro h
    have h1 := ih (fun g hg => h g (by omega))
    rw [sp_ast_succ, sp_ast_succ]
    have b1 : (sp_as S w m).toNat ≤ 1 := Bool.toNat_le _
    by_cases e1 : m = g1
    · subst e1
      rw [if_pos (Nat.lt_succ_self _)]
      rw [if_neg (Nat.lt_irrefl _)] at h1
      by_cases e2 : g2 < m
      · rw [if_pos (by omega)]; rw [if_pos e2] at h1; omega
      · rw [if_neg e2] at h1; split <;> omega
    · by_cases e2 : m = g2
      · subst e2
        rw [if_pos (Nat.lt_succ_self m)]
        rw [if_neg (Nat.lt_irrefl m)] at h1
        by_cases e3 : g1 < m
        · rw [if_pos (show g1 < m + 1 by omega)]; rw [if_pos e3] at h1; omega
        · rw [if_neg e3] at h1; split <;> omega
      · rw [h m (Nat.lt_succ_self m) e1 e2]
        by_cases e3 : g1 < m
        · rw [if_pos (show g1 < m + 1 by omega)]; rw [if_pos e3] at h1
          by_cases e4 : g2 < m
          · rw [if_pos (show g2 < m + 1 by omega)]; rw [if_pos e4] at h1; omega
          · rw [if_neg (show ¬ g2 < m + 1 by omega)]; rw [if_neg e4] at h1; omega
        · rw [if_neg (show ¬ g1 < m + 1 by omega)]; rw [if_neg e3] at h1
          by_cases e4 : g2 < m
          · rw [if_pos (show g2 < m + 1 by omega)]; rw [if_pos e4] at h1; omega
          · rw [if_neg (show ¬ g2 < m + 1 by omega)]; rw [if_neg e4] at h1; omega
theorem sp_ast_0 : ∀ m, (∀ g, g < m → sp_as S w g = false) → sp_ast S w m = 0 := by
  intro m
  induction m with
  | zero => intro _; rfl
  | succ m ih =>
    intro h
    rw [sp_ast_succ, ih (fun g hg => h g (by omega)), h m (Nat.lt_succ_self m)]
    rfl
theorem sp_ast_way : ∀ (k : Nat) {S : Nat → Int32}, rf_S S n m → sp_way n m w k S → sp_ast S w m ≤ 2 * k
  | 0, S, h, hw => by
    rw [sp_ast_0 m (fun g hg => ?_)]
    · exact Nat.zero_le _
    · unfold sp_as
      cases e : w g with
      | none => rfl
      | some i => simp [hw g i hg e]
  | k + 1, S, h, ⟨i, j, hij, hj, hm, hw⟩ => by
    have h1 := sp_ast_way k (rf_S_xs h (by omega) hj hm) hw
    obtain ⟨-, -, -, g1, g2, -, -, -, -, -, -, -, -, -, -, e2⟩ := sp_mm_facts h (show i < n by omega) hj hm
    have h2 := sp_ast_le2 (S := S) (T := sp_xs S m i j) (w := w) g1 g2 m (fun g hg n1 n2 => by
      unfold sp_as
      rw [e2, sp_swap_ab, if_neg n2, if_neg n1])
    have t1 : (if g1 < m then 1 else 0) ≤ 1 := by split <;> omega
    have t2 : (if g2 < m then 1 else 0) ≤ 1 := by split <;> omega
    omega
/-- the one meeting by which he who is astray comes home -/
theorem sp_home {i j g t s : Nat} (h : rf_S S n m) (hij : i < j) (hj : j < n) (hm : sp_mm S n m (nI i) (nI j) = 1) (hw : sp_way n m w 0 (sp_xs S m i j)) (hg : g < m) (ht : w g = some t) (ht5 : t < 5) (hs : S (13 + 5 * g) = nI s) (hs5 : s < 5) (hne : s ≠ t) : (i = s ∧ j = t ∨ i = t ∧ j = s) ∧ sp_g S m (nI s) = g := by
  have hn := h.1
  obtain ⟨-, -, -, g1, g2, -, -, -, -, s1, s2, -, q1, q2, -, e2⟩ := sp_mm_facts h (show i < n by omega) hj hm
  have e := hw g t hg ht
  rw [e2, sp_swap_ab] at e
  by_cases c2 : g = g2
  · rw [if_pos c2] at e
    have h1 : i = t := (nI_eq (by omega) (by omega)).mp e
    subst c2
    have h2 : s = j := (nI_eq (by omega) (by omega)).mp (hs.symm.trans s2)
    subst h2
    exact ⟨Or.inr ⟨h1, rfl⟩, q2⟩
  · rw [if_neg c2] at e
    by_cases c1 : g = g1
    · rw [if_pos c1] at e
      have h1 : j = t := (nI_eq (by omega) (by omega)).mp e
      subst c1
      have h2 : s = i := (nI_eq (by omega) (by omega)).mp (hs.symm.trans s1)
      subst h2
      exact ⟨Or.inl ⟨rfl, h1⟩, q1⟩
    · rw [if_neg c1, hs] at e
      exact absurd ((nI_eq (by omega) (by omega)).mp e) hne
/-! the fewest -/
def sp_few (n m : Nat) (w : Nat → Option Nat) (S : Nat → Int32) (K : Nat) (r f : Int32) : Prop :=
  (∃ k, k ≤ K ∧ sp_way n m w k S ∧ (∀ j, j < k → ¬ sp_way n m w j S) ∧ r = nI k ∧ (k = 0 → f = -4) ∧ ∀ k', k = k' + 1 → ∃ i j, sp_fst n m w k' S i j ∧ f = nI (10 * i + j)) ∨
  ((∀ k, k ≤ K → ¬ sp_way n m w k S) ∧ r = -4 ∧ f = -4)
theorem sp_few_eq {K : Nat} {r f r' f' : Int32} (h : sp_few n m w S K r f) (h' : sp_few n m w S K r' f') : r = r' ∧ f = f' := by
  rcases h with ⟨k, a1, a2, a3, a4, a5, a6⟩ | ⟨a1, a2, a3⟩
  · rcases h' with ⟨k', b1, b2, b3, b4, b5, b6⟩ | ⟨b1, -⟩
    · have : k = k' := by
        rcases Nat.lt_trichotomy k k' with c | c | c
        · exact absurd a2 (b3 k c)
        · exact c
        · exact absurd b2 (a3 k' c)
      subst this
      refine ⟨a4.trans b4.symm, ?_⟩
      cases k with
      | zero => exact (a5 rfl).trans (b5 rfl).symm
      | succ k =>
        obtain ⟨i, j, c1, c2⟩ := a6 k rfl
        obtain ⟨i', j', d1, d2⟩ := b6 k rfl
        obtain ⟨rfl, rfl⟩ := sp_fst_eq c1 d1
        exact c2.trans d2.symm
    · exact absurd a2 (b1 k a1)
  · rcases h' with ⟨k', b1, b2, -⟩ | ⟨-, b2, b3⟩
    · exact absurd b2 (a1 k' b1)
    · exact ⟨a2.trans b2.symm, a3.trans b3.symm⟩
end WAY
