/-! PURE LEVEL, 8: who is given is aboard; the relation between a Fleet and the reference's row -/
theorem sp_fold_tb {f : Option Nat → Nat → Option Nat} {w : Nat} (hw : w < 2 ^ 12) (h0 : w ≠ 0) (h1 : ∀ b k, w.testBit k = true → (∃ j, f b k = some j ∧ (j = k ∨ b = some j))) (h2 : ∀ b k, w.testBit k = false → f b k = b) : ∃ g, pl_fd f none 0 12 = some g ∧ w.testBit g = true := by
  obtain ⟨i, hi⟩ := Nat.exists_testBit_of_ne_zero h0
  have hi12 : i < 12 := by
    apply Classical.byContradiction
    intro h
    rw [sp_hi hw (by omega)] at hi
    cases hi
  have inv := pl_fd_inv (f := f) (fun k b => (∀ g, b = some g → w.testBit g = true) ∧ (i < k → b ≠ none)) (s := none) (k := 0) (c := 12) ⟨fun g h => (by cases h), fun h => absurd h (Nat.not_lt_zero _)⟩ (fun b k _ _ hb => by
    by_cases hk : w.testBit k = true
    · obtain ⟨j, e, hj⟩ := h1 b k hk
      refine ⟨fun g hg => ?_, fun _ h => by rw [e] at h; cases h⟩
      rw [e] at hg
      cases hg
      rcases hj with rfl | hj
      · exact hk
      · exact hb.1 j hj
    · have hk' : w.testBit k = false := by simpa using hk
      rw [h2 b k hk']
      refine ⟨hb.1, fun h => hb.2 ?_⟩
      have : i ≠ k := fun e => by subst e; rw [hi] at hk'; cases hk'
      omega)
  cases hr : pl_fd f none 0 12 with
  | none => exact absurd hr (inv.2 (by omega))
  | some g => exact ⟨g, rfl, inv.1 g hr⟩
theorem sp_since_tb {g : Bool} {si : Nat → Int32} {w : Nat} (hw : w < 2 ^ 12) (h0 : w ≠ 0) : ∃ q, sp_since g si w = some q ∧ w.testBit q = true := by
  refine sp_fold_tb hw h0 (fun b k hk => ?_) (fun b k hk => by simp [sp_sinceF, hk])
  unfold sp_sinceF
  rw [if_pos hk]
  cases b with
  | none => exact ⟨k, rfl, Or.inl rfl⟩
  | some j =>
    dsimp only
    split
    · exact ⟨j, rfl, Or.inr rfl⟩
    · exact ⟨k, rfl, Or.inl rfl⟩
theorem sp_best_tb {to : Nat → Int32} {w c : Nat} (hw : c < 2 ^ 12) (h0 : c ≠ 0) : ∃ q, sp_best to w c = some q ∧ c.testBit q = true := by
  refine sp_fold_tb hw h0 (fun b k hk => ?_) (fun b k hk => by simp [sp_bestF, hk])
  unfold sp_bestF
  rw [if_pos hk]
  cases b with
  | none => exact ⟨k, rfl, Or.inl rfl⟩
  | some j =>
    dsimp only
    split
    · exact ⟨j, rfl, Or.inr rfl⟩
    · exact ⟨k, rfl, Or.inl rfl⟩
theorem sp_gift_tb {tr to si : Nat → Int32} {kd fg w : Nat} (hw : w < 2 ^ 12) (h0 : w ≠ 0) (hfg : fg < 10) : ∃ g, sp_gift tr to si kd fg w = some g ∧ w.testBit g = true := by
  have hp := sp_pc_pos hw h0
  have hnot := sp_not_lt (tr := tr) (t := nI (fg % 4)) (Nat.le_refl 12) hw
  have nth0 : ∀ u, u < 2 ^ 12 → u ≠ 0 → u.testBit (sp_nth u 0) = true := fun u h1 h2 => (sp_at0 (fun _ => none) h1 (sp_pc_pos h1 h2)).2.2
  unfold sp_gift
  rw [if_neg h0]
  split
  · exact ⟨_, rfl, (sp_at0 (fun _ => none) hw (Nat.mod_lt _ hp)).2.2⟩
  split
  · exact sp_since_tb hw h0
  split
  · exact sp_since_tb hw h0
  split
  · refine ⟨_, rfl, ?_⟩
    split
    · exact nth0 w hw h0
    · next h => exact sp_not_sub _ (nth0 _ hnot h)
  split
  · split
    · exact sp_best_tb hw h0
    · next h =>
      obtain ⟨q, h1, h2⟩ := sp_best_tb (to := to) (w := w) hnot h
      exact ⟨q, h1, sp_not_sub _ h2⟩
  split
  · split
    · next h => exact ⟨fg, rfl, h⟩
    · exact ⟨_, rfl, nth0 w hw h0⟩
  split
  · split
    · exact sp_since_tb hw h0
    · next h =>
      have hc : pl_clr w fg < 2 ^ 12 := Nat.lt_of_le_of_lt (pl_clr_le w fg) hw
      obtain ⟨q, h1, h2⟩ := sp_since_tb (g := false) (si := si) hc h
      rw [pl_clr_tb (Nat.lt_trans hw (by decide)) (by omega)] at h2
      simp only [Bool.and_eq_true] at h2
      exact ⟨q, h1, h2.1⟩
  · exact ⟨_, rfl, nth0 w hw h0⟩
/-- where captains lie: beside the fleets, or behind all that the law makes at its start -/
def rf_a (b c : Nat) : Prop := c = b + 3 ∨ c = b + 12 ∨ c = b + 21 ∨ b + 69 ≤ c
/-- the row of the reference: its numbers are in range -/
def rf_S (S : Nat → Int32) (n m : Nat) : Prop := n ≤ 5 ∧ m ≤ 12 ∧ S 0 = nI n ∧ S 1 = nI m ∧ (∀ i, i < n → ∃ kd fg, kd < 8 ∧ fg < 10 ∧ S (3 + 2 * i) = nI kd ∧ S (3 + 2 * i + 1) = nI fg) ∧ (∀ j, j < m → ∃ i, i < n ∧ S (13 + 5 * j) = nI i)
/-- the Fleet F is what the row S says -/
def rf (b : Nat) (M : ah_h) (F : fl_T) (S : Nat → Int32) (n m : Nat) : Prop := rf_S S n m ∧ F.1 0 = nI n ∧ F.1 1 = nI m ∧ F.1 2 = S 2 ∧
  (∀ i, i < 5 → ∃ c kd fg, F.2.1 i = some c ∧ rf_a b c ∧ cp M c kd fg ∧ (i < n → S (3 + 2 * i) = nI kd ∧ S (3 + 2 * i + 1) = nI fg)) ∧
  (∀ j, j < 12 → F.2.2 4 j = S (13 + 5 * j) ∧ F.2.2 5 j = S (13 + 5 * j + 1) ∧ F.2.2 6 j = S (13 + 5 * j + 2) ∧ F.2.2 7 j = S (13 + 5 * j + 3) ∧ F.2.2 8 j = S (13 + 5 * j + 4)) ∧
  (∀ i, i < 5 → F.2.2 3 i = nI (sp_cw S (nI i) m))
/-- whom ship i gives, by the row -/
def sp_gv (S : Nat → Int32) (m i : Nat) : Option Nat := sp_gift (fun j => S (13 + 5 * j + 1)) (fun j => S (13 + 5 * j + 2)) (fun j => S (13 + 5 * j + 3)) (S (3 + 2 * i)).toNatClampNeg (S (3 + 2 * i + 1)).toNatClampNeg (sp_cw S (nI i) m)
theorem sp_not_congr {tr tr' : Nat → Int32} (h1 : ∀ j, j < 12 → tr j = tr' j) (w : Nat) (t : Int32) : sp_not tr w t = sp_not tr' w t := by
  unfold sp_not
  refine pl_fd_congr (fun s j _ h => ?_)
  unfold sp_notF
  rw [h1 j (by omega)]
theorem sp_like_congr {to to' : Nat → Int32} (h2 : ∀ j, j < 12 → to j = to' j) (w : Nat) (t : Int32) : sp_like to w t = sp_like to' w t := by
  unfold sp_like
  refine pl_fd_congr (fun s j _ h => ?_)
  unfold sp_likeF
  rw [h2 j (by omega)]
/-- two folds that go alike under an invariant -/
theorem pl_fd_congrI {σ : Type} {f g : σ → Nat → σ} (I : Nat → σ → Prop) : ∀ (c k : Nat) (s : σ), I k s → (∀ s j, k ≤ j → j < k + c → I j s → f s j = g s j ∧ I (j + 1) (f s j)) → pl_fd f s k c = pl_fd g s k c := by
  intro c
  induction c with
  | zero => intro k s _ _; rfl
  | succ c ih =>
    intro k s h0 h
    obtain ⟨e, hi⟩ := h s k (Nat.le_refl _) (by omega) h0
    show pl_fd f (f s k) (k + 1) c = pl_fd g (g s k) (k + 1) c
    rw [← e]
    exact ih (k + 1) (f s k) hi (fun s j h1 h2 => h s j (by omega) (by omega))
theorem sp_since_congr {si si' : Nat → Int32} (h3 : ∀ j, j < 12 → si j = si' j) (g : Bool) (u : Nat) : sp_since g si u = sp_since g si' u := by
  unfold sp_since
  refine pl_fd_congrI (fun k b => ∀ j, b = some j → j < k) 12 0 none (fun j h => by cases h) (fun b k _ hk hb => ⟨?_, sp_sinceF_lt hb⟩)
  unfold sp_sinceF
  cases b with
  | none => rfl
  | some j =>
    have := hb j rfl
    dsimp only
    rw [h3 k (by omega), h3 j (by omega)]
theorem sp_best_congr {to to' : Nat → Int32} (h2 : ∀ j, j < 12 → to j = to' j) (w u : Nat) : sp_best to w u = sp_best to' w u := by
  unfold sp_best
  refine pl_fd_congrI (fun k b => ∀ j, b = some j → j < k) 12 0 none (fun j h => by cases h) (fun b k _ hk hb => ⟨?_, sp_bestF_lt hb⟩)
  unfold sp_bestF
  cases b with
  | none => rfl
  | some j =>
    have := hb j rfl
    dsimp only
    rw [h2 k (by omega), h2 j (by omega), sp_like_congr h2, sp_like_congr h2]
theorem sp_gift_congr {tr to si tr' to' si' : Nat → Int32} (h1 : ∀ j, j < 12 → tr j = tr' j) (h2 : ∀ j, j < 12 → to j = to' j) (h3 : ∀ j, j < 12 → si j = si' j) (kd fg w : Nat) : sp_gift tr to si kd fg w = sp_gift tr' to' si' kd fg w := by
  unfold sp_gift
  rw [sp_not_congr h1, sp_since_congr h3, sp_since_congr h3, sp_since_congr h3, sp_best_congr h2]
section RF
variable {b : Nat} {M M0 : ah_h} {F : fl_T} {S : Nat → Int32} {n m a : Nat}
/-- a fleet's address -/
def rf_f (b a : Nat) : Prop := a = b + 1 ∨ a = b + 10 ∨ a = b + 19
theorem rf_keep (h : rf b M F S n m) {M' : ah_h} (hM : ∀ c, rf_a b c → M' c = M c) : rf b M' F S n m := by
  obtain ⟨h1, h2, h3, h4, h5, h6, h7⟩ := h
  refine ⟨h1, h2, h3, h4, fun i hi => ?_, h6, h7⟩
  obtain ⟨c, kd, fg, e1, e2, e3, e4⟩ := h5 i hi
  exact ⟨c, kd, fg, e1, e2, ⟨by rw [hM c e2]; exact e3.1, e3.2⟩, e4⟩
theorem rf_fl (ha : rf_f b a) {c : Nat} (hc : rf_a b c) : fl a F M0 c = M0 c := fl_out (by unfold rf_f at ha; unfold rf_a at hc; omega)
/-- giver -/
theorem rf_giver (h : rf b M0 F S n m) (ha : rf_f b a) {i : Nat} (hi : i < n) : fX2_giver (fl a F M0) a (nI i) = some (sp_I (sp_gv S m i)) := by
  obtain ⟨⟨hn, hm, -, -, -, -⟩, h2, h3, h4, h5, h6, h7⟩ := h
  obtain ⟨c, kd, fg, e1, e2, e3, e4⟩ := h5 i (by omega)
  have hcp : cp (fl a F M0) c kd fg := ⟨by rw [rf_fl ha e2]; exact e3.1, e3.2⟩
  have hw := sp_cw_lt S (nI i) m
  unfold fX2_giver
  rw [fl_ob, Option.bind_some, fl_isShip h2, Option.bind_some, sp_is_in (by omega) hi, if_neg (by decide), fl_r3, Option.bind_some, fl_ar (by omega), e1, Option.bind_some, fl_r4, Option.bind_some, fl_ai (by decide) (by decide) (show i < fl_n 3 from (by show i < 5; omega)), Option.bind_some, h7 i (by omega), cg_gift h3 hm hw hcp, Option.bind_some]
  unfold sp_gv
  rw [(e4 hi).1, (e4 hi).2, nI_clamp (by have := e3.2.1; omega), nI_clamp (by have := e3.2.2; omega)]
  rw [sp_gift_congr (fun j hj => (h6 j hj).2.1) (fun j hj => (h6 j hj).2.2.1) (fun j hj => (h6 j hj).2.2.2.1)]
theorem rf_gives {am : Nat} {τ : md_T} (h : rf_S (τ.1 1) n m) {i : Nat} (hi : i < n) : fX11_gives (md am τ M0) am (nI i) = some (sp_I (sp_gv (τ.1 1) m i)) := by
  obtain ⟨hn, hm, h0, h1, h2, h3⟩ := h
  obtain ⟨kd, fg, hkd, hfg, e1, e2⟩ := h2 i hi
  rw [md_gives h1 hm (by omega) e1 hkd e2 hfg]
  unfold sp_gv
  rw [e1, e2, nI_clamp (by omega), nI_clamp (by omega)]
theorem sp_gv_some (h : rf_S S n m) {i : Nat} (hi : i < n) (hw : sp_cw S (nI i) m ≠ 0) : ∃ g, sp_gv S m i = some g ∧ g < m ∧ S (13 + 5 * g) = nI i := by
  obtain ⟨hn, hm, h0, h1, h2, h3⟩ := h
  obtain ⟨kd, fg, hkd, hfg, e1, e2⟩ := h2 i hi
  have hlt := Nat.lt_of_lt_of_le (sp_cw_lt S (nI i) m) (Nat.pow_le_pow_right (n := 2) (by decide) hm)
  obtain ⟨g, hg, ht⟩ := sp_gift_tb (tr := fun j => S (13 + 5 * j + 1)) (to := fun j => S (13 + 5 * j + 2)) (si := fun j => S (13 + 5 * j + 3)) (kd := kd) hlt hw hfg
  rw [sp_cw_tb] at ht
  simp only [Bool.and_eq_true, decide_eq_true_eq] at ht
  refine ⟨g, ?_, ht.1, ht.2⟩
  unfold sp_gv
  rw [e1, e2, nI_clamp (by omega), nI_clamp (by omega)]
  exact hg
end RF
