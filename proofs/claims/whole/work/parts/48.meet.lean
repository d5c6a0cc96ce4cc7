/-! PURE LEVEL, 9: a meeting, by the row; the reference and the class hold it -/
theorem pl_fd_rel {σ ρ : Type} {f : σ → Nat → σ} {g : ρ → Nat → ρ} (R : Nat → σ → ρ → Prop) : ∀ (c k : Nat) (s : σ) (t : ρ), R k s t → (∀ s t j, k ≤ j → j < k + c → R j s t → R (j + 1) (f s j) (g t j)) → R (k + c) (pl_fd f s k c) (pl_fd g t k c) := by
  intro c
  induction c with
  | zero => intro k s t h _; exact h
  | succ c ih =>
    intro k s t h0 h
    rw [show k + (c + 1) = (k + 1) + c by omega]
    exact ih (k + 1) (f s k) (g t k) (h s t k (Nat.le_refl _) (by omega) h0) (fun s t j h1 h2 => h s t j (by omega) (by omega))
def sp_sF (w : Nat) (S : Nat → Int32) (k : Nat) : Nat → Int32 := if w.testBit k then upd S (13 + 5 * k + 4) (S (13 + 5 * k + 4) ||| nI (pl_clr w k)) else S
def sp_sails (S : Nat → Int32) (m : Nat) (x : Int32) : Nat → Int32 := pl_fd (sp_sF (sp_cw S x m)) S 0 m
def sp_swap (S : Nat → Int32) (i j g1 g2 : Nat) : Nat → Int32 := upd (upd (upd (upd (upd S 2 (S 2 + 1)) (13 + 5 * g1) (nI j)) (13 + 5 * g2) (nI i)) (13 + 5 * g1 + 3) (S 2 + 1)) (13 + 5 * g2 + 3) (S 2 + 1)
/-- the meeting of i and j, of whom g1 and g2 are given -/
def sp_mt (S : Nat → Int32) (m i j g1 g2 : Nat) : Nat → Int32 := sp_sails (sp_sails (sp_swap S i j g1 g2) m (nI i)) m (nI j)
theorem sp_sF_out {w : Nat} {S : Nat → Int32} {k q : Nat} (h : q ≠ 13 + 5 * k + 4) : sp_sF w S k q = S q := by
  unfold sp_sF
  split
  · exact pk_un h
  · rfl
theorem sp_sails_out (S : Nat → Int32) (m : Nat) (x : Int32) {q : Nat} (h : ∀ k, q ≠ 13 + 5 * k + 4) : sp_sails S m x q = S q :=
  pl_fd_inv (f := sp_sF (sp_cw S x m)) (fun _ T => T q = S q) (s := S) (k := 0) (c := m) rfl (fun T k _ _ hT => (sp_sF_out (h k)).trans hT)
theorem sp_cw_congr {S T : Nat → Int32} (h : ∀ k, T (13 + 5 * k) = S (13 + 5 * k)) (x : Int32) (m : Nat) : sp_cw T x m = sp_cw S x m := by
  unfold sp_cw
  refine pl_fd_congr (fun s j _ _ => ?_)
  rw [h j]
theorem sp_sails_cw (S : Nat → Int32) (m : Nat) (x y : Int32) (l : Nat) : sp_cw (sp_sails S m x) y l = sp_cw S y l := sp_cw_congr (fun k => sp_sails_out S m x (fun j => by omega)) y l
theorem md_AA (τ : md_T) (k : Nat) (f g : Nat → Int32) : md_A (md_A τ k f) k g = md_A τ k g := by
  unfold md_A
  simp only [Prod.mk.injEq, and_true]
  funext j
  by_cases h : j = k
  · simp [h]
  · simp [h]
theorem md_A1 (τ : md_T) (k : Nat) (f : Nat → Int32) : (md_A τ k f).1 k = f := by simp [md_A]
theorem md_Aself (τ : md_T) (k : Nat) : md_A τ k (τ.1 k) = τ := by
  unfold md_A
  have : (fun j => if j = k then τ.1 k else τ.1 j) = τ.1 := by
    funext j
    by_cases h : j = k
    · simp [h]
    · simp [h]
  rw [this]
section MT
variable {a : Nat} {τ : md_T} {M0 : ah_h} {n m : Nat}
theorem md_A2 (τ : md_T) (k : Nat) (f : Nat → Int32) : (md_A τ k f).2.2 = τ.2.2 := rfl
theorem md_puts0 {j : Nat} {v : Int32} (hj : j < 12) : fX11_puts (md a τ M0) a (nI j) 0 v = some (md a (md_A τ 1 (upd (τ.1 1) (13 + 5 * j) v)) M0) := md_puts (k := 0) hj (by decide) rfl
theorem md_puts1 {j : Nat} {v : Int32} (hj : j < 12) : fX11_puts (md a τ M0) a (nI j) 1 v = some (md a (md_A τ 1 (upd (τ.1 1) (13 + 5 * j + 1) v)) M0) := md_puts (k := 1) hj (by decide) rfl
theorem md_puts2 {j : Nat} {v : Int32} (hj : j < 12) : fX11_puts (md a τ M0) a (nI j) 2 v = some (md a (md_A τ 1 (upd (τ.1 1) (13 + 5 * j + 2) v)) M0) := md_puts (k := 2) hj (by decide) rfl
theorem md_puts3 {j : Nat} {v : Int32} (hj : j < 12) : fX11_puts (md a τ M0) a (nI j) 3 v = some (md a (md_A τ 1 (upd (τ.1 1) (13 + 5 * j + 3) v)) M0) := md_puts (k := 3) hj (by decide) rfl
theorem md_puts4 {j : Nat} {v : Int32} (hj : j < 12) : fX11_puts (md a τ M0) a (nI j) 4 v = some (md a (md_A τ 1 (upd (τ.1 1) (13 + 5 * j + 4) v)) M0) := md_puts (k := 4) hj (by decide) rfl
theorem md_w2 {v : Int32} : ah_si (md a τ M0) (a + 1) 2 v = some (md a (md_A τ 1 (upd (τ.1 1) 2 v)) M0) := md_si (k := 1) (i := 2) (by decide) (by decide) (by decide) (show 2 < 73 by decide)
theorem md_w1 {v : Int32} : ah_si (md a τ M0) (a + 1) 1 v = some (md a (md_A τ 1 (upd (τ.1 1) 1 v)) M0) := md_si (k := 1) (i := 1) (by decide) (by decide) (by decide) (show 1 < 73 by decide)
theorem md_w0 {v : Int32} : ah_si (md a τ M0) (a + 1) 0 v = some (md a (md_A τ 1 (upd (τ.1 1) 0 v)) M0) := md_si (k := 1) (i := 0) (by decide) (by decide) (by decide) (show 0 < 73 by decide)
theorem md_sails (h : τ.1 1 1 = nI m) (hm : m ≤ 12) (x : Int32) : fX11_sails (md a τ M0) a x = some (md a (md_A τ 1 (sp_sails (τ.1 1) m x)) M0) := by
  unfold fX11_sails
  rw [md_ob, Option.bind_some, md_aboard h hm, Option.bind_some]
  have hw := sp_cw_lt (τ.1 1) x m
  unfold sp_sails
  generalize sp_cw (τ.1 1) x m = w at hw ⊢
  have hw' : w < 2 ^ 31 := Nat.lt_of_lt_of_le hw (Nat.pow_le_pow_right (by decide) (by omega))
  have := pl_loop (fun n S k => fX11_sails_8 n (md a (md_A τ 1 S) M0) a (nI w) (nI k)) m (sp_sF w) (fun S => md a (md_A τ 1 S) M0) (fun _ S => S 1 = nI m) ?_ (fun S k _ hS => (sp_sF_out (by omega)).trans hS) ?_ ah_fu (τ.1 1) 0 (by omega) (by unfold ah_fu; omega) h
  · rw [md_Aself] at this
    exact this
  · intro n S k hk hS
    show fX11_sails_8_b _ _ _ _ _ = _
    unfold fX11_sails_8_b fX11_sails_47 sp_sF
    rw [md_r0, Option.bind_some, md_s1, Option.bind_some, md_A1, hS, if_neg (nI_ge hk (by omega)), nI_1]
    simp only [pl_mb1 hw' (show k < 31 by omega)]
    by_cases hb : w.testBit k = true
    · rw [if_pos hb, if_pos hb, md_get4 (by omega), Option.bind_some, pl_nand (by omega), md_A1, md_puts4 (by omega), Option.bind_some, md_AA, md_A1]
    · rw [if_neg hb, if_neg hb]
  · intro n S hS
    show fX11_sails_8_b _ _ _ _ _ = _
    unfold fX11_sails_8_b
    rw [md_r0, Option.bind_some, md_s1, Option.bind_some, md_A1, hS, if_pos (nI_le (Nat.le_refl _) (by omega))]
theorem md_mayMeet (h : rf_S (τ.1 1) n m) (x y : Int32) : fX11_mayMeet (md a τ M0) a x y = some (if sp_is n x = 0 then 0 else if sp_is n y = 0 then 0 else if x = y then 0 else if sp_cw (τ.1 1) x m = 0 then 0 else if sp_cw (τ.1 1) y m = 0 then 0 else 1) := by
  obtain ⟨hn, hm, h0, h1, -, -⟩ := h
  have nn : ∀ z, (nI (sp_cw (τ.1 1) z m) = 0) = (sp_cw (τ.1 1) z m = 0) := fun z => propext (by
    rw [show (0 : Int32) = nI 0 from rfl, nI_eq (Nat.lt_of_lt_of_le (sp_cw_12 hm) (by decide)) (by decide)])
  unfold fX11_mayMeet
  rw [md_ob, Option.bind_some, md_isShip h0 (by omega), Option.bind_some, md_isShip h0 (by omega), Option.bind_some, md_aboard h1 hm, Option.bind_some, md_aboard h1 hm, Option.bind_some]
  simp only [nn]
  split
  · rfl
  split
  · rfl
  split
  · rfl
  split
  · rfl
  split <;> rfl
/-- two ships that may meet -/
def sp_may (S : Nat → Int32) (n m i j : Nat) : Prop := i < n ∧ j < n ∧ i ≠ j ∧ sp_cw S (nI i) m ≠ 0 ∧ sp_cw S (nI j) m ≠ 0
theorem md_meets (h : rf_S (τ.1 1) n m) {i j g1 g2 : Nat} (hi : i < n) (hj : j < n) (e1 : sp_gv (τ.1 1) m i = some g1) (e2 : sp_gv (τ.1 1) m j = some g2) (hg1 : g1 < m) (hg2 : g2 < m) : fX11_meets (md a τ M0) a (nI i) (nI j) = some (md a (md_V (md_V (md_A τ 1 (sp_mt (τ.1 1) m i j g1 g2)) 12 (nI g1)) 13 (nI g2)) M0) := by
  obtain ⟨hn, hm, h0, h1, -, -⟩ := id h
  have sv : ∀ (σ : md_T) (k : Nat) (v : Int32), (md_V σ k v).1 = σ.1 := fun _ _ _ => rfl
  have sw1 : sp_swap (τ.1 1) i j g1 g2 1 = nI m := by
    unfold sp_swap
    rw [pk_un (by omega), pk_un (by omega), pk_un (by omega), pk_un (by omega), pk_un (by omega)]
    exact h1
  have hg1' : g1 < 12 := by omega
  have hg2' : g2 < 12 := by omega
  unfold fX11_meets
  rw [md_ob, Option.bind_some, rf_gives h hi, Option.bind_some, e1, show sp_I (some g1) = nI g1 from rfl, md_p12, Option.bind_some, rf_gives (τ := md_V τ 12 (nI g1)) h hj, Option.bind_some, sv, e2, show sp_I (some g2) = nI g2 from rfl, md_p13, Option.bind_some]
  generalize hσ : md_V (md_V τ 12 (nI g1)) 13 (nI g2) = σ
  have v12 : σ.2.2 12 = nI g1 := by rw [← hσ]; rfl
  have v13 : σ.2.2 13 = nI g2 := by rw [← hσ]; rfl
  have vS : σ.1 1 = τ.1 1 := by rw [← hσ]; rfl
  have u2 : ∀ (f : Nat → Int32) (k : Nat) (v : Int32), 13 ≤ k → upd f k v 2 = f 2 := fun f k v hk => pk_un (by omega)
  simp only [md_r0, Option.bind_some, md_s2, md_w2, md_i12, md_i13, md_A2, v12, v13, md_puts0 hg1', md_puts0 hg2', md_puts3 hg1', md_puts3 hg2', md_AA, md_A1, vS, u2 _ (13 + 5 * g1) _ (by omega), u2 _ (13 + 5 * g2) _ (by omega), u2 _ (13 + 5 * g1 + 3) _ (by omega), pk_us]
  have sw2 : (md_A σ 1 (sp_swap (τ.1 1) i j g1 g2)).1 1 1 = nI m := by rw [md_A1]; exact sw1
  have e3 : fX11_sails (md a (md_A σ 1 (sp_swap (τ.1 1) i j g1 g2)) M0) a (nI i) = some (md a (md_A σ 1 (sp_sails (sp_swap (τ.1 1) i j g1 g2) m (nI i))) M0) := by rw [md_sails sw2 hm, md_AA, md_A1]
  have sw3 : (md_A σ 1 (sp_sails (sp_swap (τ.1 1) i j g1 g2) m (nI i))).1 1 1 = nI m := by rw [md_A1, sp_sails_out _ _ _ (fun k => by omega)]; exact sw1
  have e4 : fX11_sails (md a (md_A σ 1 (sp_sails (sp_swap (τ.1 1) i j g1 g2) m (nI i))) M0) a (nI j) = some (md a (md_A σ 1 (sp_mt (τ.1 1) m i j g1 g2)) M0) := by rw [md_sails sw3 hm, md_AA, md_A1]; rfl
  show (fX11_sails (md a (md_A σ 1 (sp_swap (τ.1 1) i j g1 g2)) M0) a (nI i)).bind _ = _
  rw [e3, Option.bind_some, e4, Option.bind_some, ← hσ]
  rfl
end MT
