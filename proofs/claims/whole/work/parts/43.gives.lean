/-! PURE LEVEL, 4: whom a captain gives: what it is, and that the reference says so -/
/-- the man at a place of a set (12: none) -/
def sp_nth (w p : Nat) : Nat := pl_fe (fun l k => if w.testBit k then (if l = 0 then .inr k else .inl (l - 1)) else .inl l) (fun _ => 12) p 0 12
/-- a man or none, as an int -/
def sp_I (b : Option Nat) : Int32 := match b with
  | none => -4
  | some j => nI j
/-- keep the one at y when x comes -/
def sp_keep (g : Bool) (x y : Int32) : Bool := match g with
  | true => decide (x < y)
  | false => decide (y ≤ x)
def sp_sinceF (g : Bool) (si : Nat → Int32) (w : Nat) (b : Option Nat) (k : Nat) : Option Nat := if w.testBit k then (match b with
  | none => some k
  | some j => if sp_keep g (si k) (si j) = true then some j else some k) else b
def sp_since (g : Bool) (si : Nat → Int32) (w : Nat) : Option Nat := pl_fd (sp_sinceF g si w) none 0 12
def sp_notF (tr : Nat → Int32) (w : Nat) (t : Int32) (r k : Nat) : Nat := if w.testBit k then (if tr k = t then r else r ||| 2 ^ k) else r
def sp_not (tr : Nat → Int32) (w : Nat) (t : Int32) : Nat := pl_fd (sp_notF tr w t) 0 0 12
def sp_likeF (to : Nat → Int32) (w : Nat) (t : Int32) (c k : Nat) : Nat := if w.testBit k then (if to k = t then c + 1 else c) else c
def sp_like (to : Nat → Int32) (w : Nat) (t : Int32) : Nat := pl_fd (sp_likeF to w t) 0 0 12
def sp_bestF (to : Nat → Int32) (w c : Nat) (b : Option Nat) (k : Nat) : Option Nat := if c.testBit k then (match b with
  | none => some k
  | some j => if sp_like to w (to k) ≤ sp_like to w (to j) then some j else some k) else b
def sp_best (to : Nat → Int32) (w c : Nat) : Option Nat := pl_fd (sp_bestF to w c) none 0 12
/-- whom a captain of a kind and figure gives of the crew w -/
def sp_gift (tr to si : Nat → Int32) (kind figure w : Nat) : Option Nat :=
  if w = 0 then none
  else if kind = 1 then some (sp_nth w (figure % sp_pc w))
  else if kind = 2 then sp_since true si w
  else if kind = 3 then sp_since false si w
  else if kind = 4 then some (sp_nth (if sp_not tr w (nI (figure % 4)) = 0 then w else sp_not tr w (nI (figure % 4))) 0)
  else if kind = 5 then sp_best to w (if sp_not tr w (nI (figure % 4)) = 0 then w else sp_not tr w (nI (figure % 4)))
  else if kind = 6 then (if w.testBit figure then some figure else some (sp_nth w 0))
  else if kind = 7 then sp_since false si (if pl_clr w figure = 0 then w else pl_clr w figure)
  else some (sp_nth w 0)
/-! where bits are -/
theorem sp_hi {w m j : Nat} (h : w < 2 ^ m) (hj : m ≤ j) : w.testBit j = false := Nat.testBit_lt_two_pow (Nat.lt_of_lt_of_le h (Nat.pow_le_pow_right (by decide) hj))
theorem sp_fe_found {w p r : Nat} : ∀ (c k l : Nat), pl_fe (fun l k => if w.testBit k then (if l = 0 then .inr k else .inl (l - 1)) else .inl l) (fun _ => 12) l k c = r → k + c = 12 → r < 12 → w.testBit r = true ∧ k ≤ r := by
  intro c
  induction c with
  | zero => intro k l h hk hr; unfold pl_fe at h; omega
  | succ c ih =>
    intro k l h hk hr
    unfold pl_fe at h
    by_cases hb : w.testBit k = true
    · rw [if_pos hb] at h
      by_cases hl : l = 0
      · rw [if_pos hl] at h
        dsimp only at h
        subst h
        exact ⟨hb, Nat.le_refl _⟩
      · rw [if_neg hl] at h
        have := ih (k + 1) (l - 1) h (by omega) hr
        exact ⟨this.1, by omega⟩
    · rw [if_neg hb] at h
      have := ih (k + 1) l h (by omega) hr
      exact ⟨this.1, by omega⟩
/-- bits from k on, c of them -/
def sp_cnt (w k c : Nat) : Nat := pl_fd (fun n j => n + (w.testBit j).toNat) 0 k c
theorem sp_cnt_acc (w : Nat) : ∀ (c k s : Nat), pl_fd (fun n j => n + (w.testBit j).toNat) s k c = s + sp_cnt w k c := by
  intro c
  induction c with
  | zero => intro k s; rfl
  | succ c ih =>
    intro k s
    unfold sp_cnt
    show pl_fd _ (s + (w.testBit k).toNat) (k + 1) c = s + pl_fd _ (0 + (w.testBit k).toNat) (k + 1) c
    rw [ih, ih (k + 1) (0 + (w.testBit k).toNat)]
    omega
theorem sp_cnt_succ (w k c : Nat) : sp_cnt w k (c + 1) = (w.testBit k).toNat + sp_cnt w (k + 1) c := by
  unfold sp_cnt
  show pl_fd _ (0 + (w.testBit k).toNat) (k + 1) c = _
  rw [sp_cnt_acc]
  unfold sp_cnt
  omega
theorem sp_nth_lt {w : Nat} : ∀ (c k l : Nat), k + c = 12 → l < sp_cnt w k c → pl_fe (fun l k => if w.testBit k then (if l = 0 then .inr k else .inl (l - 1)) else .inl l) (fun _ => 12) l k c < 12 := by
  intro c
  induction c with
  | zero => intro k l _ h; exact absurd h (Nat.not_lt_zero _)
  | succ c ih =>
    intro k l hk h
    rw [sp_cnt_succ] at h
    unfold pl_fe
    by_cases hb : w.testBit k = true
    · rw [if_pos hb]
      rw [hb] at h
      by_cases hl : l = 0
      · rw [if_pos hl]; dsimp only; omega
      · rw [if_neg hl]; exact ih (k + 1) (l - 1) (by omega) (by simp at h; omega)
    · rw [if_neg hb]
      have hb' : w.testBit k = false := by simpa using hb
      rw [hb'] at h
      exact ih (k + 1) l (by omega) (by simpa using h)
/-- the reference's at -/
theorem sp_at (M : ah_h) {w : Nat} (hw : w < 2 ^ 12) : ∀ (c k l n : Nat), k + c = 12 → l < sp_cnt w k c → c < n → fX11_at_4 M n (nI w) (nI l) (nI k) = some (nI (pl_fe (fun l k => if w.testBit k then (if l = 0 then .inr k else .inl (l - 1)) else .inl l) (fun _ => 12) l k c)) := by
  have hw' : w < 2 ^ 31 := Nat.lt_trans hw (by decide)
  intro c
  induction c with
  | zero => intro k l n _ h; exact absurd h (Nat.not_lt_zero _)
  | succ c ih =>
    intro k l n hk h hn
    rw [sp_cnt_succ] at h
    cases n with
    | zero => omega
    | succ n =>
      have hl31 : l < 2 ^ 31 := by
        have : sp_cnt w k (c + 1) ≤ c + 1 := by
          unfold sp_cnt
          have := pl_fd_inv (f := fun n j => n + (w.testBit j).toNat) (fun j s => s ≤ j - k) (s := 0) (k := k) (c := c + 1) (by omega) (fun s j h1 h2 h3 => by
            cases w.testBit j <;> simp <;> omega)
          omega
        rw [sp_cnt_succ] at this
        omega
      have e0 : ((0 : Int32) < nI l) = (0 < l) := propext (by rw [show (0 : Int32) = nI 0 from rfl, nI_ltI (by decide) hl31])
      show fX11_at_4_b _ _ _ _ _ = _
      unfold fX11_at_4_b fX11_at_16
      simp only [e0, pl_mb0 hw' (show k < 31 by omega)]
      rw [pl_mb hw' (by omega)]
      unfold pl_fe
      by_cases hb : w.testBit k = true
      · rw [hb] at h ⊢
        by_cases hl : l = 0
        · subst hl
          rw [if_neg (by omega), if_neg (by simp)]
          simp
        · rw [if_pos (by omega), if_pos rfl, if_neg hl]
          show fX11_at_4 M n (nI w) (nI l - nI 1) (nI k + 1) = _
          rw [pk_sub (by omega), nI_1]
          exact ih (k + 1) (l - 1) n (by omega) (by simp at h; omega) (by omega)
      · have hb' : w.testBit k = false := by simpa using hb
        rw [hb'] at h ⊢
        have e : fX11_at_4 M n (nI w) (nI l - nI (false).toNat) (nI k + 1) = some (nI (pl_fe (fun l k => if w.testBit k then (if l = 0 then .inr k else .inl (l - 1)) else .inl l) (fun _ => 12) l (k + 1) c)) := by
          show fX11_at_4 M n (nI w) (nI l - nI 0) (nI k + 1) = _
          rw [pk_sub (by omega), nI_1, Nat.sub_zero]
          exact ih (k + 1) l n (by omega) (by simpa using h) (by omega)
        rw [e]
        simp
theorem sp_at0 (M : ah_h) {w p : Nat} (hw : w < 2 ^ 12) (hp : p < sp_pc w) : fX11_at M (nI w) (nI p) = some (nI (sp_nth w p)) ∧ sp_nth w p < 12 ∧ w.testBit (sp_nth w p) = true := by
  have h1 := sp_at M hw 12 0 p ah_fu rfl hp (by decide)
  have h2 := sp_nth_lt (w := w) 12 0 p rfl hp
  have h3 := sp_fe_found (w := w) (p := p) 12 0 p rfl rfl h2
  exact ⟨h1, h2, h3.1⟩
/-- a set that isn't empty has a first -/
theorem sp_pc_pos {w : Nat} (hw : w < 2 ^ 12) (h0 : w ≠ 0) : 0 < sp_pc w := by
  obtain ⟨i, hi⟩ := Nat.exists_testBit_of_ne_zero h0
  have hi12 : i < 12 := by
    apply Classical.byContradiction
    intro h
    rw [sp_hi hw (by omega)] at hi
    cases hi
  have key : ∀ (c k : Nat), k ≤ i → i < k + c → 0 < sp_cnt w k c := by
    intro c
    induction c with
    | zero => intro k h1 h2; omega
    | succ c ih =>
      intro k h1 h2
      rw [sp_cnt_succ]
      by_cases e : k = i
      · subst e; rw [hi]; show 0 < 1 + _; omega
      · have := ih (k + 1) (by omega) (by omega)
        omega
  exact key 12 0 (by omega) (by omega)
