/-! PURE LEVEL, 3: what the reference reads -/
/-- whether x is one of the first n -/
def sp_is (n : Nat) (x : Int32) : Int32 := if x < 0 then 0 else if nI n ≤ x then 0 else 1
theorem sp_is_in {n i : Nat} (hn : n < 2 ^ 31) (h : i < n) : sp_is n (nI i) = 1 := by
  unfold sp_is
  rw [if_neg (nI_pos (by omega)), if_neg (nI_ge h hn)]
theorem sp_is_cases {n : Nat} (hn : n < 2 ^ 31) (x : Int32) : sp_is n x = 0 ∨ ∃ i, i < n ∧ x = nI i ∧ sp_is n x = 1 := by
  rcases pl_ix x hn with h | h | ⟨j, h, rfl⟩
  · left; unfold sp_is; rw [if_pos h]
  · left; unfold sp_is
    by_cases h0 : x < 0
    · rw [if_pos h0]
    · rw [if_neg h0, if_pos h]
  · exact Or.inr ⟨j, h, rfl, sp_is_in hn h⟩
theorem sp_is_01 (n : Nat) (x : Int32) : sp_is n x = 0 ∨ sp_is n x = 1 := by
  unfold sp_is
  split
  · exact Or.inl rfl
  · split
    · exact Or.inl rfl
    · exact Or.inr rfl
theorem pl_pred_lt {n : Nat} (hn : n < 2 ^ 31) (x : Int32) (h0 : ¬ x < 0) : (nI n - 1 < x) = (nI n ≤ x) := by
  rcases pl_ix x hn with h | h | ⟨j, h, rfl⟩
  · exact absurd h h0
  · apply propext
    refine ⟨fun _ => h, fun _ => ?_⟩
    rw [Int32.lt_iff_toInt_lt]
    rw [Int32.le_iff_toInt_le] at h
    cases n with
    | zero => rw [show nI 0 - 1 = -1 by decide]; rw [Int32.not_lt, Int32.le_iff_toInt_le] at h0; exact Int.lt_of_lt_of_le (by decide) h0
    | succ n => rw [nI_pred, nI_toInt (by omega)]; rw [nI_toInt hn] at h; omega
  · apply propext
    cases n with
    | zero => omega
    | succ n =>
      rw [nI_pred]
      constructor
      · intro hh; exact absurd hh (by rw [nI_ltI (by omega) (by omega)]; omega)
      · intro hh; exact absurd hh (nI_ge h hn)
section MDR
variable {a : Nat} {τ : md_T} {M0 : ah_h} {n m : Nat}
theorem md_s {i : Nat} (hi : i < 73) : ah_ai (md a τ M0) (a + 1) (nI i) = some (τ.1 1 i) := md_ai (k := 1) (by decide) (by decide) (by decide) hi
theorem md_s0 : ah_ai (md a τ M0) (a + 1) 0 = some (τ.1 1 0) := md_s (i := 0) (by decide)
theorem md_s1 : ah_ai (md a τ M0) (a + 1) 1 = some (τ.1 1 1) := md_s (i := 1) (by decide)
theorem md_s2 : ah_ai (md a τ M0) (a + 1) 2 = some (τ.1 1 2) := md_s (i := 2) (by decide)
theorem md_get0 {j : Nat} (hj : j < 12) : fX11_get (md a τ M0) a (nI j) 0 = some (τ.1 1 (13 + 5 * j)) := md_get (k := 0) hj (by decide) rfl
theorem md_get1 {j : Nat} (hj : j < 12) : fX11_get (md a τ M0) a (nI j) 1 = some (τ.1 1 (13 + 5 * j + 1)) := md_get (k := 1) hj (by decide) rfl
theorem md_get2 {j : Nat} (hj : j < 12) : fX11_get (md a τ M0) a (nI j) 2 = some (τ.1 1 (13 + 5 * j + 2)) := md_get (k := 2) hj (by decide) rfl
theorem md_get3 {j : Nat} (hj : j < 12) : fX11_get (md a τ M0) a (nI j) 3 = some (τ.1 1 (13 + 5 * j + 3)) := md_get (k := 3) hj (by decide) rfl
theorem md_get4 {j : Nat} (hj : j < 12) : fX11_get (md a τ M0) a (nI j) 4 = some (τ.1 1 (13 + 5 * j + 4)) := md_get (k := 4) hj (by decide) rfl
theorem md_isShip (h : τ.1 1 0 = nI n) (hn : n < 2 ^ 31) (x : Int32) : fX11_isShip (md a τ M0) a x = some (sp_is n x) := by
  unfold fX11_isShip
  rw [md_ob, Option.bind_some, md_r0, Option.bind_some, md_s0, Option.bind_some, h, show (0 : Int64) = (0 : Int32).toInt64 from rfl, md_isIn, Option.bind_some]
  have e : (if x < 0 then 0 else if nI n - 1 < x then 0 else 1 : Int32) = sp_is n x := by
    unfold sp_is
    by_cases h0 : x < 0
    · rw [if_pos h0, if_pos h0]
    · rw [if_neg h0, if_neg h0]
      simp only [pl_pred_lt hn x h0]
  rw [e, if_pos (sp_is_01 n x)]
theorem md_isMan (h : τ.1 1 1 = nI m) (hm : m < 2 ^ 31) (x : Int32) : fX11_isMan (md a τ M0) a x = some (sp_is m x) := by
  unfold fX11_isMan
  rw [md_ob, Option.bind_some, md_r0, Option.bind_some, md_s1, Option.bind_some, h, show (0 : Int64) = (0 : Int32).toInt64 from rfl, md_isIn, Option.bind_some]
  have e : (if x < 0 then 0 else if nI m - 1 < x then 0 else 1 : Int32) = sp_is m x := by
    unfold sp_is
    by_cases h0 : x < 0
    · rw [if_pos h0, if_pos h0]
    · rw [if_neg h0, if_neg h0]
      simp only [pl_pred_lt hm x h0]
  rw [e, if_pos (sp_is_01 m x)]
theorem md_isShelf (M : ah_h) (x : Int32) : fX11_isShelf M x = some (sp_is 8 x) := by
  unfold fX11_isShelf
  rw [show (0 : Int64) = (0 : Int32).toInt64 from rfl, show (7 : Int64) = (7 : Int32).toInt64 from rfl, md_isIn, Option.bind_some]
  have e : (if x < 0 then 0 else if 7 < x then 0 else 1 : Int32) = sp_is 8 x := by
    unfold sp_is
    by_cases h0 : x < 0
    · rw [if_pos h0, if_pos h0]
    · rw [if_neg h0, if_neg h0]
      have e := pl_pred_lt (n := 8) (by decide) x h0
      rw [show nI 8 - 1 = 7 by decide] at e
      simp only [e]
  rw [e, if_pos (sp_is_01 8 x)]
/-- who is aboard: a set of the first m men -/
def sp_cw (S : Nat → Int32) (x : Int32) (m : Nat) : Nat := pl_fd (fun w k => if S (13 + 5 * k) = x then w ||| 2 ^ k else w) 0 0 m
theorem sp_cw_succ (S : Nat → Int32) (x : Int32) (m : Nat) : sp_cw S x (m + 1) = if S (13 + 5 * m) = x then sp_cw S x m ||| 2 ^ m else sp_cw S x m := by
  unfold sp_cw
  rw [pl_fd_snoc, Nat.zero_add]
theorem sp_cw_lt (S : Nat → Int32) (x : Int32) (m : Nat) : sp_cw S x m < 2 ^ m := by
  induction m with
  | zero => exact Nat.zero_lt_one
  | succ m ih =>
    have h2 : sp_cw S x m < 2 ^ (m + 1) := Nat.lt_of_lt_of_le ih (Nat.pow_le_pow_right (by decide) (by omega))
    rw [sp_cw_succ]
    split
    · exact pl_or_lt h2 (by omega)
    · exact h2
theorem sp_cw_tb (S : Nat → Int32) (x : Int32) (m j : Nat) : (sp_cw S x m).testBit j = (decide (j < m) && decide (S (13 + 5 * j) = x)) := by
  induction m with
  | zero => simp [sp_cw, pl_fd]
  | succ m ih =>
    rw [sp_cw_succ]
    by_cases h : S (13 + 5 * m) = x
    · rw [if_pos h, pl_or_tb, ih]
      by_cases e : m = j
      · subst e; simp [h]
      · have : (j < m + 1) = (j < m) := by apply propext; omega
        simp [e, this]
    · rw [if_neg h, ih]
      by_cases e : j = m
      · subst e; simp [h]
      · have : (j < m + 1) = (j < m) := by apply propext; omega
        simp [this]
theorem sp_cw_12 {S : Nat → Int32} {x : Int32} {m : Nat} (hm : m ≤ 12) : sp_cw S x m < 4096 := Nat.lt_of_lt_of_le (sp_cw_lt S x m) (Nat.pow_le_pow_right (n := 2) (by decide) hm)
theorem md_aboard (h : τ.1 1 1 = nI m) (hm : m ≤ 12) (x : Int32) : fX11_aboard (md a τ M0) a x = some (nI (sp_cw (τ.1 1) x m)) := by
  unfold fX11_aboard
  rw [md_ob, Option.bind_some]
  have := pl_loop (fun n (w : Nat) k => fX11_aboard_4 (md a τ M0) n a x (nI w) (nI k)) m (fun w k => if τ.1 1 (13 + 5 * k) = x then w ||| 2 ^ k else w) (fun w => nI w) (fun _ _ => True) ?_ (fun _ _ _ _ => trivial) ?_ ah_fu 0 0 (by omega) (by unfold ah_fu; omega) trivial
  · exact this
  · intro n w k hk _
    show fX11_aboard_4_b _ _ _ _ _ _ = _
    unfold fX11_aboard_4_b
    rw [md_r0, Option.bind_some, md_s1, Option.bind_some, h, if_neg (nI_ge hk (by omega)), md_get0 (by omega), Option.bind_some]
    by_cases e : τ.1 1 (13 + 5 * k) = x
    · simp only [if_pos e]
      unfold fX11_aboard_30
      rw [pl_orb (by omega), nI_1]
    · simp only [if_neg e]
      unfold fX11_aboard_30
      rw [nI_1]
  · intro n w _
    show fX11_aboard_4_b _ _ _ _ _ _ = _
    unfold fX11_aboard_4_b
    rw [md_r0, Option.bind_some, md_s1, Option.bind_some, h, if_pos (nI_le (Nat.le_refl _) (by omega))]
end MDR
/-! counting bits -/
def sp_pc (w : Nat) : Nat := pl_fd (fun c k => c + (w.testBit k).toNat) 0 0 12
theorem sp_bits0 : (List.range 4096).all (fun w => decide (fX11_bits (fun _ => none) (nI w) = some (nI (sp_pc w)))) = true := by decide +kernel
theorem sp_bitsM (M M' : ah_h) (n : Nat) : fX11_bits_4 M n = fX11_bits_4 M' n := by
  induction n with
  | zero => rfl
  | succ n ih =>
    show (fun x1 x2 => fX11_bits_4_b (fX11_bits_4 M n) M x1 x2) = (fun x1 x2 => fX11_bits_4_b (fX11_bits_4 M' n) M' x1 x2)
    rw [ih]
    rfl
theorem sp_bits (M : ah_h) {w : Nat} (h : w < 4096) : fX11_bits M (nI w) = some (nI (sp_pc w)) := by
  have h1 := List.all_eq_true.mp sp_bits0 w (List.mem_range.mpr h)
  have h2 := of_decide_eq_true h1
  rw [← h2]
  unfold fX11_bits
  rw [sp_bitsM M (fun _ => none)]
theorem sp_bc0 : (List.range 4096).all (fun w => decide (fJ6_bitCount_0f7a4 (fun _ => none) (nI w) = some (nI (sp_pc w)))) = true := by decide +kernel
theorem sp_bc (M : ah_h) {w : Nat} (h : w < 4096) : fJ6_bitCount_0f7a4 M (nI w) = some (nI (sp_pc w)) := by
  have h1 := List.all_eq_true.mp sp_bc0 w (List.mem_range.mpr h)
  have h2 := of_decide_eq_true h1
  rw [← h2]
  rfl
