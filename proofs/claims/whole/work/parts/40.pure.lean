/-! PURE LEVEL, 1: loops as folds, bits of small sets -/
/-- c steps from k on -/
def pl_fd {σ : Type} (f : σ → Nat → σ) : σ → Nat → Nat → σ
  | s, _, 0 => s
  | s, k, c + 1 => pl_fd f (f s k) (k + 1) c
theorem pl_fd_snoc {σ : Type} (f : σ → Nat → σ) (s : σ) (k c : Nat) : pl_fd f s k (c + 1) = f (pl_fd f s k c) (k + c) := by
  induction c generalizing s k with
  | zero => rfl
  | succ c ih =>
    show pl_fd f (f s k) (k + 1) (c + 1) = _
    rw [ih (f s k) (k + 1)]
    show f (pl_fd f (f s k) (k + 1) c) (k + 1 + c) = f (pl_fd f (f s k) (k + 1) c) (k + (c + 1))
    rw [show k + 1 + c = k + (c + 1) by omega]
theorem pl_fd_congr {σ : Type} {f g : σ → Nat → σ} {s : σ} {k c : Nat} (h : ∀ s j, k ≤ j → j < k + c → f s j = g s j) : pl_fd f s k c = pl_fd g s k c := by
  induction c generalizing s k with
  | zero => rfl
  | succ c ih =>
    show pl_fd f (f s k) (k + 1) c = pl_fd g (g s k) (k + 1) c
    rw [h s k (Nat.le_refl _) (by omega)]
    exact ih (fun s j h1 h2 => h s j (by omega) (by omega))
theorem pl_fd_id {σ : Type} {f : σ → Nat → σ} {s : σ} {k c : Nat} (h : ∀ s j, k ≤ j → j < k + c → f s j = s) : pl_fd f s k c = s := by
  induction c generalizing s k with
  | zero => rfl
  | succ c ih =>
    show pl_fd f (f s k) (k + 1) c = s
    rw [h s k (Nat.le_refl _) (by omega)]
    exact ih (fun s j h1 h2 => h s j (by omega) (by omega))
theorem pl_fd_add {σ : Type} (f : σ → Nat → σ) (s : σ) (k c d : Nat) : pl_fd f s k (c + d) = pl_fd f (pl_fd f s k c) (k + c) d := by
  induction c generalizing s k with
  | zero => rw [Nat.zero_add]; rfl
  | succ c ih =>
    rw [show c + 1 + d = (c + d) + 1 by omega]
    show pl_fd f (f s k) (k + 1) (c + d) = pl_fd f (pl_fd f (f s k) (k + 1) c) (k + (c + 1)) d
    rw [ih (f s k) (k + 1), show k + 1 + c = k + (c + 1) by omega]
/-- an invariant of a fold -/
theorem pl_fd_inv {σ : Type} {f : σ → Nat → σ} (I : Nat → σ → Prop) {s : σ} {k c : Nat} (h0 : I k s) (h : ∀ s j, k ≤ j → j < k + c → I j s → I (j + 1) (f s j)) : I (k + c) (pl_fd f s k c) := by
  induction c generalizing s k with
  | zero => exact h0
  | succ c ih =>
    rw [show k + (c + 1) = (k + 1) + c by omega]
    exact ih (h s k (Nat.le_refl _) (by omega) h0) (fun s j h1 h2 => h s j (by omega) (by omega))
/-- a loop that counts from k to m is a fold -/
theorem pl_loop {σ ρ : Type} (L : Nat → σ → Nat → Option ρ) (m : Nat) (f : σ → Nat → σ) (fin : σ → ρ) (I : Nat → σ → Prop) (hs : ∀ n s k, k < m → I k s → L (n + 1) s k = L n (f s k) (k + 1)) (hI : ∀ s k, k < m → I k s → I (k + 1) (f s k)) (he : ∀ n s, I m s → L (n + 1) s m = some (fin s)) :
    ∀ (n : Nat) (s : σ) (k : Nat), k ≤ m → m - k < n → I k s → L n s k = some (fin (pl_fd f s k (m - k))) := by
  intro n
  induction n with
  | zero => intro s k _ h; omega
  | succ n ih =>
    intro s k hk hn hi
    by_cases hkm : k < m
    · rw [hs n s k hkm hi, ih (f s k) (k + 1) (by omega) (by omega) (hI s k hkm hi)]
      rw [show m - k = (m - (k + 1)) + 1 by omega]
      rfl
    · have : k = m := by omega
      subst this
      rw [he n s hi, Nat.sub_self]
      rfl
/-- .. with an end before its time -/
def pl_fe {σ ρ : Type} (f : σ → Nat → σ ⊕ ρ) (fin : σ → ρ) : σ → Nat → Nat → ρ
  | s, _, 0 => fin s
  | s, k, c + 1 => match f s k with
    | .inl s' => pl_fe f fin s' (k + 1) c
    | .inr r => r
theorem pl_loopE {σ ρ : Type} (L : Nat → σ → Nat → Option ρ) (m : Nat) (f : σ → Nat → σ ⊕ ρ) (fin : σ → ρ) (I : Nat → σ → Prop) (hs : ∀ n s k, k < m → I k s → L (n + 1) s k = match f s k with | .inl s' => L n s' (k + 1) | .inr r => some r) (hI : ∀ s s' k, k < m → I k s → f s k = .inl s' → I (k + 1) s') (he : ∀ n s, I m s → L (n + 1) s m = some (fin s)) :
    ∀ (n : Nat) (s : σ) (k : Nat), k ≤ m → m - k < n → I k s → L n s k = some (pl_fe f fin s k (m - k)) := by
  intro n
  induction n with
  | zero => intro s k _ h; omega
  | succ n ih =>
    intro s k hk hn hi
    by_cases hkm : k < m
    · rw [hs n s k hkm hi, show m - k = (m - (k + 1)) + 1 by omega]
      show _ = some (match f s k with | .inl s' => pl_fe f fin s' (k + 1) (m - (k + 1)) | .inr r => r)
      cases hf : f s k with
      | inl s' => exact ih s' (k + 1) (by omega) (by omega) (hI s s' k hkm hi hf)
      | inr r => rfl
    · have : k = m := by omega
      subst this
      rw [he n s hi, Nat.sub_self]
      rfl
theorem pl_fe_congr {σ ρ : Type} {f g : σ → Nat → σ ⊕ ρ} {fin : σ → ρ} {s : σ} {k c : Nat} (h : ∀ s j, k ≤ j → j < k + c → f s j = g s j) : pl_fe f fin s k c = pl_fe g fin s k c := by
  induction c generalizing s k with
  | zero => rfl
  | succ c ih =>
    show (match f s k with | .inl s' => pl_fe f fin s' (k + 1) c | .inr r => r) = (match g s k with | .inl s' => pl_fe g fin s' (k + 1) c | .inr r => r)
    rw [h s k (Nat.le_refl _) (by omega)]
    cases g s k with
    | inl s' => exact ih (fun s j h1 h2 => h s j (by omega) (by omega))
    | inr r => rfl
/-! bits -/
theorem pl_sh {j : Nat} (h : j < 31) : (1 : Int32) <<< (nI j &&& 31) = nI (2 ^ j) := by
  have : ∀ j, j < 31 → (1 : Int32) <<< (nI j &&& 31) = nI (2 ^ j) := by decide +kernel
  exact this j h
theorem pl_bv (n : Nat) : (nI n).toBitVec = BitVec.ofNat 32 n := rfl
theorem pl_inj {a b : Int32} (h : a.toBitVec = b.toBitVec) : a = b := Int32.toBitVec_inj.mp h
theorem pl_and (a b : Nat) : nI a &&& nI b = nI (a &&& b) := by
  apply pl_inj
  rw [Int32.toBitVec_and, pl_bv, pl_bv, pl_bv]
  apply BitVec.eq_of_toNat_eq
  simp [BitVec.toNat_and, BitVec.toNat_ofNat]
theorem pl_or (a b : Nat) : nI a ||| nI b = nI (a ||| b) := by
  apply pl_inj
  rw [Int32.toBitVec_or, pl_bv, pl_bv, pl_bv]
  apply BitVec.eq_of_toNat_eq
  simp [BitVec.toNat_or, BitVec.toNat_ofNat]
/-- a without its bit j -/
def pl_clr (a j : Nat) : Nat := a &&& (2 ^ 32 - 1 - 2 ^ j)
theorem pl_tn {n : Nat} (h : n < 2 ^ 31) : (nI n).toBitVec.toNat = n := by
  rw [pl_bv, BitVec.toNat_ofNat]
  exact Nat.mod_eq_of_lt (by omega)
theorem pl_eq {a b : Nat} (ha : a < 2 ^ 31) (hb : b < 2 ^ 31) : nI a = nI b ↔ a = b := nI_eq ha hb
theorem pl_shr {a j : Nat} (ha : a < 2 ^ 31) (hj : j < 31) : nI a >>> (nI j &&& 31) = nI (a / 2 ^ j) :=
  pk_shrN ha _ j ((by decide +kernel : ∀ j, j < 31 → ((nI j &&& 31).toBitVec.smod 32).toNat = j) j hj)
theorem pl_one (a : Nat) (ha : a < 2 ^ 31) : nI a &&& 1 = nI (a % 2) := by
  rw [show (1 : Int32) = nI 1 from rfl, pl_and, Nat.and_one_is_mod]
/-- the model's bit -/
theorem pl_mb {a j : Nat} (ha : a < 2 ^ 31) (hj : j < 31) : (nI a >>> (nI j &&& 31)) &&& 1 = nI (a.testBit j).toNat := by
  rw [pl_shr ha hj, pl_one _ (Nat.lt_of_le_of_lt (Nat.div_le_self _ _) ha), Nat.testBit_eq_decide_div_mod_eq]
  congr 1
  have : a / 2 ^ j % 2 < 2 := Nat.mod_lt _ (by decide)
  rcases (show a / 2 ^ j % 2 = 0 ∨ a / 2 ^ j % 2 = 1 by omega) with h | h <;> rw [h] <;> rfl
theorem pl_mb0 {a j : Nat} (ha : a < 2 ^ 31) (hj : j < 31) : ((nI a >>> (nI j &&& 31)) &&& 1 = 0) = (a.testBit j = false) := by
  rw [pl_mb ha hj]
  cases a.testBit j <;> decide
theorem pl_mb1 {a j : Nat} (ha : a < 2 ^ 31) (hj : j < 31) : ((nI a >>> (nI j &&& 31)) &&& 1 = 1) = (a.testBit j = true) := by
  rw [pl_mb ha hj]
  cases a.testBit j <;> decide
/-- the class's bit -/
theorem pl_cb {a j : Nat} (ha : a < 2 ^ 31) (hj : j < 31) : (nI a &&& ((1 : Int32) <<< (nI j &&& 31)) = 0) = (a.testBit j = false) := by
  rw [pl_sh hj, pl_and, show (0 : Int32) = nI 0 from rfl, nI_eq (Nat.lt_of_le_of_lt Nat.and_le_left ha) (by decide)]
  apply propext
  constructor
  · intro h
    have := congrArg (fun n => Nat.testBit n j) h
    simpa [Nat.testBit_and, Nat.testBit_two_pow_self] using this
  · intro h
    apply Nat.eq_of_testBit_eq
    intro i
    rw [Nat.testBit_and, Nat.testBit_two_pow, Nat.zero_testBit]
    by_cases e : j = i
    · subst e; simp [h]
    · simp [e]
theorem pl_not {j : Nat} (hj : j < 31) : ((1 : Int32) <<< (nI j &&& 31)) ^^^ (-1) = nI (2 ^ 32 - 1 - 2 ^ j) :=
  (by decide +kernel : ∀ j, j < 31 → ((1 : Int32) <<< (nI j &&& 31)) ^^^ (-1) = nI (2 ^ 32 - 1 - 2 ^ j)) j hj
theorem pl_ntb {j i : Nat} (hj : j < 31) (hi : i < 32) : (2 ^ 32 - 1 - 2 ^ j).testBit i = !decide (i = j) :=
  (by decide +kernel : ∀ j, j < 31 → ∀ i, i < 32 → (2 ^ 32 - 1 - 2 ^ j).testBit i = !decide (i = j)) j hj i hi
theorem pl_clr_tb {a j : Nat} (ha : a < 2 ^ 31) (hj : j < 31) (i : Nat) : (pl_clr a j).testBit i = (a.testBit i && !decide (i = j)) := by
  unfold pl_clr
  rw [Nat.testBit_and]
  by_cases hi : i < 32
  · rw [pl_ntb hj hi]
  · rw [Nat.testBit_lt_two_pow (Nat.lt_of_lt_of_le ha (Nat.pow_le_pow_right (by decide) (by omega)))]
    simp
theorem pl_clr_le (a j : Nat) : pl_clr a j ≤ a := Nat.and_le_left
theorem pl_nand {a j : Nat} (hj : j < 31) : nI a &&& (((1 : Int32) <<< (nI j &&& 31)) ^^^ (-1)) = nI (pl_clr a j) := by
  rw [pl_not hj, pl_and]
  rfl
theorem pl_orb {a j : Nat} (hj : j < 31) : nI a ||| ((1 : Int32) <<< (nI j &&& 31)) = nI (a ||| 2 ^ j) := by rw [pl_sh hj, pl_or]
theorem pl_or_lt {a j n : Nat} (ha : a < 2 ^ n) (hj : j < n) : a ||| 2 ^ j < 2 ^ n := Nat.or_lt_two_pow ha (Nat.pow_lt_pow_right (by decide) hj)
theorem pl_or_tb (a j i : Nat) : (a ||| 2 ^ j).testBit i = (a.testBit i || decide (j = i)) := by
  rw [Nat.testBit_or, Nat.testBit_two_pow]
/-! numbers -/
theorem pl_in {k n : Nat} (h : k < n) (hn : n < 2 ^ 31) : ah_in (nI k) n = true := by
  unfold ah_in
  rw [nI_clamp (by omega)]
  simp only [Bool.not_eq_true', Bool.or_eq_false_iff, decide_eq_false_iff_not]
  exact ⟨nI_pos (by omega), by omega⟩
theorem pl_clamp {k : Nat} (h : k < 2 ^ 31) : (nI k).toNatClampNeg = k := nI_clamp h
/-- an int32 is below 0, or n or more, or one of the first n -/
theorem pl_ix (x : Int32) {n : Nat} (hn : n < 2 ^ 31) : x < 0 ∨ nI n ≤ x ∨ ∃ j : Nat, j < n ∧ x = nI j := pk_ix x hn
