/-! PURE LEVEL, 2: the reference's object in the heap -/
/-- its arrays by their places, the long one, its int fields -/
abbrev md_T : Type := (Nat → Nat → Int32) × (Nat → Int64) × (Nat → Int32)
def md_f (a : Nat) (V : Nat → Int32) : List Value := [.ref (a + 1), .ref (a + 2), .ref (a + 3), .ref (a + 4), .ref (a + 5), .ref (a + 6), .ref (a + 7), .ref (a + 8), .ref (a + 9), .ref (a + 10), .int (V 10), .int (V 11), .int (V 12), .int (V 13), .int (V 14), .int (V 15), .int (V 16), .int (V 17), .ref (a + 11), .ref (a + 12), .ref (a + 13), .int (V 21), .ref (a + 14), .int (V 23)]
/-- how long the array at a place is -/
def md_n : Nat → Nat
  | 1 => 73
  | 2 => 73
  | 3 => 73
  | 4 => 73
  | 8 => 800
  | 11 => 3
  | 13 => 365
  | 14 => 12
  | _ => 8
def md_c (a : Nat) (τ : md_T) (k : Nat) : ah_c := if k = 0 then ah_O 11 (md_f a τ.2.2) else if k = 12 then ah_J 5 τ.2.1 else ah_I (md_n k) (τ.1 k)
def md (a : Nat) (τ : md_T) (M0 : ah_h) : ah_h := fun q => if a ≤ q ∧ q < a + 15 then some (md_c a τ (q - a)) else M0 q
def md_A (τ : md_T) (k : Nat) (f : Nat → Int32) : md_T := (fun j => if j = k then f else τ.1 j, τ.2.1, τ.2.2)
def md_V (τ : md_T) (k : Nat) (v : Int32) : md_T := (τ.1, τ.2.1, fun j => if j = k then v else τ.2.2 j)
def md_J (τ : md_T) (f : Nat → Int64) : md_T := (τ.1, f, τ.2.2)
theorem md_at {a k : Nat} {τ : md_T} {M0 : ah_h} (h : k < 15) : md a τ M0 (a + k) = some (md_c a τ k) := by
  unfold md
  rw [if_pos ⟨by omega, by omega⟩, Nat.add_sub_cancel_left]
theorem md_at0 {a : Nat} {τ : md_T} {M0 : ah_h} : md a τ M0 a = some (ah_O 11 (md_f a τ.2.2)) := md_at (k := 0) (by decide)
theorem md_ob {a : Nat} {τ : md_T} {M0 : ah_h} : ah_ob (md a τ M0) a 11 = some (md_f a τ.2.2) := by
  unfold ah_ob
  rw [md_at0]
  rfl
theorem md_gr {a k r : Nat} {τ : md_T} {M0 : ah_h} (h : (md_f a τ.2.2)[k]? = some (.ref r)) : ah_gr (md a τ M0) a 11 k = some r := by
  unfold ah_gr
  rw [md_ob, Option.bind_some, h]
  rfl
theorem md_gi {a k : Nat} {v : Int32} {τ : md_T} {M0 : ah_h} (h : (md_f a τ.2.2)[k]? = some (.int v)) : ah_gi (md a τ M0) a 11 k = some v := by
  unfold ah_gi
  rw [md_ob, Option.bind_some, h]
  rfl
theorem md_r0 {a : Nat} {τ : md_T} {M0 : ah_h} : ah_gr (md a τ M0) a 11 0 = some (a + 1) := md_gr rfl
theorem md_r1 {a : Nat} {τ : md_T} {M0 : ah_h} : ah_gr (md a τ M0) a 11 1 = some (a + 2) := md_gr rfl
theorem md_r2 {a : Nat} {τ : md_T} {M0 : ah_h} : ah_gr (md a τ M0) a 11 2 = some (a + 3) := md_gr rfl
theorem md_r3 {a : Nat} {τ : md_T} {M0 : ah_h} : ah_gr (md a τ M0) a 11 3 = some (a + 4) := md_gr rfl
theorem md_r4 {a : Nat} {τ : md_T} {M0 : ah_h} : ah_gr (md a τ M0) a 11 4 = some (a + 5) := md_gr rfl
theorem md_r5 {a : Nat} {τ : md_T} {M0 : ah_h} : ah_gr (md a τ M0) a 11 5 = some (a + 6) := md_gr rfl
theorem md_r6 {a : Nat} {τ : md_T} {M0 : ah_h} : ah_gr (md a τ M0) a 11 6 = some (a + 7) := md_gr rfl
theorem md_r7 {a : Nat} {τ : md_T} {M0 : ah_h} : ah_gr (md a τ M0) a 11 7 = some (a + 8) := md_gr rfl
theorem md_r8 {a : Nat} {τ : md_T} {M0 : ah_h} : ah_gr (md a τ M0) a 11 8 = some (a + 9) := md_gr rfl
theorem md_r9 {a : Nat} {τ : md_T} {M0 : ah_h} : ah_gr (md a τ M0) a 11 9 = some (a + 10) := md_gr rfl
theorem md_r18 {a : Nat} {τ : md_T} {M0 : ah_h} : ah_gr (md a τ M0) a 11 18 = some (a + 11) := md_gr rfl
theorem md_r19 {a : Nat} {τ : md_T} {M0 : ah_h} : ah_gr (md a τ M0) a 11 19 = some (a + 12) := md_gr rfl
theorem md_r20 {a : Nat} {τ : md_T} {M0 : ah_h} : ah_gr (md a τ M0) a 11 20 = some (a + 13) := md_gr rfl
theorem md_r22 {a : Nat} {τ : md_T} {M0 : ah_h} : ah_gr (md a τ M0) a 11 22 = some (a + 14) := md_gr rfl
theorem md_i10 {a : Nat} {τ : md_T} {M0 : ah_h} : ah_gi (md a τ M0) a 11 10 = some (τ.2.2 10) := md_gi rfl
theorem md_i11 {a : Nat} {τ : md_T} {M0 : ah_h} : ah_gi (md a τ M0) a 11 11 = some (τ.2.2 11) := md_gi rfl
theorem md_i12 {a : Nat} {τ : md_T} {M0 : ah_h} : ah_gi (md a τ M0) a 11 12 = some (τ.2.2 12) := md_gi rfl
theorem md_i13 {a : Nat} {τ : md_T} {M0 : ah_h} : ah_gi (md a τ M0) a 11 13 = some (τ.2.2 13) := md_gi rfl
theorem md_i14 {a : Nat} {τ : md_T} {M0 : ah_h} : ah_gi (md a τ M0) a 11 14 = some (τ.2.2 14) := md_gi rfl
theorem md_i15 {a : Nat} {τ : md_T} {M0 : ah_h} : ah_gi (md a τ M0) a 11 15 = some (τ.2.2 15) := md_gi rfl
theorem md_i16 {a : Nat} {τ : md_T} {M0 : ah_h} : ah_gi (md a τ M0) a 11 16 = some (τ.2.2 16) := md_gi rfl
theorem md_i21 {a : Nat} {τ : md_T} {M0 : ah_h} : ah_gi (md a τ M0) a 11 21 = some (τ.2.2 21) := md_gi rfl
theorem md_i23 {a : Nat} {τ : md_T} {M0 : ah_h} : ah_gi (md a τ M0) a 11 23 = some (τ.2.2 23) := md_gi rfl
theorem md_ck {a k : Nat} {τ : md_T} (h0 : k ≠ 0) (h12 : k ≠ 12) : md_c a τ k = ah_I (md_n k) (τ.1 k) := by
  unfold md_c
  rw [if_neg h0, if_neg h12]
theorem md_ai {a k i : Nat} {τ : md_T} {M0 : ah_h} (hk : k < 15) (h0 : k ≠ 0) (h12 : k ≠ 12) (hi : i < md_n k) : ah_ai (md a τ M0) (a + k) (nI i) = some (τ.1 k i) := by
  have hn : md_n k < 2 ^ 31 := by unfold md_n; split <;> decide
  unfold ah_ai
  rw [md_at hk, md_ck h0 h12]
  show (if ah_in (nI i) (md_n k) = true then some (τ.1 k (nI i).toNatClampNeg) else none) = _
  rw [if_pos (pl_in hi hn), nI_clamp (by omega)]
theorem md_up {a k : Nat} {τ τ' : md_T} {M0 : ah_h} {e : ah_c} (hk : k < 15) (he : md_c a τ' k = e) (ho : ∀ j, j < 15 → j ≠ k → md_c a τ' j = md_c a τ j) : ah_up (md a τ M0) (a + k) e = md a τ' M0 := by
  funext q
  unfold ah_up md
  by_cases hq : q = a + k
  · subst hq
    rw [if_pos rfl, if_pos ⟨by omega, by omega⟩, Nat.add_sub_cancel_left, he]
  · rw [if_neg hq]
    by_cases h : a ≤ q ∧ q < a + 15
    · rw [if_pos h, if_pos h, ho (q - a) (by omega) (by omega)]
    · rw [if_neg h, if_neg h]
theorem md_si {a k i : Nat} {v : Int32} {τ : md_T} {M0 : ah_h} (hk : k < 15) (h0 : k ≠ 0) (h12 : k ≠ 12) (hi : i < md_n k) : ah_si (md a τ M0) (a + k) (nI i) v = some (md a (md_A τ k (upd (τ.1 k) i v)) M0) := by
  have hn : md_n k < 2 ^ 31 := by unfold md_n; split <;> decide
  unfold ah_si
  rw [md_at hk, md_ck h0 h12]
  show (if ah_in (nI i) (md_n k) = true then some (ah_up _ _ (ah_I (md_n k) (upd (τ.1 k) (nI i).toNatClampNeg v))) else none) = _
  rw [if_pos (pl_in hi hn), nI_clamp (by omega)]
  congr 1
  refine md_up hk ?_ ?_
  · rw [md_ck h0 h12]
    simp [md_A]
  · intro j _ hj
    unfold md_c md_A
    simp only [if_neg hj]
theorem md_pf {a k : Nat} {v : Int32} {τ : md_T} {M0 : ah_h} (h : (md_f a τ.2.2).set k (.int v) = md_f a (md_V τ k v).2.2) (hk : k < 24) : ah_pf (md a τ M0) a 11 k (.int v) = some (md a (md_V τ k v) M0) := by
  unfold ah_pf
  rw [md_ob, Option.bind_some, if_pos (show k < (md_f a τ.2.2).length from hk), h]
  congr 1
  refine md_up (k := 0) (by decide) ?_ ?_
  · rfl
  · intro j _ hj
    unfold md_c md_V
    simp only [if_neg hj]
theorem md_p10 {a : Nat} {v : Int32} {τ : md_T} {M0 : ah_h} : ah_pf (md a τ M0) a 11 10 (.int v) = some (md a (md_V τ 10 v) M0) := md_pf rfl (by decide)
theorem md_p11 {a : Nat} {v : Int32} {τ : md_T} {M0 : ah_h} : ah_pf (md a τ M0) a 11 11 (.int v) = some (md a (md_V τ 11 v) M0) := md_pf rfl (by decide)
theorem md_p12 {a : Nat} {v : Int32} {τ : md_T} {M0 : ah_h} : ah_pf (md a τ M0) a 11 12 (.int v) = some (md a (md_V τ 12 v) M0) := md_pf rfl (by decide)
theorem md_p13 {a : Nat} {v : Int32} {τ : md_T} {M0 : ah_h} : ah_pf (md a τ M0) a 11 13 (.int v) = some (md a (md_V τ 13 v) M0) := md_pf rfl (by decide)
theorem md_p14 {a : Nat} {v : Int32} {τ : md_T} {M0 : ah_h} : ah_pf (md a τ M0) a 11 14 (.int v) = some (md a (md_V τ 14 v) M0) := md_pf rfl (by decide)
theorem md_p15 {a : Nat} {v : Int32} {τ : md_T} {M0 : ah_h} : ah_pf (md a τ M0) a 11 15 (.int v) = some (md a (md_V τ 15 v) M0) := md_pf rfl (by decide)
theorem md_p16 {a : Nat} {v : Int32} {τ : md_T} {M0 : ah_h} : ah_pf (md a τ M0) a 11 16 (.int v) = some (md a (md_V τ 16 v) M0) := md_pf rfl (by decide)
theorem md_p21 {a : Nat} {v : Int32} {τ : md_T} {M0 : ah_h} : ah_pf (md a τ M0) a 11 21 (.int v) = some (md a (md_V τ 21 v) M0) := md_pf rfl (by decide)
theorem md_p23 {a : Nat} {v : Int32} {τ : md_T} {M0 : ah_h} : ah_pf (md a τ M0) a 11 23 (.int v) = some (md a (md_V τ 23 v) M0) := md_pf rfl (by decide)
/-! small methods of the reference -/
theorem md_ix {j k : Nat} : (13 + 5 * nI j) + nI k = nI (13 + 5 * j + k) := by
  rw [show (13 : Int32) = nI 13 from rfl, show (5 : Int32) = nI 5 from rfl, pk_mul, nI_add, nI_add]
theorem md_get {a j k : Nat} {x : Int32} {τ : md_T} {M0 : ah_h} (hj : j < 12) (hk : k < 5) (hx : x = nI k) : fX11_get (md a τ M0) a (nI j) x = some (τ.1 1 (13 + 5 * j + k)) := by
  subst hx
  unfold fX11_get
  rw [md_ob, Option.bind_some, md_r0, Option.bind_some, md_ix, md_ai (k := 1) (by decide) (by decide) (by decide) (show _ < 73 by omega), Option.bind_some]
theorem md_puts {a j k : Nat} {x v : Int32} {τ : md_T} {M0 : ah_h} (hj : j < 12) (hk : k < 5) (hx : x = nI k) : fX11_puts (md a τ M0) a (nI j) x v = some (md a (md_A τ 1 (upd (τ.1 1) (13 + 5 * j + k) v)) M0) := by
  subst hx
  unfold fX11_puts
  rw [md_ob, Option.bind_some, md_r0, Option.bind_some, md_ix, md_si (k := 1) (by decide) (by decide) (by decide) (show _ < 73 by omega), Option.bind_some]
theorem md_kind {a i : Nat} {τ : md_T} {M0 : ah_h} (hi : i < 5) : fX11_kind (md a τ M0) a (nI i) = some (τ.1 1 (3 + 2 * i)) := by
  unfold fX11_kind
  rw [md_ob, Option.bind_some, md_r0, Option.bind_some, show (3 + 2 * nI i : Int32) = nI (3 + 2 * i) by rw [show (3 : Int32) = nI 3 from rfl, show (2 : Int32) = nI 2 from rfl, pk_mul, nI_add], md_ai (k := 1) (by decide) (by decide) (by decide) (show _ < 73 by omega), Option.bind_some]
theorem md_figure {a i : Nat} {τ : md_T} {M0 : ah_h} (hi : i < 5) : fX11_figure (md a τ M0) a (nI i) = some (τ.1 1 (3 + 2 * i + 1)) := by
  unfold fX11_figure
  rw [md_ob, Option.bind_some, md_r0, Option.bind_some, show ((3 + 2 * nI i) + 1 : Int32) = nI (3 + 2 * i + 1) by rw [show (3 : Int32) = nI 3 from rfl, show (2 : Int32) = nI 2 from rfl, pk_mul, nI_add, nI_1], md_ai (k := 1) (by decide) (by decide) (by decide) (show _ < 73 by omega), Option.bind_some]
/-- isIn over ints -/
theorem md_lt64 (p q : Int32) : p.toInt64 < q.toInt64 ↔ p < q := by rw [Int64.lt_iff_toInt_lt, Int32.lt_iff_toInt_lt, Int32.toInt_toInt64, Int32.toInt_toInt64]
theorem md_isIn (M : ah_h) (x lo hi : Int32) : fX11_isIn M x.toInt64 lo.toInt64 hi.toInt64 = some (if x < lo then 0 else if hi < x then 0 else 1) := by
  unfold fX11_isIn
  simp only [lg_cmp_lt, lg_cmp_gt, md_lt64]
  split
  · rfl
  · split <;> rfl
