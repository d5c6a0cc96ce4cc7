/-! PURE LEVEL, 6: a Fleet of the class in the heap -/
abbrev fl_T : Type := (Nat → Int32) × (Nat → Option Nat) × (Nat → Nat → Int32)
def fl_f (a : Nat) (V : Nat → Int32) : List Value := [.int (V 0), .int (V 1), .int (V 2), .ref (a + 1), .ref (a + 3), .ref (a + 4), .ref (a + 5), .ref (a + 6), .ref (a + 7), .ref (a + 8)]
def fl_n (k : Nat) : Nat := if k = 3 then 5 else 12
def fl_c (a : Nat) (F : fl_T) (k : Nat) : ah_c := if k = 0 then ah_O 2 (fl_f a F.1) else if k = 1 then ah_R 2 5 F.2.1 else ah_I (fl_n k) (F.2.2 k)
/-- its nine cells but the third, which is a captain's -/
def fl (a : Nat) (F : fl_T) (M0 : ah_h) : ah_h := fun q => if a ≤ q ∧ q < a + 9 ∧ q ≠ a + 2 then some (fl_c a F (q - a)) else M0 q
def fl_V (F : fl_T) (k : Nat) (v : Int32) : fl_T := (fun j => if j = k then v else F.1 j, F.2.1, F.2.2)
def fl_C (F : fl_T) (f : Nat → Option Nat) : fl_T := (F.1, f, F.2.2)
def fl_A (F : fl_T) (k : Nat) (f : Nat → Int32) : fl_T := (F.1, F.2.1, fun j => if j = k then f else F.2.2 j)
theorem fl_at {a k : Nat} {F : fl_T} {M0 : ah_h} (h : k < 9) (h2 : k ≠ 2) : fl a F M0 (a + k) = some (fl_c a F k) := by
  unfold fl
  rw [if_pos ⟨by omega, by omega, by omega⟩, Nat.add_sub_cancel_left]
theorem fl_at0 {a : Nat} {F : fl_T} {M0 : ah_h} : fl a F M0 a = some (ah_O 2 (fl_f a F.1)) := fl_at (k := 0) (by decide) (by decide)
theorem fl_out {a q : Nat} {F : fl_T} {M0 : ah_h} (h : q < a ∨ a + 9 ≤ q ∨ q = a + 2) : fl a F M0 q = M0 q := by
  unfold fl
  rw [if_neg (by omega)]
theorem fl_ob {a : Nat} {F : fl_T} {M0 : ah_h} : ah_ob (fl a F M0) a 2 = some (fl_f a F.1) := by
  unfold ah_ob
  rw [fl_at0]
  rfl
theorem fl_gr {a k r : Nat} {F : fl_T} {M0 : ah_h} (h : (fl_f a F.1)[k]? = some (.ref r)) : ah_gr (fl a F M0) a 2 k = some r := by
  unfold ah_gr
  rw [fl_ob, Option.bind_some, h]
  rfl
theorem fl_gi {a k : Nat} {v : Int32} {F : fl_T} {M0 : ah_h} (h : (fl_f a F.1)[k]? = some (.int v)) : ah_gi (fl a F M0) a 2 k = some v := by
  unfold ah_gi
  rw [fl_ob, Option.bind_some, h]
  rfl
section FL
variable {a : Nat} {F : fl_T} {M0 : ah_h}
theorem fl_r3 : ah_gr (fl a F M0) a 2 3 = some (a + 1) := fl_gr rfl
theorem fl_r4 : ah_gr (fl a F M0) a 2 4 = some (a + 3) := fl_gr rfl
theorem fl_r5 : ah_gr (fl a F M0) a 2 5 = some (a + 4) := fl_gr rfl
theorem fl_r6 : ah_gr (fl a F M0) a 2 6 = some (a + 5) := fl_gr rfl
theorem fl_r7 : ah_gr (fl a F M0) a 2 7 = some (a + 6) := fl_gr rfl
theorem fl_r8 : ah_gr (fl a F M0) a 2 8 = some (a + 7) := fl_gr rfl
theorem fl_r9 : ah_gr (fl a F M0) a 2 9 = some (a + 8) := fl_gr rfl
theorem fl_i0 : ah_gi (fl a F M0) a 2 0 = some (F.1 0) := fl_gi rfl
theorem fl_i1 : ah_gi (fl a F M0) a 2 1 = some (F.1 1) := fl_gi rfl
theorem fl_i2 : ah_gi (fl a F M0) a 2 2 = some (F.1 2) := fl_gi rfl
theorem fl_nn (k : Nat) : fl_n k < 2 ^ 31 := by unfold fl_n; split <;> decide
theorem fl_ck {k : Nat} (h : 3 ≤ k) : fl_c a F k = ah_I (fl_n k) (F.2.2 k) := by
  unfold fl_c
  rw [if_neg (by omega), if_neg (by omega)]
theorem fl_ai {k i : Nat} (hk : k < 9) (h3 : 3 ≤ k) (hi : i < fl_n k) : ah_ai (fl a F M0) (a + k) (nI i) = some (F.2.2 k i) := by
  have hn := fl_nn k
  unfold ah_ai
  rw [fl_at hk (by omega), fl_ck h3]
  show (if ah_in (nI i) (fl_n k) = true then some (F.2.2 k (nI i).toNatClampNeg) else none) = _
  rw [if_pos (pl_in hi hn), nI_clamp (by omega)]
theorem fl_up {k : Nat} {F' : fl_T} {e : ah_c} (hk : k < 9) (h2 : k ≠ 2) (he : fl_c a F' k = e) (ho : ∀ j, j < 9 → j ≠ k → fl_c a F' j = fl_c a F j) : ah_up (fl a F M0) (a + k) e = fl a F' M0 := by
  funext q
  unfold ah_up fl
  by_cases hq : q = a + k
  · subst hq
    rw [if_pos rfl, if_pos ⟨by omega, by omega, by omega⟩, Nat.add_sub_cancel_left, he]
  · rw [if_neg hq]
    by_cases h : a ≤ q ∧ q < a + 9 ∧ q ≠ a + 2
    · rw [if_pos h, if_pos h, ho (q - a) (by omega) (by omega)]
    · rw [if_neg h, if_neg h]
theorem fl_si {k i : Nat} {v : Int32} (hk : k < 9) (h3 : 3 ≤ k) (hi : i < fl_n k) : ah_si (fl a F M0) (a + k) (nI i) v = some (fl a (fl_A F k (upd (F.2.2 k) i v)) M0) := by
  have hn := fl_nn k
  unfold ah_si
  rw [fl_at hk (by omega), fl_ck h3]
  show (if ah_in (nI i) (fl_n k) = true then some (ah_up _ _ (ah_I (fl_n k) (upd (F.2.2 k) (nI i).toNatClampNeg v))) else none) = _
  rw [if_pos (pl_in hi hn), nI_clamp (by omega)]
  congr 1
  refine fl_up hk (by omega) ?_ ?_
  · rw [fl_ck h3]
    simp [fl_A]
  · intro j _ hj
    unfold fl_c fl_A
    simp only [if_neg hj]
theorem fl_pf {k : Nat} {v : Int32} (h : (fl_f a F.1).set k (.int v) = fl_f a (fl_V F k v).1) (hk : k < 10) : ah_pf (fl a F M0) a 2 k (.int v) = some (fl a (fl_V F k v) M0) := by
  unfold ah_pf
  rw [fl_ob, Option.bind_some, if_pos (show k < (fl_f a F.1).length from hk), h]
  congr 1
  refine fl_up (k := 0) (by decide) (by decide) ?_ ?_
  · rfl
  · intro j _ hj
    unfold fl_c fl_V
    simp only [if_neg hj]
theorem fl_p0 {v : Int32} : ah_pf (fl a F M0) a 2 0 (.int v) = some (fl a (fl_V F 0 v) M0) := fl_pf rfl (by decide)
theorem fl_p1 {v : Int32} : ah_pf (fl a F M0) a 2 1 (.int v) = some (fl a (fl_V F 1 v) M0) := fl_pf rfl (by decide)
theorem fl_p2 {v : Int32} : ah_pf (fl a F M0) a 2 2 (.int v) = some (fl a (fl_V F 2 v) M0) := fl_pf rfl (by decide)
theorem fl_at1 : fl a F M0 (a + 1) = some (ah_R 2 5 F.2.1) := fl_at (k := 1) (by decide) (by decide)
theorem fl_ar {i : Nat} (hi : i < 5) : ah_ar (fl a F M0) (a + 1) 2 (nI i) = F.2.1 i := by
  unfold ah_ar
  rw [fl_at1]
  show (if 2 = 2 ∧ ah_in (nI i) 5 = true then F.2.1 (nI i).toNatClampNeg else none) = _
  rw [if_pos ⟨rfl, pl_in hi (by decide)⟩, nI_clamp (by omega)]
theorem fl_sr {i v : Nat} (hi : i < 5) : ah_sr (fl a F M0) (a + 1) 2 (nI i) v = some (fl a (fl_C F (va_up F.2.1 i (some v))) M0) := by
  unfold ah_sr
  rw [fl_at1]
  show (if 2 = 2 ∧ ah_in (nI i) 5 = true then some (ah_up _ _ (ah_R 2 5 (va_up F.2.1 (nI i).toNatClampNeg (some v)))) else none) = _
  rw [if_pos ⟨rfl, pl_in hi (by decide)⟩, nI_clamp (by omega)]
  congr 1
  refine fl_up (k := 1) (by decide) (by decide) ?_ ?_
  · rfl
  · intro j _ hj
    unfold fl_c fl_C
    simp only [if_neg hj]
/-! what it reads -/
theorem fl_isShip {n : Nat} (h : F.1 0 = nI n) (x : Int32) : fX2_isShip (fl a F M0) a x = some (sp_is n x) := by
  unfold fX2_isShip sp_is
  rw [fl_ob, Option.bind_some, fl_i0, Option.bind_some, h]
  by_cases h0 : x < 0
  · rw [if_pos h0, if_pos h0]
  · rw [if_neg h0, if_neg h0]
    by_cases h1 : nI n ≤ x
    · rw [if_pos h1, if_pos h1]
    · rw [if_neg h1, if_neg h1]
theorem fl_isMan {m : Nat} (h : F.1 1 = nI m) (x : Int32) : fX2_isMan (fl a F M0) a x = some (sp_is m x) := by
  unfold fX2_isMan sp_is
  rw [fl_ob, Option.bind_some, fl_i1, Option.bind_some, h]
  by_cases h0 : x < 0
  · rw [if_pos h0, if_pos h0]
  · rw [if_neg h0, if_neg h0]
    by_cases h1 : nI m ≤ x
    · rw [if_pos h1, if_pos h1]
    · rw [if_neg h1, if_neg h1]
end FL
/-! captains -/
/-- the class of a kind -/
def cp_c : Nat → Nat
  | 1 => 4
  | 2 => 5
  | 3 => 6
  | 4 => 9
  | 5 => 0
  | 6 => 8
  | 7 => 3
  | _ => 1
/-- at c there is a captain of this kind and figure -/
def cp (M : ah_h) (c kd fg : Nat) : Prop := M c = some (ah_O (cp_c kd) [.int (nI kd), .int (nI fg)]) ∧ kd < 8 ∧ fg < 10
theorem cp_oc {M : ah_h} {c kd fg : Nat} (h : cp M c kd fg) : ah_oc M c = some (cp_c kd, [.int (nI kd), .int (nI fg)]) := by
  obtain ⟨h1, h2, -⟩ := h
  unfold ah_oc
  rw [h1]
  rcases (show kd = 0 ∨ kd = 1 ∨ kd = 2 ∨ kd = 3 ∨ kd = 4 ∨ kd = 5 ∨ kd = 6 ∨ kd = 7 by omega) with rfl | rfl | rfl | rfl | rfl | rfl | rfl | rfl <;> rfl
theorem cp_fg {M : ah_h} {c kd fg : Nat} (h : cp M c kd fg) : ah_gc M c 1 = some (nI fg) := by
  unfold ah_gc
  rw [cp_oc h]
  rfl
theorem cp_kd {M : ah_h} {c kd fg : Nat} (h : cp M c kd fg) : ah_gc M c 0 = some (nI kd) := by
  unfold ah_gc
  rw [cp_oc h]
  rfl
theorem cp_ob {M : ah_h} {c kd fg : Nat} (h : cp M c kd fg) : ah_ob M c (cp_c kd) = some [.int (nI kd), .int (nI fg)] := by
  unfold ah_ob
  rw [h.1]
  exact if_pos rfl
/-- has -/
theorem sp_has (M : ah_h) {w k : Nat} (hw : w < 2 ^ 31) (hk : k < 31) : fX10_has M (nI w) (nI k) = some (if w.testBit k = true then 1 else 0) := by
  unfold fX10_has
  simp only [pl_cb hw hk]
  cases w.testBit k <;> rfl
def sp_N (r : Nat) : Int32 := if r = 12 then -4 else nI r
def sp_nF (w l k : Nat) : Nat ⊕ Nat := if w.testBit k then (if l = 0 then .inr k else .inl (l - 1)) else .inl l
theorem sp_nth_eq (w p : Nat) : sp_nth w p = pl_fe (sp_nF w) (fun _ => 12) p 0 12 := rfl
theorem pl_12 {k : Nat} (h : 12 ≤ k) (hk : k < 2 ^ 31) : (12 : Int32) ≤ nI k := nI_le (a := 12) h hk
theorem pl_n12 {k : Nat} (h : k < 12) : ¬ (12 : Int32) ≤ nI k := nI_ge (b := 12) h (by decide)
theorem pl_5 {k : Nat} (h : 5 ≤ k) (hk : k < 2 ^ 31) : (5 : Int32) ≤ nI k := nI_le (a := 5) h hk
theorem pl_n5 {k : Nat} (h : k < 5) : ¬ (5 : Int32) ≤ nI k := nI_ge (b := 5) h (by decide)
theorem pl_fe_l {σ ρ : Type} {f : σ → Nat → σ ⊕ ρ} {fin : σ → ρ} {s s' : σ} {k c : Nat} (h : f s k = .inl s') : pl_fe f fin s k (c + 1) = pl_fe f fin s' (k + 1) c := by
  show (match f s k with | .inl s' => pl_fe f fin s' (k + 1) c | .inr r => r) = _
  rw [h]
theorem pl_fe_r {σ ρ : Type} {f : σ → Nat → σ ⊕ ρ} {fin : σ → ρ} {s : σ} {r : ρ} {k c : Nat} (h : f s k = .inr r) : pl_fe f fin s k (c + 1) = r := by
  show (match f s k with | .inl s' => pl_fe f fin s' (k + 1) c | .inr r => r) = _
  rw [h]
theorem cg_lot (M : ah_h) {w : Nat} (hw : w < 2 ^ 31) : ∀ (c k l n : Nat), k + c = 12 → l < 2 ^ 31 → c < n → fX4_gift_25 M n (nI w) (nI l) (nI k) = some (sp_N (pl_fe (sp_nF w) (fun _ => 12) l k c)) := by
  intro c
  induction c with
  | zero =>
    intro k l n hk hl hn
    cases n with
    | zero => omega
    | succ n =>
      show fX4_gift_25_b _ _ _ _ _ = _
      unfold fX4_gift_25_b
      rw [if_pos (pl_12 (by omega) (by omega))]
      rfl
  | succ c ih =>
    intro k l n hk hl hn
    cases n with
    | zero => omega
    | succ n =>
      show fX4_gift_25_b _ _ _ _ _ = _
      unfold fX4_gift_25_b fX4_gift_52
      rw [if_neg (pl_n12 (by omega)), sp_has M hw (by omega), Option.bind_some, nI_1]
      by_cases hb : w.testBit k = true
      · rw [if_pos hb, if_neg (by decide)]
        by_cases hl0 : l = 0
        · subst hl0
          rw [if_pos (show nI 0 = 0 from rfl), pl_fe_r (r := k) (by simp [sp_nF, hb])]
          unfold sp_N
          rw [if_neg (by omega)]
        · rw [if_neg (nI_ne0 (by omega) hl), pl_fe_l (s' := l - 1) (by simp [sp_nF, hb, hl0])]
          have : nI l + (-1) = nI (l - 1) := by
            obtain ⟨q, rfl⟩ : ∃ q, l = q + 1 := ⟨l - 1, by omega⟩
            exact pk_m1 q
          rw [this]
          exact ih (k + 1) (l - 1) n (by omega) (by omega) (by omega)
      · rw [if_neg hb, if_pos rfl, pl_fe_l (s' := l) (by simp [sp_nF, hb])]
        exact ih (k + 1) l n (by omega) hl (by omega)
theorem cg_first (M : ah_h) {w : Nat} (hw : w < 2 ^ 31) : ∀ (c k n : Nat), k + c = 12 → c < n → fX1_gift_2 M n (nI w) (nI k) = some (sp_N (pl_fe (sp_nF w) (fun _ => 12) 0 k c)) := by
  intro c
  induction c with
  | zero =>
    intro k n hk hn
    cases n with
    | zero => omega
    | succ n =>
      show fX1_gift_2_b _ _ _ _ = _
      unfold fX1_gift_2_b
      rw [if_pos (pl_12 (by omega) (by omega))]
      rfl
  | succ c ih =>
    intro k n hk hn
    cases n with
    | zero => omega
    | succ n =>
      show fX1_gift_2_b _ _ _ _ = _
      unfold fX1_gift_2_b
      rw [if_neg (pl_n12 (by omega)), sp_has M hw (by omega), Option.bind_some, nI_1]
      by_cases hb : w.testBit k = true
      · rw [if_pos hb, if_neg (by decide), pl_fe_r (r := k) (by simp [sp_nF, hb])]
        unfold sp_N
        rw [if_neg (by omega)]
      · rw [if_neg hb, if_pos rfl, pl_fe_l (s' := 0) (by simp [sp_nF, hb])]
        exact ih (k + 1) n (by omega) (by omega)
theorem cg_cap (M : ah_h) (c f : Nat) {w : Nat} (hw : w < 2 ^ 12) : fX1_gift M c f (nI w) = some (if w = 0 then -4 else nI (sp_nth w 0)) := by
  have h := cg_first M (Nat.lt_trans hw (by decide)) 12 0 ah_fu rfl (by decide)
  show fX1_gift_2 M ah_fu (nI w) 0 = _
  rw [show (0 : Int32) = nI 0 from rfl, h, ← sp_nth_eq]
  by_cases h0 : w = 0
  · subst h0; decide
  · rw [if_neg h0]
    have := (sp_at0 M hw (sp_pc_pos hw h0)).2.1
    unfold sp_N
    rw [if_neg (by omega)]
