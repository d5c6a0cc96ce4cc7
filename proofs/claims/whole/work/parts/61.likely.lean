/-! PURE LEVEL, 22: likely -/
theorem ah_up_up (M : ah_h) (q : Nat) (e e' : ah_c) : ah_up (ah_up M q e) q e' = ah_up M q e' := by
  funext r
  unfold ah_up
  by_cases h : r = q
  · rw [if_pos h, if_pos h]
  · rw [if_neg h, if_neg h, if_neg h]
theorem ah_up_at {M : ah_h} {q : Nat} {e : ah_c} (h : M q = some e) : ah_up M q e = M := by
  funext r
  unfold ah_up
  by_cases c : r = q
  · rw [if_pos c, c, h]
  · rw [if_neg c]
/-! the greatest common divisor -/
theorem md_common (M : ah_h) : ∀ (k n A B : Nat), k ≤ 63 → 2 * k < n → A < 2 ^ 63 → B < 2 ^ k → fX11_common_r M n (lN A) (lN B) = some (lN (Nat.gcd A B)) := by
  have g1 : ∀ X Y, Nat.gcd Y (X % Y) = Nat.gcd X Y := fun X Y => by rw [Nat.gcd_comm Y, ← Nat.gcd_rec, Nat.gcd_comm]
  have z0 : (0 : Int64) = lN 0 := rfl
  have b0 : ∀ n A B, A < 2 ^ 63 → B < 2 ^ 63 → fX11_common_r M (n + 1) (lN A) (lN B) = if B = 0 then some (lN A) else fX11_common_r M n (lN B) (lN (A % B)) := fun n A B hA hB => by
    show fX11_common_s (fX11_common_r M n) M (lN A) (lN B) = _
    unfold fX11_common_s
    by_cases c : B = 0
    · subst c
      rw [if_pos ((lg_cmp_eq (lN 0) 0).mpr rfl), if_pos rfl]
    · have c' : ¬ lN B = 0 := by rw [z0, pk_lEQ hB (by decide)]; exact c
      rw [if_neg (fun h => c' ((lg_cmp_eq _ _).mp h)), if_neg c', if_neg c, pk_lRem hA (by omega) hB]
      cases fX11_common_r M n (lN B) (lN (A % B)) <;> rfl
  intro k
  induction k with
  | zero =>
    intro n A B _ hn hA hB
    obtain ⟨q, rfl⟩ : ∃ q, n = q + 1 := ⟨n - 1, by omega⟩
    have : B = 0 := by omega
    subst this
    rw [b0 q A 0 hA (by decide), if_pos rfl, Nat.gcd_zero_right]
  | succ k ih =>
    intro n A B hk hn hA hB
    obtain ⟨q, rfl⟩ : ∃ q, n = q + 1 + 1 := ⟨n - 2, by omega⟩
    have hB63 : B < 2 ^ 63 := Nat.lt_of_lt_of_le hB (Nat.pow_le_pow_right (by decide) hk)
    rw [b0 _ A B hA hB63]
    by_cases c : B = 0
    · rw [if_pos c, c, Nat.gcd_zero_right]
    rw [if_neg c]
    have hr : A % B < B := Nat.mod_lt _ (by omega)
    rw [b0 _ B (A % B) hB63 (by omega)]
    by_cases c2 : A % B = 0
    · rw [if_pos c2, ← g1 A B, c2, Nat.gcd_zero_right]
    rw [if_neg c2]
    have hr2 : B % (A % B) < A % B := Nat.mod_lt _ (by omega)
    have hsum : A % B + B % (A % B) ≤ B := by
      have h1 := Nat.div_add_mod B (A % B)
      have h2 : 1 ≤ B / (A % B) := Nat.div_pos (Nat.le_of_lt hr) (by omega)
      have h3 : A % B * 1 ≤ A % B * (B / (A % B)) := Nat.mul_le_mul_left _ h2
      omega
    rw [ih q (A % B) (B % (A % B)) (by omega) (by omega) (by omega) (by rw [Nat.pow_succ] at hB; omega)]
    rw [g1 B (A % B), g1 A B]
theorem c_common (M : ah_h) : ∀ (k n A B s : Nat), k ≤ 63 → 2 * k < n → s + 2 * k + 1 ≤ 200 → A < 2 ^ 63 → B < 2 ^ k → fX10_commonDivisor_9 M n (lN A) (lN B) (nI s) = some (lN (Nat.gcd A B)) := by
  have g1 : ∀ X Y, Nat.gcd Y (X % Y) = Nat.gcd X Y := fun X Y => by rw [Nat.gcd_comm Y, ← Nat.gcd_rec, Nat.gcd_comm]
  have z0 : (0 : Int64) = lN 0 := rfl
  have b0 : ∀ n A B s, s < 200 → A < 2 ^ 63 → B < 2 ^ 63 → fX10_commonDivisor_9 M (n + 1) (lN A) (lN B) (nI s) = if B = 0 then some (lN A) else fX10_commonDivisor_9 M n (lN B) (lN (A % B)) (nI (s + 1)) := fun n A B s hs hA hB => by
    show fX10_commonDivisor_9_b (fX10_commonDivisor_9 M n) M (lN A) (lN B) (nI s) = _
    unfold fX10_commonDivisor_9_b
    rw [if_neg (pl_nle (x := 200) 200 rfl hs (by decide))]
    by_cases c : B = 0
    · subst c
      rw [if_pos ((lg_cmp_eq (lN 0) 0).mpr rfl), if_pos rfl]
    · have c' : ¬ lN B = 0 := by rw [z0, pk_lEQ hB (by decide)]; exact c
      rw [if_neg (fun h => c' ((lg_cmp_eq _ _).mp h)), if_neg c', if_neg c, pk_lRem hA (by omega) hB, nI_1]
  intro k
  induction k with
  | zero =>
    intro n A B s _ hn hs hA hB
    obtain ⟨q, rfl⟩ : ∃ q, n = q + 1 := ⟨n - 1, by omega⟩
    have : B = 0 := by omega
    subst this
    rw [b0 q A 0 s (by omega) hA (by decide), if_pos rfl, Nat.gcd_zero_right]
  | succ k ih =>
    intro n A B s hk hn hs hA hB
    obtain ⟨q, rfl⟩ : ∃ q, n = q + 1 + 1 := ⟨n - 2, by omega⟩
    have hB63 : B < 2 ^ 63 := Nat.lt_of_lt_of_le hB (Nat.pow_le_pow_right (by decide) hk)
    rw [b0 _ A B s (by omega) hA hB63]
    by_cases c : B = 0
    · rw [if_pos c, c, Nat.gcd_zero_right]
    rw [if_neg c]
    have hr : A % B < B := Nat.mod_lt _ (by omega)
    rw [b0 _ B (A % B) (s + 1) (by omega) hB63 (by omega)]
    by_cases c2 : A % B = 0
    · rw [if_pos c2, ← g1 A B, c2, Nat.gcd_zero_right]
    rw [if_neg c2]
    have hr2 : B % (A % B) < A % B := Nat.mod_lt _ (by omega)
    have hsum : A % B + B % (A % B) ≤ B := by
      have h1 := Nat.div_add_mod B (A % B)
      have h2 : 1 ≤ B / (A % B) := Nat.div_pos (Nat.le_of_lt hr) (by omega)
      have h3 : A % B * 1 ≤ A % B * (B / (A % B)) := Nat.mul_le_mul_left _ h2
      omega
    rw [ih q (A % B) (B % (A % B)) (s + 1 + 1) (by omega) (by omega) (by omega) (by omega) (by rw [Nat.pow_succ] at hB; omega)]
    rw [g1 B (A % B), g1 A B]
/-! chances -/
/-- longs that stand for numbers -/
def lj (f : Nat → Int64) (c : Nat → Nat) : Prop := ∀ i, i < 5 → f i = lN (c i)
/-- the chances behind a meeting -/
def sp_sc (c : Nat → Nat) (i j p q : Nat) : Nat → Nat := fun k => if k = j then c j * (q - 1) * p + c i * q else if k = i then c i * (p - 1) * q + c j * p else c k * (p * q)
def sp_sum (c : Nat → Nat) : Nat := c 0 + c 1 + c 2 + c 3 + c 4
theorem sp_sc_sum {c : Nat → Nat} {i j p q : Nat} (hi : i < 5) (hj : j < 5) (hij : i ≠ j) (hp : 0 < p) (hq : 0 < q) : sp_sum (sp_sc c i j p q) = sp_sum c * (p * q) := by
  have key : ∀ u v : Nat, (v * (q - 1) * p + u * q) + (u * (p - 1) * q + v * p) = (u + v) * (p * q) := fun u v => by
    obtain ⟨P, rfl⟩ : ∃ P, p = P + 1 := ⟨p - 1, by omega⟩
    obtain ⟨Q, rfl⟩ : ∃ Q, q = Q + 1 := ⟨q - 1, by omega⟩
    simp only [Nat.add_sub_cancel]
    simp only [Nat.mul_add, Nat.add_mul, Nat.mul_one, Nat.one_mul, Nat.mul_assoc, Nat.mul_comm, Nat.mul_left_comm]
    omega
  have kij := key (c i) (c j)
  clear key
  unfold sp_sum sp_sc
  generalize c j * (q - 1) * p + c i * q = X at kij ⊢
  generalize c i * (p - 1) * q + c j * p = Y at kij ⊢
  generalize p * q = W at kij ⊢
  rw [Nat.add_mul] at kij
  simp only [Nat.add_mul]
  rcases (show i = 0 ∨ i = 1 ∨ i = 2 ∨ i = 3 ∨ i = 4 by omega) with rfl | rfl | rfl | rfl | rfl <;> rcases (show j = 0 ∨ j = 1 ∨ j = 2 ∨ j = 3 ∨ j = 4 by omega) with rfl | rfl | rfl | rfl | rfl <;> first | exact absurd rfl hij | (simp; omega)
theorem sp_sum_le {c : Nat → Nat} {i : Nat} (hi : i < 5) : c i ≤ sp_sum c := by
  unfold sp_sum
  rcases (show i = 0 ∨ i = 1 ∨ i = 2 ∨ i = 3 ∨ i = 4 by omega) with rfl | rfl | rfl | rfl | rfl <;> omega
/-- one told meeting -/
def sp_lF (S : Nat → Int32) (n m : Nat) (A B : Nat → Int32) (s : (Nat → Nat) × Nat) (k : Nat) : (Nat → Nat) × Nat :=
  if sp_mm S n m (A k) (B k) = 0 then s else (sp_sc s.1 (A k).toNatClampNeg (B k).toNatClampNeg (sp_pc (sp_cw S (A k) m)) (sp_pc (sp_cw S (B k) m)), s.2 * (sp_pc (sp_cw S (A k) m) * sp_pc (sp_cw S (B k) m)))
/-- .. keeps the sum -/
theorem sp_lF_ok {S : Nat → Int32} {n m : Nat} (hS : rf_S S n m) {A B : Nat → Int32} {s : (Nat → Nat) × Nat} {k : Nat} (h : sp_sum s.1 = s.2 ∧ 0 < s.2 ∧ s.2 ≤ 144 ^ k) : sp_sum (sp_lF S n m A B s k).1 = (sp_lF S n m A B s k).2 ∧ 0 < (sp_lF S n m A B s k).2 ∧ (sp_lF S n m A B s k).2 ≤ 144 ^ (k + 1) := by
  obtain ⟨h1, h2, h3⟩ := h
  have hn := hS.1
  have hm := hS.2.1
  unfold sp_lF
  rcases sp_mm_cases hS (A k) (B k) with ⟨e, -⟩ | ⟨i, j, g1, g2, ex, ey, hi, hj, hij, hwi, hwj, -, -, -, -, -, -, em, -, -, -⟩
  · rw [if_pos e]
    exact ⟨h1, h2, Nat.le_trans h3 (Nat.pow_le_pow_right (by decide) (by omega))⟩
  · rw [if_neg (by rw [em]; decide), ex, ey, nI_clamp (by omega), nI_clamp (by omega)]
    have p1 := sp_pc_pos (sp_cw_12 hm) hwi
    have p2 := sp_pc_pos (sp_cw_12 hm) hwj
    have l1 := sp_pc_le (w := sp_cw S (nI i) m)
    have l2 := sp_pc_le (w := sp_cw S (nI j) m)
    refine ⟨?_, Nat.mul_pos h2 (Nat.mul_pos p1 p2), ?_⟩
    · rw [sp_sc_sum (by omega) (by omega) hij p1 p2, h1]
    · rw [Nat.pow_succ]
      exact Nat.mul_le_mul h3 (Nat.mul_le_mul l1 l2)
/-- the chances behind all meetings, and their denominator -/
def sp_lk8 (τ : md_T) (n m g d K : Nat) : (Nat → Nat) × Nat := pl_fd (sp_lF (τ.1 1) n m (fun k => τ.1 8 (100 * d + 2 * k)) (fun k => τ.1 8 (100 * d + 2 * k + 1))) (fun i => if nI i = τ.1 1 (13 + 5 * g) then 1 else 0, 1) 0 (min K 8)
theorem sp_lk8_ok {τ : md_T} {n m g d K : Nat} (hS : rf_S (τ.1 1) n m) (hg : g < m) : sp_sum (sp_lk8 τ n m g d K).1 = (sp_lk8 τ n m g d K).2 ∧ 0 < (sp_lk8 τ n m g d K).2 ∧ (sp_lk8 τ n m g d K).2 < 2 ^ 63 := by
  have hn := hS.1
  obtain ⟨i, hi, ei⟩ := hS.2.2.2.2.2 g hg
  have := pl_fd_inv (f := sp_lF (τ.1 1) n m (fun k => τ.1 8 (100 * d + 2 * k)) (fun k => τ.1 8 (100 * d + 2 * k + 1))) (fun k s => sp_sum s.1 = s.2 ∧ 0 < s.2 ∧ s.2 ≤ 144 ^ k) (s := (fun i => if nI i = τ.1 1 (13 + 5 * g) then 1 else 0, 1)) (k := 0) (c := min K 8) ⟨?_, Nat.one_pos, Nat.le_refl 1⟩ (fun s k _ _ h => sp_lF_ok hS h)
  · refine ⟨this.1, this.2.1, Nat.lt_of_le_of_lt this.2.2 ?_⟩
    exact Nat.lt_of_le_of_lt (Nat.pow_le_pow_right (by decide) (show 0 + min K 8 ≤ 8 by omega)) (by decide)
  · rw [ei]
    rcases (show i = 0 ∨ i = 1 ∨ i = 2 ∨ i = 3 ∨ i = 4 by omega) with rfl | rfl | rfl | rfl | rfl <;> rfl
section LIK
variable {b a : Nat} {M M0 : ah_h} {τ : md_T} {n m : Nat} {F1 : fl_T}
/-- the class's chances -/
def cj (b : Nat) (M : ah_h) (f : Nat → Int64) : ah_h := ah_up M (b + 52) (ah_J 5 f)
theorem cj_out {q : Nat} {f : Nat → Int64} (h : q ≠ b + 52) : cj b M f q = M q := if_neg h
theorem cj_aj {i : Nat} {f : Nat → Int64} (hi : i < 5) : ah_aj (cj b M f) (b + 52) (nI i) = some (f i) := by
  unfold ah_aj cj
  rw [ah_up_self]
  show (if ah_in (nI i) 5 = true then some (f (nI i).toNatClampNeg) else none) = _
  rw [if_pos (pl_in hi (by decide)), nI_clamp (by omega)]
theorem cj_sj {i : Nat} {f : Nat → Int64} {v : Int64} (hi : i < 5) : ah_sj (cj b M f) (b + 52) (nI i) v = some (cj b M (vp_updL f i v)) := by
  unfold ah_sj cj
  rw [ah_up_self]
  show (if ah_in (nI i) 5 = true then some (ah_up (ah_up M (b + 52) (ah_J 5 f)) (b + 52) (ah_J 5 (vp_updL f (nI i).toNatClampNeg v))) else none) = _
  rw [if_pos (pl_in hi (by decide)), nI_clamp (by omega), ah_up_up]
theorem cs_cj (h : cs b M τ n m F1) (f : Nat → Int64) : cs b (cj b M f) τ n m F1 := by
  refine cs_of h (fun q hq => cj_out (by omega)) ?_ (cj_out (by omega)) (fun i hi => ?_) ?_ ⟨f, ah_up_self _ _ _⟩
  · obtain ⟨F2, k⟩ := h.f2
    exact ⟨F2, fa_of k (fun q _ _ _ => cj_out (by omega))⟩
  · rw [cj_out (by omega)]; exact h.g1 i hi
  · rw [cj_out (by omega)]; exact h.wa
theorem fr_cj (f : Nat → Int64) : fr b M (cj b M f) := fun q h1 => cj_out (by omega)
theorem lN_m1 {p : Nat} (h : 0 < p) : lN p - 1 = lN (p - 1) := by
  rw [show (1 : Int64) = lN 1 from rfl, lN_sub h]
theorem c_spread (h : cs b M τ n m F1) {i j p q : Nat} (hi : i < n) (hj : j < n) (hij : i ≠ j) (hp : sp_pc (sp_cw (τ.1 1) (nI i) m) = p) (hq : sp_pc (sp_cw (τ.1 1) (nI j) m) = q) (hp0 : 0 < p) (hq0 : 0 < q) {f : Nat → Int64} {c : Nat → Nat} (hf : lj f c) : ∃ f', fX10_spreadChances (cj b M f) b (nI i) (nI j) = some (lN (p * q), cj b M f') ∧ lj f' (sp_sc c i j p q) := by
  have hn := h.r1.1.1
  have hm := h.r1.1.2.1
  have hp12 : p ≤ 12 := by rw [← hp]; exact sp_pc_le
  have hq12 : q ≤ 12 := by rw [← hq]; exact sp_pc_le
  have hc := cs_cj h f
  have h7 := h.r1.2.2.2.2.2.2
  unfold fX10_spreadChances
  rw [hc.o.ob, Option.bind_some, hc.o.r0, Option.bind_some, hc.f1.r4, Option.bind_some, hc.f1.ai (k := 3) (by decide) (by decide) (show i < fl_n 3 from (by show i < 5; omega)), Option.bind_some, h7 i (by omega), sp_bc _ (sp_cw_12 hm), Option.bind_some, Option.bind_some]
  rw [hc.f1.r4, Option.bind_some, hc.f1.ai (k := 3) (by decide) (by decide) (show j < fl_n 3 from (by show j < 5; omega)), Option.bind_some, h7 j (by omega), sp_bc _ (sp_cw_12 hm), Option.bind_some, hc.o.r7, Option.bind_some, cj_aj (by omega), Option.bind_some, Option.bind_some, cj_aj (by omega), Option.bind_some, hp, hq, nI_l (by omega), nI_l (by omega), lN_mul]
  have fi := hf i (by omega)
  have fj := hf j (by omega)
  rw [fi, fj]
  have key := pl_run (fun w f k => fX10_spreadChances_54 w (cj b M f) b (nI i) (nI j) (lN p) (lN q) (lN (p * q)) (lN (c i)) (lN (c j)) (nI k)) 5 (fun k f => ∀ r, r < 5 → f r = if r < k then lN (c r * (p * q)) else lN (c r)) (fun r => ∃ f', r = (lN (p * q), cj b M f') ∧ lj f' (sp_sc c i j p q)) (fun w f k hk hI => Or.inl ⟨vp_updL f k (f k * lN (p * q)), ?_, fun r hr => ?_⟩) (fun w f hI => ?_) ah_fu f 0 (by omega) (by decide) (fun r hr => by rw [if_neg (Nat.not_lt_zero _)]; exact hf r hr)
  · obtain ⟨r, e1, f', e2, e3⟩ := key
    rw [e2] at e1
    exact ⟨f', e1, e3⟩
  · have hc := cs_cj h f
    show fX10_spreadChances_54_b _ _ _ _ _ _ _ _ _ _ _ = _
    unfold fX10_spreadChances_54_b
    rw [if_neg (pl_n5 hk), hc.o.r7, Option.bind_some, cj_aj hk, Option.bind_some, cj_sj hk, Option.bind_some, nI_1]
  · by_cases e : r = k
    · subst e
      rw [pk_uLs, hI r hr, if_neg (Nat.lt_irrefl _), if_pos (by omega), lN_mul]
    · rw [pk_uLn e, hI r hr]
      by_cases l : r < k
      · rw [if_pos l, if_pos (by omega)]
      · rw [if_neg l, if_neg (by omega)]
  · have hc := cs_cj h f
    have hc2 := cs_cj h (vp_updL f i (lN (c i) * (lN p - 1) * lN q + lN (c j) * lN p))
    refine ⟨_, ?_, vp_updL (vp_updL f i (lN (c i) * (lN p - 1) * lN q + lN (c j) * lN p)) j (lN (c j) * (lN q - 1) * lN p + lN (c i) * lN q), rfl, fun r hr => ?_⟩
    · show fX10_spreadChances_54_b _ _ _ _ _ _ _ _ _ _ _ = _
      unfold fX10_spreadChances_54_b
      rw [if_pos (pl_5 (Nat.le_refl _) (by decide)), hc.o.r7, Option.bind_some, cj_sj (by omega), Option.bind_some, hc2.o.r7, Option.bind_some, cj_sj (by omega), Option.bind_some]
    · unfold sp_sc
      by_cases ej : r = j
      · subst ej
        rw [pk_uLs, if_pos rfl, lN_m1 hq0, lN_mul, lN_mul, lN_mul, lN_add]
      · rw [pk_uLn ej, if_neg ej]
        by_cases ei : r = i
        · subst ei
          rw [pk_uLs, if_pos rfl, lN_m1 hp0, lN_mul, lN_mul, lN_mul, lN_add]
        · rw [pk_uLn ei, if_neg ei, hI r hr, if_pos hr]
theorem c_fill (h : cs b M τ n m F1) {g d K : Nat} (hg : g < m) (ht : sp_td τ n d K) : ∃ f, fX10_fillChances M b (nI g) (b + 29 + 2 * d) = some (lN (sp_lk8 τ n m g d K).2, cj b M f) ∧ lj f (sp_lk8 τ n m g d K).1 := by
  have hn := h.r1.1.1
  have hm := h.r1.1.2.1
  have hK := ht.2.2.2.2.1
  have hS := h.r1.1
  unfold fX10_fillChances
  rw [h.o.ob, Option.bind_some]
  obtain ⟨f0, hf0⟩ := h.ch
  have e0 : M = cj b M f0 := (ah_up_at hf0).symm
  have loop2 : ∀ f, lj f (fun i => if nI i = τ.1 1 (13 + 5 * g) then 1 else 0) → ∃ r, fX10_fillChances_42 ah_fu (cj b M f) b (b + 29 + 2 * d) 1 0 = some r ∧ ∃ f', r = (lN (sp_lk8 τ n m g d K).2, cj b M f') ∧ lj f' (sp_lk8 τ n m g d K).1 := fun f hf => by
    refine pl_run (fun w (s : (Nat → Int64) × Int64) k => fX10_fillChances_42 w (cj b M s.1) b (b + 29 + 2 * d) s.2 (nI k)) (min K 8) (fun k s => lj s.1 (pl_fd (sp_lF (τ.1 1) n m (fun k => τ.1 8 (100 * d + 2 * k)) (fun k => τ.1 8 (100 * d + 2 * k + 1))) (fun i => if nI i = τ.1 1 (13 + 5 * g) then 1 else 0, 1) 0 k).1 ∧ s.2 = lN (pl_fd (sp_lF (τ.1 1) n m (fun k => τ.1 8 (100 * d + 2 * k)) (fun k => τ.1 8 (100 * d + 2 * k + 1))) (fun i => if nI i = τ.1 1 (13 + 5 * g) then 1 else 0, 1) 0 k).2) _ (fun w s k hk hI => Or.inl ?_) (fun w s hI => ?_) ah_fu (f, 1) 0 (by omega) (by unfold ah_fu; omega) ⟨hf, rfl⟩
    · obtain ⟨f, y⟩ := s
      obtain ⟨hl, hy⟩ := hI
      dsimp only at hl hy
      rw [pl_fd_snoc, Nat.zero_add]
      generalize pl_fd (sp_lF (τ.1 1) n m (fun k => τ.1 8 (100 * d + 2 * k)) (fun k => τ.1 8 (100 * d + 2 * k + 1))) (fun i => if nI i = τ.1 1 (13 + 5 * g) then 1 else 0, 1) 0 k = s at hl hy
      have hc := cs_cj h f
      have hkK : k < K := by omega
      unfold sp_lF
      rcases sp_mm_cases hS (τ.1 8 (100 * d + 2 * k)) (τ.1 8 (100 * d + 2 * k + 1)) with ⟨e, -⟩ | ⟨i, j, g1, g2, ex, ey, hi, hj, hij, hwi, hwj, -, -, -, -, -, -, em, -, -, -⟩
      · refine ⟨(f, y), ?_, by rw [if_pos e]; exact ⟨hl, hy⟩⟩
        show fX10_fillChances_42_b _ _ _ _ _ _ = _
        unfold fX10_fillChances_42_b fX10_fillChances_99
        rw [cs_meetings hc ht, Option.bind_some, if_neg (nI_ge hkK (by omega)), if_neg (pl_nle (x := 8) 8 rfl (by omega) (by decide)), hc.o.r0, Option.bind_some, (cs_told hc ht hkK).1, Option.bind_some, (cs_told hc ht hkK).2, Option.bind_some, cs_can hc, Option.bind_some, if_pos e, nI_1]
      · have p1 := sp_pc_pos (sp_cw_12 hm) hwi
        have p2 := sp_pc_pos (sp_cw_12 hm) hwj
        obtain ⟨f', e1, e2⟩ := c_spread h hi hj hij rfl rfl p1 p2 hl
        have em' : ¬ sp_mm (τ.1 1) n m (τ.1 8 (100 * d + 2 * k)) (τ.1 8 (100 * d + 2 * k + 1)) = 0 := by rw [em]; decide
        refine ⟨(f', y * lN (sp_pc (sp_cw (τ.1 1) (nI i) m) * sp_pc (sp_cw (τ.1 1) (nI j) m))), ?_, ?_⟩
        · show fX10_fillChances_42_b _ _ _ _ _ _ = _
          unfold fX10_fillChances_42_b fX10_fillChances_99
          rw [cs_meetings hc ht, Option.bind_some, if_neg (nI_ge hkK (by omega)), if_neg (pl_nle (x := 8) 8 rfl (by omega) (by decide)), hc.o.r0, Option.bind_some, (cs_told hc ht hkK).1, Option.bind_some, (cs_told hc ht hkK).2, Option.bind_some, cs_can hc, Option.bind_some, if_neg em', Option.bind_some, Option.bind_some, ex, ey, e1, Option.bind_some, nI_1]
        · rw [if_neg em']
          dsimp only
          rw [ex, ey, nI_clamp (by omega), nI_clamp (by omega)]
          exact ⟨e2, by rw [hy, lN_mul]⟩
    · obtain ⟨f, y⟩ := s
      obtain ⟨hl, hy⟩ := hI
      have hc := cs_cj h f
      refine ⟨_, ?_, f, rfl, hl⟩
      show fX10_fillChances_42_b _ _ _ _ _ _ = _
      unfold fX10_fillChances_42_b
      dsimp only at hy
      rw [cs_meetings hc ht, Option.bind_some, hy]
      by_cases c8 : K ≤ 8
      · rw [if_pos (nI_le (show K ≤ min K 8 by omega) (by omega))]
        rfl
      · rw [if_neg (nI_ge (show min K 8 < K by omega) (by omega)), if_pos (pl_le (x := 8) 8 rfl (show 8 ≤ min K 8 by omega) (by omega))]
        rfl
  have key := pl_run (fun w f k => fX10_fillChances_2 w (cj b M f) b (nI g) (b + 29 + 2 * d) (nI k)) 5 (fun k f => ∀ r, r < k → f r = lN (if nI r = τ.1 1 (13 + 5 * g) then 1 else 0)) (fun r => ∃ f', r = (lN (sp_lk8 τ n m g d K).2, cj b M f') ∧ lj f' (sp_lk8 τ n m g d K).1) (fun w f k hk hI => Or.inl ⟨vp_updL f k (lN (if nI k = τ.1 1 (13 + 5 * g) then 1 else 0)), ?_, fun r hr => ?_⟩) (fun w f hI => ?_) ah_fu f0 0 (by omega) (by decide) (fun r hr => absurd hr (Nat.not_lt_zero _))
  · obtain ⟨r, e1, f', e2, e3⟩ := key
    rw [e2, ← e0] at e1
    exact ⟨f', e1, e3⟩
  · have hc := cs_cj h f
    show fX10_fillChances_2_b _ _ _ _ _ _ = _
    unfold fX10_fillChances_2_b fX10_fillChances_30
    rw [if_neg (pl_n5 hk), hc.o.r7, Option.bind_some, hc.o.r0, Option.bind_some, (fa_ab hc.f1 hc.r1 hg).1, Option.bind_some, (fa_ab hc.f1 hc.r1 hg).2, Option.bind_some, cj_sj hk, Option.bind_some, cj_sj hk, Option.bind_some, nI_1]
    by_cases e : nI k = τ.1 1 (13 + 5 * g)
    · rw [if_pos e, if_pos e]; rfl
    · rw [if_neg e, if_neg e]; rfl
  · by_cases e : r = k
    · subst e; rw [pk_uLs]
    · rw [pk_uLn e]; exact hI r (by omega)
  · obtain ⟨r, e1, e2⟩ := loop2 f (fun i hi => hI i hi)
    refine ⟨r, ?_, e2⟩
    show fX10_fillChances_2_b _ _ _ _ _ _ = _
    unfold fX10_fillChances_2_b
    rw [if_pos (pl_5 (Nat.le_refl _) (by decide))]
    exact e1
theorem sp_wr_vals (τ : md_T) (x o : Int32) : sp_wr τ x o = 0 ∨ sp_wr τ x o = -1 ∨ sp_wr τ x o = -11 ∨ sp_wr τ x o = -12 := by
  unfold sp_wr
  split
  · exact Or.inr (Or.inl rfl)
  split
  · exact Or.inr (Or.inr (Or.inl rfl))
  split
  · split
    · exact Or.inl rfl
    split
    · exact Or.inl rfl
    · exact Or.inr (Or.inr (Or.inr rfl))
  · exact Or.inr (Or.inr (Or.inr rfl))
theorem sp_mw_vals (τ : md_T) (n m : Nat) (x y : Int32) : sp_mw τ n m x y = 0 ∨ sp_mw τ n m x y = -1 ∨ sp_mw τ n m x y = -11 ∨ sp_mw τ n m x y = -12 ∨ sp_mw τ n m x y = -13 := by
  unfold sp_mw
  split
  · exact Or.inr (Or.inl rfl)
  unfold sp_wm
  by_cases c : sp_wr τ y 0 = 0
  · rw [if_pos c]
    split
    · exact Or.inl rfl
    · exact Or.inr (Or.inr (Or.inr (Or.inr rfl)))
  · rw [if_neg c]
    rcases sp_wr_vals τ y 0 with e | e | e | e
    · exact Or.inl e
    · exact Or.inr (Or.inl e)
    · exact Or.inr (Or.inr (Or.inl e))
    · exact Or.inr (Or.inr (Or.inr (Or.inl e)))
def sp_likeV (s : (Nat → Nat) × Nat) (i : Nat) (w : Int32) : Int64 := if w = 0 then lN (s.1 i / Nat.gcd s.2 (s.1 i)) else lN (s.2 / Nat.gcd s.2 (s.1 i))
def sp_likely (τ : md_T) (n m : Nat) (x y z w : Int32) : Int64 := if sp_is n y = 0 then -1000000001 else if w < 0 then -1000000001 else if w ≤ 1 then (if sp_mw τ n m x z = 0 then sp_likeV (sp_lk8 τ n m x.toNatClampNeg z.toNatClampNeg ((τ.1 7 z.toNatClampNeg).toNatClampNeg / 2)) y.toNatClampNeg w else (sp_mw τ n m x z).toInt64 - 1000000000) else -1000000001
theorem c_likely (h : cs b M τ n m F1) (x y z w : Int32) : ∃ M', fX10_likely M b x y z w = some (sp_likely τ n m x y z w, M') ∧ cs b M' τ n m F1 ∧ fr b M M' := by
  have hn := h.r1.1.1
  have hm := h.r1.1.2.1
  have hS := h.r1.1
  unfold fX10_likely sp_likely
  rw [h.o.ob, Option.bind_some, h.o.r0, Option.bind_some, fa_isShip h.f1 h.r1.2.1, Option.bind_some, cs_mw h, Option.bind_some]
  rcases sp_is_cases (n := n) (by omega) y with hy | ⟨i, hi, rfl, hy⟩
  · rw [if_pos hy, if_pos hy]; exact ⟨M, rfl, h, fr.rfl'⟩
  have hy' : ¬ sp_is n (nI i) = 0 := by rw [hy]; decide
  rw [if_neg hy', if_neg hy']
  by_cases c1 : w < 0
  · rw [if_pos c1, if_pos c1]; exact ⟨M, rfl, h, fr.rfl'⟩
  rw [if_neg c1, if_neg c1]
  by_cases c2 : ¬ w ≤ 1
  · rw [if_neg c2, if_neg c2]; exact ⟨M, rfl, h, fr.rfl'⟩
  have c2 := Classical.not_not.mp c2
  rw [if_pos c2, if_pos c2]
  rcases sp_mw_cases (cs_ts h) hm n x z with ⟨-, h2, h3⟩ | ⟨h1, g, d, K, hg, rfl, rfl, ht⟩
  · rw [if_neg h3, if_neg h2]; exact ⟨M, rfl, h, fr.rfl'⟩
  have hd := ht.1
  obtain ⟨f, e1, e2⟩ := c_fill h hg ht
  have hc := cs_cj h f
  obtain ⟨k1, k2, k3⟩ := sp_lk8_ok (d := d) (K := K) hS hg
  have ci := sp_sum_le (c := (sp_lk8 τ n m g d K).1) (i := i) (by omega)
  rw [h1, if_pos (by decide), if_pos rfl, h.o.r4, Option.bind_some, h.o.sh hd, Option.bind_some, e1, Option.bind_some, (sp_K ht).1, (sp_K ht).2, nI_clamp (show g < 2 ^ 31 by omega), nI_clamp (show i < 2 ^ 31 by omega)]
  have fi := e2 i (by omega)
  generalize sp_lk8 τ n m g d K = s at *
  rw [k1] at ci
  dsimp only
  have hg1 : 0 < Nat.gcd s.2 (s.1 i) := Nat.gcd_pos_of_pos_left _ k2
  have hg2 : Nat.gcd s.2 (s.1 i) ≤ s.2 := Nat.gcd_le_left _ k2
  have ec := c_common (cj b M f) 63 ah_fu s.2 (s.1 i) 0 (by decide) (by decide) (by decide) k3 (by omega)
  have hz : ¬ lN (Nat.gcd s.2 (s.1 i)) = 0 := by rw [show (0 : Int64) = lN 0 from rfl, pk_lEQ (by omega) (by decide)]; omega
  have hl : ¬ lN (Nat.gcd s.2 (s.1 i)) < 1 := by rw [show (1 : Int64) = lN 1 from rfl, pk_lLT (by omega) (by decide)]; omega
  have hl' : 0 ≤ lg_cmp (lN (Nat.gcd s.2 (s.1 i))) 1 := Int32.not_lt.mp (fun hh => hl ((lg_cmp_lt _ _).mp hh))
  rw [hc.o.r7, Option.bind_some, cj_aj (by omega), Option.bind_some, fi]
  unfold fX10_commonDivisor
  rw [show (0 : Int32) = nI 0 from rfl, ec, Option.bind_some]
  rw [show nI 0 = (0 : Int32) from rfl, if_pos hl']
  unfold fX10_likely_87 sp_likeV
  rw [if_neg hz, if_neg hz, pk_lDiv (by omega) hg1 (by omega), pk_lDiv k3 hg1 (by omega)]
  refine ⟨cj b M f, ?_, hc, fr_cj f⟩
  split <;> rfl
/-! .. by the reference -/
theorem md_at12 : md a τ M0 (a + 12) = some (ah_J 5 τ.2.1) := md_at (k := 12) (by decide)
theorem md_aj {i : Nat} (hi : i < 5) : ah_aj (md a τ M0) (a + 12) (nI i) = some (τ.2.1 i) := by
  unfold ah_aj
  rw [md_at12]
  show (if ah_in (nI i) 5 = true then some (τ.2.1 (nI i).toNatClampNeg) else none) = _
  rw [if_pos (pl_in hi (by decide)), nI_clamp (by omega)]
theorem md_sj {i : Nat} {v : Int64} (hi : i < 5) : ah_sj (md a τ M0) (a + 12) (nI i) v = some (md a (md_J τ (vp_updL τ.2.1 i v)) M0) := by
  unfold ah_sj
  rw [md_at12]
  show (if ah_in (nI i) 5 = true then some (ah_up (md a τ M0) (a + 12) (ah_J 5 (vp_updL τ.2.1 (nI i).toNatClampNeg v))) else none) = _
  rw [if_pos (pl_in hi (by decide)), nI_clamp (by omega)]
  congr 1
  refine md_up (k := 12) (by decide) ?_ ?_
  · rfl
  · intro j _ hj
    unfold md_c md_J
    simp only [if_neg hj]
theorem md_JJ (τ : md_T) (f g : Nat → Int64) : md_J (md_J τ f) g = md_J τ g := rfl
theorem md_Jself (τ : md_T) : md_J τ τ.2.1 = τ := rfl
theorem md_J2 (τ : md_T) (f : Nat → Int64) : (md_J τ f).2.1 = f := rfl
theorem md_J1 (τ : md_T) (f : Nat → Int64) : (md_J τ f).1 = τ.1 := rfl
theorem te_J (τ : md_T) (f : Nat → Int64) : te τ (md_J τ f) := ⟨fun _ _ => rfl, fun _ _ => rfl, fun _ _ _ => rfl, rfl⟩
theorem sp_td_J {d K : Nat} (ht : sp_td τ n d K) (f : Nat → Int64) : sp_td (md_J τ f) n d K := ht
theorem md_spread {k94 : ah_h → Nat → Int32 → Int32 → Int32 → Int64 → Int32 → Option (Int64 × ah_h)} {i j p q : Nat} (hi : i < 5) (hj : j < 5) (hp : p ≤ 12) (hq : q ≤ 12) (hp0 : 0 < p) (hq0 : 0 < q) {f : Nat → Int64} {c : Nat → Nat} (hf : lj f c) (x2 x3 x4 x8 : Int32) (y : Int64) :
    ∃ f', fX11_likely_230 k94 ah_fu (md a (md_J τ f) M0) a x2 x3 x4 y x8 (nI i) (nI j) (nI p) (nI q) (lN (c i) * lN (p - 1) * lN q + lN (c j) * lN p) (lN (c j) * lN (q - 1) * lN p + lN (c i) * lN q) 0 = k94 (md a (md_J τ f') M0) a x2 x3 x4 (y * lN (p * q)) (x8 + 1) ∧ lj f' (sp_sc c i j p q) := by
  have key := pl_runK (fun w f k => fX11_likely_230 k94 w (md a (md_J τ f) M0) a x2 x3 x4 y x8 (nI i) (nI j) (nI p) (nI q) (lN (c i) * lN (p - 1) * lN q + lN (c j) * lN p) (lN (c j) * lN (q - 1) * lN p + lN (c i) * lN q) (nI k)) 5 (fun k f => ∀ r, r < 5 → f r = if r < k then lN (c r * (p * q)) else lN (c r)) (fun f => k94 (md a (md_J τ (vp_updL (vp_updL f i (lN (c i) * lN (p - 1) * lN q + lN (c j) * lN p)) j (lN (c j) * lN (q - 1) * lN p + lN (c i) * lN q))) M0) a x2 x3 x4 (y * lN (p * q)) (x8 + 1)) (fun w f k hk hI => ⟨vp_updL f k (f k * lN (p * q)), ?_, fun r hr => ?_⟩) (fun w f hI => ?_) ah_fu f 0 (by omega) (by decide) (fun r hr => by rw [if_neg (Nat.not_lt_zero _)]; exact hf r hr)
  · obtain ⟨f', e1, hI⟩ := key
    refine ⟨_, e1, fun r hr => ?_⟩
    unfold sp_sc
    by_cases ej : r = j
    · subst ej
      rw [pk_uLs, if_pos rfl, lN_mul, lN_mul, lN_mul, lN_add]
    · rw [pk_uLn ej, if_neg ej]
      by_cases ei : r = i
      · subst ei
        rw [pk_uLs, if_pos rfl, lN_mul, lN_mul, lN_mul, lN_add]
      · rw [pk_uLn ei, if_neg ei, hI r hr, if_pos hr]
  · show fX11_likely_230_b _ _ _ _ _ _ _ _ _ _ _ _ _ _ _ _ = _
    unfold fX11_likely_230_b
    rw [if_neg (pl_n5 hk), md_r19, Option.bind_some, md_aj hk, Option.bind_some, md_J2, nI_l (show p < 2 ^ 31 by omega), nI_l (show q < 2 ^ 31 by omega), lN_mul p q, md_sj hk, Option.bind_some, md_J2, md_JJ, nI_1]
  · by_cases e : r = k
    · subst e
      rw [pk_uLs, hI r hr, if_neg (Nat.lt_irrefl _), if_pos (by omega), lN_mul]
    · rw [pk_uLn e, hI r hr]
      by_cases l : r < k
      · rw [if_pos l, if_pos (by omega)]
      · rw [if_neg l, if_neg (by omega)]
  · show fX11_likely_230_b _ _ _ _ _ _ _ _ _ _ _ _ _ _ _ _ = _
    unfold fX11_likely_230_b fX11_likely_289
    rw [if_pos (pl_5 (Nat.le_refl _) (by decide)), md_r19, Option.bind_some, md_sj hi, Option.bind_some, md_J2, md_JJ, md_r19, Option.bind_some, md_sj hj, Option.bind_some, md_J2, md_JJ, nI_l (show p < 2 ^ 31 by omega), nI_l (show q < 2 ^ 31 by omega), lN_mul p q]
theorem m_likely (hS : rf_S (τ.1 1) n m) (hs : ts τ) (x y z w : Int32) : ∃ τ', fX11_likely (md a τ M0) a x y z w = some (sp_likely τ n m x y z w, md a τ' M0) ∧ te τ τ' := by
  have hn := hS.1
  have hm := hS.2.1
  have bad : ∀ v : Int32, v = -1 ∨ v = -11 ∨ v = -12 ∨ v = -13 → ((-1000000000) + v : Int32).toInt64 = v.toInt64 - 1000000000 := fun v hv => by
    rcases hv with rfl | rfl | rfl | rfl <;> decide
  have e0 : fX11_likely (md a τ M0) a x y z w = fX11_likely_36 (md a τ M0) a x y z w (if sp_is n y = 0 then -1 else if w < 0 then -1 else if w ≤ 1 then sp_mw τ n m x z else -1) := by
    unfold fX11_likely fX11_likely_35 sp_mw
    rw [md_ob, Option.bind_some, md_isMan hS.2.2.2.1 (by omega), Option.bind_some, md_isShip hS.2.2.1 (by omega), Option.bind_some, show (0 : Int64) = (0 : Int32).toInt64 from rfl, show (1 : Int64) = (1 : Int32).toInt64 from rfl, md_isIn, Option.bind_some, md_wrongMeetings hS hs, Option.bind_some]
    by_cases c0 : sp_is m x = 0
    · rw [if_pos c0, if_pos c0]
      split
      · rfl
      split
      · rfl
      split <;> rfl
    rw [if_neg c0, if_neg c0]
    by_cases c1 : sp_is n y = 0
    · rw [if_pos c1, if_pos c1]
    rw [if_neg c1, if_neg c1]
    by_cases c2 : w < 0
    · rw [if_pos c2, if_pos c2, if_pos rfl]
    rw [if_neg c2, if_neg c2]
    by_cases c3 : w ≤ 1
    · rw [if_pos c3, if_neg (Int32.not_lt.mpr c3), if_neg (by decide)]
    · rw [if_neg c3, if_pos (Int32.not_le.mp c3), if_pos rfl]
  rw [e0]
  unfold fX11_likely_36 sp_likely
  rcases sp_is_cases (n := n) (by omega) y with hy | ⟨i, hi, rfl, hy⟩
  · rw [if_pos hy, if_pos hy, if_neg (by decide)]; exact ⟨τ, rfl, te.rfl'⟩
  have hy' : ¬ sp_is n (nI i) = 0 := by rw [hy]; decide
  rw [if_neg hy', if_neg hy']
  by_cases c1 : w < 0
  · rw [if_pos c1, if_pos c1, if_neg (by decide)]; exact ⟨τ, rfl, te.rfl'⟩
  rw [if_neg c1, if_neg c1]
  by_cases c2 : ¬ w ≤ 1
  · rw [if_neg c2, if_neg c2, if_neg (by decide)]; exact ⟨τ, rfl, te.rfl'⟩
  have c2 := Classical.not_not.mp c2
  rw [if_pos c2, if_pos c2]
  rcases sp_mw_cases hs hm n x z with ⟨-, h2, h3⟩ | ⟨h1, g, d, K, hg, rfl, rfl, ht⟩
  · rw [if_neg h2, if_neg h2, bad _ ((sp_mw_vals τ n m x z).resolve_left h2)]; exact ⟨τ, rfl, te.rfl'⟩
  have hd := ht.1
  have hK := ht.2.2.2.2.1
  obtain ⟨k1, k2, k3⟩ := sp_lk8_ok (d := d) (K := K) hS hg
  have ci := sp_sum_le (c := (sp_lk8 τ n m g d K).1) (i := i) (by omega)
  rw [if_pos h1, if_pos h1, (sp_K ht).1, (sp_K ht).2, nI_clamp (show g < 2 ^ 31 by omega), nI_clamp (show i < 2 ^ 31 by omega)]
  have fin : ∀ f, lj f (sp_lk8 τ n m g d K).1 → fX11_likely_295 (md a (md_J τ f) M0) a (nI i) w (lN (sp_lk8 τ n m g d K).2) = some (sp_likeV (sp_lk8 τ n m g d K) i w, md a (md_J τ f) M0) := fun f e2 => by
    have fi := e2 i (by omega)
    generalize sp_lk8 τ n m g d K = s at *
    rw [k1] at ci
    have hg1 : 0 < Nat.gcd s.2 (s.1 i) := Nat.gcd_pos_of_pos_left _ k2
    have hg2 : Nat.gcd s.2 (s.1 i) ≤ s.2 := Nat.gcd_le_left _ k2
    have ec := md_common (md a (md_J τ f) M0) 63 200 s.2 (s.1 i) (by decide) (by decide) k3 (by omega)
    have hz : ¬ lN (Nat.gcd s.2 (s.1 i)) = 0 := by rw [show (0 : Int64) = lN 0 from rfl, pk_lEQ (by omega) (by decide)]; omega
    unfold fX11_likely_295 fX11_common sp_likeV
    rw [md_r19, Option.bind_some, md_aj (by omega), Option.bind_some, md_J2, fi, ec, Option.bind_some, Option.bind_some, md_aj (by omega), Option.bind_some, md_J2, fi, if_neg hz, if_neg hz, pk_lDiv (by omega) hg1 (by omega), pk_lDiv k3 hg1 (by omega)]
    split <;> rfl
  have loop2 : ∀ f, lj f (fun i => if nI i = τ.1 1 (13 + 5 * g) then 1 else 0) → ∃ r, fX11_likely_94 ah_fu (md a (md_J τ f) M0) a (nI i) (nI d) w 1 0 = some r ∧ ∃ f', r = (sp_likeV (sp_lk8 τ n m g d K) i w, md a (md_J τ f') M0) := fun f hf => by
    refine pl_run (fun u (s : (Nat → Int64) × Int64) k => fX11_likely_94 u (md a (md_J τ s.1) M0) a (nI i) (nI d) w s.2 (nI k)) (min K 8) (fun k s => lj s.1 (pl_fd (sp_lF (τ.1 1) n m (fun k => τ.1 8 (100 * d + 2 * k)) (fun k => τ.1 8 (100 * d + 2 * k + 1))) (fun i => if nI i = τ.1 1 (13 + 5 * g) then 1 else 0, 1) 0 k).1 ∧ s.2 = lN (pl_fd (sp_lF (τ.1 1) n m (fun k => τ.1 8 (100 * d + 2 * k)) (fun k => τ.1 8 (100 * d + 2 * k + 1))) (fun i => if nI i = τ.1 1 (13 + 5 * g) then 1 else 0, 1) 0 k).2) _ (fun u s k hk hI => Or.inl ?_) (fun u s hI => ?_) ah_fu (f, 1) 0 (by omega) (by unfold ah_fu; omega) ⟨hf, rfl⟩
    · obtain ⟨f, y⟩ := s
      obtain ⟨hl, hy⟩ := hI
      dsimp only at hl hy
      rw [pl_fd_snoc, Nat.zero_add]
      generalize pl_fd (sp_lF (τ.1 1) n m (fun k => τ.1 8 (100 * d + 2 * k)) (fun k => τ.1 8 (100 * d + 2 * k + 1))) (fun i => if nI i = τ.1 1 (13 + 5 * g) then 1 else 0, 1) 0 k = s at hl hy
      have hkK : k < K := by omega
      have hSJ : rf_S ((md_J τ f).1 1) n m := hS
      have htJ := sp_td_J ht f
      unfold sp_lF
      rcases sp_mm_cases hS (τ.1 8 (100 * d + 2 * k)) (τ.1 8 (100 * d + 2 * k + 1)) with ⟨e, -⟩ | ⟨i', j, g1, g2, ex, ey, hi', hj, hij, hwi, hwj, -, -, -, -, -, -, em, -, -, -⟩
      · refine ⟨(f, y), ?_, by rw [if_pos e]; exact ⟨hl, hy⟩⟩
        show fX11_likely_94_b _ _ _ _ _ _ _ _ = _
        unfold fX11_likely_94_b fX11_likely_289
        rw [md_meetings htJ, Option.bind_some, if_neg (nI_ge hkK (by omega)), if_neg (pl_nle (x := 8) 8 rfl (by omega) (by decide)), md_first htJ hkK, Option.bind_some, md_second htJ hkK, Option.bind_some, md_may hSJ, Option.bind_some, md_J1, if_pos e, nI_1]
      · have p1 := sp_pc_pos (sp_cw_12 hm) hwi
        have p2 := sp_pc_pos (sp_cw_12 hm) hwj
        have l1 := sp_pc_le (w := sp_cw (τ.1 1) (nI i') m)
        have l2 := sp_pc_le (w := sp_cw (τ.1 1) (nI j) m)
        have em' : ¬ sp_mm (τ.1 1) n m (τ.1 8 (100 * d + 2 * k)) (τ.1 8 (100 * d + 2 * k + 1)) = 0 := by rw [em]; decide
        obtain ⟨f', e1, e2⟩ := md_spread (a := a) (M0 := M0) (τ := τ) (k94 := fX11_likely_94 u) (i := i') (j := j) (by omega) (by omega) l1 l2 p1 p2 hl (nI i) (nI d) w (nI k) y
        refine ⟨(f', y * lN (sp_pc (sp_cw (τ.1 1) (nI i') m) * sp_pc (sp_cw (τ.1 1) (nI j) m))), ?_, ?_⟩
        · show fX11_likely_94_b _ _ _ _ _ _ _ _ = _
          unfold fX11_likely_94_b
          dsimp only
          have m1 : ∀ p : Nat, 0 < p → nI p - 1 = nI (p - 1) := fun p hp => by
            obtain ⟨P, rfl⟩ : ∃ P, p = P + 1 := ⟨p - 1, by omega⟩
            exact nI_pred P
          rw [md_meetings htJ, Option.bind_some, if_neg (nI_ge hkK (by omega)), if_neg (pl_nle (x := 8) 8 rfl (by omega) (by decide)), md_first htJ hkK, Option.bind_some, md_second htJ hkK, Option.bind_some, md_may hSJ, Option.bind_some, md_J1, if_neg em', ex, ey, md_aboard hSJ.2.2.2.1 hm, Option.bind_some, sp_bits _ (sp_cw_12 hm), Option.bind_some, md_aboard hSJ.2.2.2.1 hm, Option.bind_some, sp_bits _ (sp_cw_12 hm), Option.bind_some, md_r19, Option.bind_some, md_aj (by omega), Option.bind_some, Option.bind_some, md_aj (by omega), Option.bind_some, Option.bind_some, md_aj (by omega), Option.bind_some, Option.bind_some, md_aj (by omega), Option.bind_some]
          rw [md_J2, md_J1, hl i' (by omega), hl j (by omega), m1 _ p1, m1 _ p2, nI_l (by omega), nI_l (by omega), nI_l (by omega), nI_l (by omega)]
          rw [e1, nI_1]
        · rw [if_neg em']
          dsimp only
          rw [ex, ey, nI_clamp (by omega), nI_clamp (by omega)]
          exact ⟨e2, by rw [hy, lN_mul]⟩
    · obtain ⟨f, y⟩ := s
      obtain ⟨hl, hy⟩ := hI
      dsimp only at hy hl
      refine ⟨_, ?_, f, rfl⟩
      show fX11_likely_94_b _ _ _ _ _ _ _ _ = _
      unfold fX11_likely_94_b
      have e := fin f hl
      rw [md_meetings (sp_td_J ht f), Option.bind_some, hy]
      by_cases c8 : K ≤ 8
      · rw [if_pos (nI_le (show K ≤ min K 8 by omega) (by omega))]
        exact e
      · rw [if_neg (nI_ge (show min K 8 < K by omega) (by omega)), if_pos (pl_le (x := 8) 8 rfl (show 8 ≤ min K 8 by omega) (by omega))]
        exact e
  have key := pl_run (fun u f k => fX11_likely_53 u (md a (md_J τ f) M0) a (nI g) (nI i) (nI d) w (nI k)) 5 (fun k f => ∀ r, r < k → f r = lN (if nI r = τ.1 1 (13 + 5 * g) then 1 else 0)) (fun r => ∃ f', r = (sp_likeV (sp_lk8 τ n m g d K) i w, md a (md_J τ f') M0)) (fun u f k hk hI => Or.inl ⟨vp_updL f k (lN (if nI k = τ.1 1 (13 + 5 * g) then 1 else 0)), ?_, fun r hr => ?_⟩) (fun u f hI => ?_) ah_fu τ.2.1 0 (by omega) (by decide) (fun r hr => absurd hr (Nat.not_lt_zero _))
  · obtain ⟨r, e1, f', e2⟩ := key
    rw [e2] at e1
    exact ⟨md_J τ f', e1, te_J τ f'⟩
  · show fX11_likely_53_b _ _ _ _ _ _ _ _ = _
    unfold fX11_likely_53_b fX11_likely_81
    rw [if_neg (pl_n5 hk), md_r19, Option.bind_some, md_get0 (by omega), Option.bind_some, md_sj hk, Option.bind_some, md_sj hk, Option.bind_some, md_J1, md_J2, md_JJ, md_JJ, nI_1]
    by_cases e : nI k = τ.1 1 (13 + 5 * g)
    · rw [if_pos e, if_pos e]; rfl
    · rw [if_neg e, if_neg e]; rfl
  · by_cases e : r = k
    · subst e; rw [pk_uLs]
    · rw [pk_uLn e]; exact hI r (by omega)
  · obtain ⟨r, e1, e2⟩ := loop2 f (fun i hi => hI i hi)
    refine ⟨r, ?_, e2⟩
    show fX11_likely_53_b _ _ _ _ _ _ _ _ = _
    unfold fX11_likely_53_b
    rw [if_pos (pl_5 (Nat.le_refl _) (by decide))]
    exact e1
end LIK
