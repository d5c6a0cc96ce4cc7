/-! PURE LEVEL, 19: ship, man, sailed, never, mixed, lacks, count, pay -/
theorem pl_loopK {σ ρ : Type} (L : Nat → σ → Nat → Option ρ) (m : Nat) (f : σ → Nat → σ) (fin : σ → Option ρ) (hs : ∀ n s k, k < m → L (n + 1) s k = L n (f s k) (k + 1)) (he : ∀ n s, L (n + 1) s m = fin s) :
    ∀ (n : Nat) (s : σ) (k : Nat), k ≤ m → m - k < n → L n s k = fin (pl_fd f s k (m - k)) := by
  intro n
  induction n with
  | zero => intro s k _ h; omega
  | succ n ih =>
    intro s k hk hn
    by_cases hkm : k < m
    · rw [hs n s k hkm, ih (f s k) (k + 1) (by omega) (by omega)]
      rw [show m - k = (m - (k + 1)) + 1 by omega]
      rfl
    · have : k = m := by omega
      subst this
      rw [he n s, Nat.sub_self]
      rfl
/-- a bit of any number -/
theorem pl_any (x : Int32) {j : Nat} (hj : j < 12) : (x >>> (nI j &&& 31)) &&& 1 = if x &&& ((1 : Int32) <<< (nI j &&& 31)) = 0 then 0 else 1 := by
  have h1 : ((nI j &&& 31).toBitVec.smod 32).toNat = j := (by decide +kernel : ∀ j, j < 31 → ((nI j &&& 31).toBitVec.smod 32).toNat = j) j (by omega)
  have h2 := pk_shr x (nI j &&& 31) j h1
  have h3 : (x >>> (nI j &&& 31)) &&& 1 = nI ((x >>> (nI j &&& 31)).toBitVec.toNat % 2 ^ 1) := pk_and _ 1 rfl
  have h4 : ((x >>> (nI j &&& 31)).toBitVec.toNat % 2 : Int) = (x >>> (nI j &&& 31)).toInt % 2 := by
    have e : (x >>> (nI j &&& 31)).toInt = (x >>> (nI j &&& 31)).toBitVec.toInt := rfl
    rw [e, BitVec.toInt_eq_toNat_cond]
    split <;> omega
  have h5 : x.toInt = if 2 * x.toBitVec.toNat < 2 ^ 32 then (x.toBitVec.toNat : Int) else (x.toBitVec.toNat : Int) - (2 ^ 32 : Nat) := BitVec.toInt_eq_toNat_cond _
  have hN := x.toBitVec.isLt
  have h6 : (x >>> (nI j &&& 31)).toBitVec.toNat % 2 = x.toBitVec.toNat / 2 ^ j % 2 := by
    rw [h2, Int.shiftRight_eq_div_pow, h5] at h4
    rcases (show j = 0 ∨ j = 1 ∨ j = 2 ∨ j = 3 ∨ j = 4 ∨ j = 5 ∨ j = 6 ∨ j = 7 ∨ j = 8 ∨ j = 9 ∨ j = 10 ∨ j = 11 by omega) with rfl | rfl | rfl | rfl | rfl | rfl | rfl | rfl | rfl | rfl | rfl | rfl <;> (split at h4 <;> omega)
  have h7 : (x &&& ((1 : Int32) <<< (nI j &&& 31)) = 0) = (x.toBitVec.toNat / 2 ^ j % 2 = 0) := by
    rw [pl_sh (by omega)]
    have hx : x = nI x.toBitVec.toNat := by
      apply pl_inj
      rw [pl_bv, BitVec.ofNat_toNat, BitVec.setWidth_eq]
    have hb : (x.toBitVec.toNat &&& 2 ^ j) < 2 ^ 31 := Nat.lt_of_le_of_lt Nat.and_le_right (Nat.pow_lt_pow_right (by decide) (by omega))
    rw [show (x &&& nI (2 ^ j) = 0) = (nI x.toBitVec.toNat &&& nI (2 ^ j) = 0) by rw [← hx], pl_and, show (0 : Int32) = nI 0 from rfl, nI_eq hb (by decide)]
    apply propext
    constructor
    · intro h
      have := congrArg (fun n => Nat.testBit n j) h
      simp only [Nat.testBit_and, Nat.testBit_two_pow_self, Bool.and_true, Nat.zero_testBit] at this
      rw [Nat.testBit_eq_decide_div_mod_eq] at this
      have := of_decide_eq_false this
      omega
    · intro h
      apply Nat.eq_of_testBit_eq
      intro i
      rw [Nat.testBit_and, Nat.testBit_two_pow, Nat.zero_testBit]
      by_cases e : j = i
      · subst e
        rw [Nat.testBit_eq_decide_div_mod_eq, h]
        rfl
      · simp [e]
  rw [h3, show 2 ^ 1 = 2 from rfl, h6]
  simp only [h7]
  split
  · next h => rw [h]; rfl
  · next h => rw [show x.toBitVec.toNat / 2 ^ j % 2 = 1 by omega]; rfl
section READS
variable {b a : Nat} {M M0 : ah_h} {τ : md_T} {n m : Nat} {F1 : fl_T}
def sp_ship (S : Nat → Int32) (n m : Nat) (x y : Int32) : Int32 := if sp_is n x = 0 then -1 else if y = 0 then S (3 + 2 * x.toNatClampNeg) else if y = 1 then S (3 + 2 * x.toNatClampNeg + 1) else if y = 2 then nI (sp_pc (sp_cw S x m)) else if y = 3 then nI (sp_cw S x m) else if y = 4 then sp_I (sp_gv S m x.toNatClampNeg) else -1
theorem c_ship (h : cs b M τ n m F1) (x y : Int32) : fX10_ship M b x y = some (sp_ship (τ.1 1) n m x y) := by
  have hn := h.r1.1.1
  have hm := h.r1.1.2.1
  unfold fX10_ship sp_ship
  rw [h.o.ob, Option.bind_some, h.o.r0, Option.bind_some, fa_isShip h.f1 h.r1.2.1, Option.bind_some]
  rcases sp_is_cases (n := n) (by omega) x with hx | ⟨i, hi, rfl, hx⟩
  · rw [if_pos hx, if_pos hx]
  have hx' : ¬ sp_is n (nI i) = 0 := by rw [hx]; decide
  obtain ⟨c, kd, fg, e1, e2, e3, e4⟩ := h.r1.2.2.2.2.1 i (by omega)
  have gv := rf_giver h.r1 (a := b + 1) (Or.inl rfl) hi
  rw [h.f1] at gv
  rw [if_neg hx', if_neg hx', nI_clamp (show i < 2 ^ 31 by omega)]
  simp only [Option.bind_some, h.f1.r3, h.f1.r4, h.f1.ar (show i < 5 by omega), e1, cp_kd e3, cp_fg e3, h.f1.ai (k := 3) (by decide) (by decide) (show i < fl_n 3 from (by show i < 5; omega)), h.r1.2.2.2.2.2.2 i (by omega), sp_bc M (sp_cw_12 hm), gv, (e4 hi).1, (e4 hi).2]
  repeat (first | rfl | split)
theorem m_ship (hS : rf_S (τ.1 1) n m) (x y : Int32) : fX11_ship (md a τ M0) a x y = some (sp_ship (τ.1 1) n m x y) := by
  have hn := hS.1
  have hm := hS.2.1
  unfold fX11_ship sp_ship
  rw [md_ob, Option.bind_some, md_isShip hS.2.2.1 (by omega), Option.bind_some]
  rcases sp_is_cases (n := n) (by omega) x with hx | ⟨i, hi, rfl, hx⟩
  · rw [if_pos hx, if_pos hx]
  have hx' : ¬ sp_is n (nI i) = 0 := by rw [hx]; decide
  rw [if_neg hx', if_neg hx', nI_clamp (show i < 2 ^ 31 by omega)]
  simp only [md_kind (show i < 5 by omega), md_figure (show i < 5 by omega), md_aboard hS.2.2.2.1 hm, sp_bits _ (sp_cw_12 hm), rf_gives hS hi, Option.bind_some]
  repeat (first | rfl | split)
def sp_man (S : Nat → Int32) (m : Nat) (x y : Int32) : Int32 := if sp_is m x = 0 then -1 else if y = 0 then S (13 + 5 * x.toNatClampNeg) else if y = 1 then S (13 + 5 * x.toNatClampNeg + 1) else if y = 2 then S (13 + 5 * x.toNatClampNeg + 2) else if y = 3 then S (13 + 5 * x.toNatClampNeg + 3) else -1
theorem fa_m {N : ah_h} {F : fl_T} {S : Nat → Int32} {a : Nat} (hf : fa N a F) (hr : rf b M F S n m) {g : Nat} (hg : g < m) : ah_ai N (a + 4) (nI g) = some (S (13 + 5 * g)) ∧ ah_ai N (a + 5) (nI g) = some (S (13 + 5 * g + 1)) ∧ ah_ai N (a + 6) (nI g) = some (S (13 + 5 * g + 2)) ∧ ah_ai N (a + 7) (nI g) = some (S (13 + 5 * g + 3)) ∧ ah_ai N (a + 8) (nI g) = some (S (13 + 5 * g + 4)) := by
  have hm := hr.1.2.1
  obtain ⟨e1, e2, e3, e4, e5⟩ := hr.2.2.2.2.2.1 g (by omega)
  have hg' : g < 12 := by omega
  refine ⟨?_, ?_, ?_, ?_, ?_⟩
  · rw [hf.ai (k := 4) (by decide) (by decide) hg', e1]
  · rw [hf.ai (k := 5) (by decide) (by decide) hg', e2]
  · rw [hf.ai (k := 6) (by decide) (by decide) hg', e3]
  · rw [hf.ai (k := 7) (by decide) (by decide) hg', e4]
  · rw [hf.ai (k := 8) (by decide) (by decide) hg', e5]
theorem c_man (h : cs b M τ n m F1) (x y : Int32) : fX10_man M b x y = some (sp_man (τ.1 1) m x y) := by
  have hm := h.r1.1.2.1
  unfold fX10_man sp_man
  rw [h.o.ob, Option.bind_some, h.o.r0, Option.bind_some, fa_isMan h.f1 h.r1.2.2.1, Option.bind_some]
  rcases sp_is_cases (n := m) (by omega) x with hx | ⟨g, hg, rfl, hx⟩
  · rw [if_pos hx, if_pos hx]
  have hx' : ¬ sp_is m (nI g) = 0 := by rw [hx]; decide
  obtain ⟨e1, e2, e3, e4, e5⟩ := fa_m h.f1 h.r1 hg
  rw [if_neg hx', if_neg hx', nI_clamp (show g < 2 ^ 31 by omega)]
  simp only [Option.bind_some, h.f1.r5, h.f1.r6, h.f1.r7, h.f1.r8, e1, e2, e3, e4]
  repeat (first | rfl | split)
theorem m_man (hS : rf_S (τ.1 1) n m) (x y : Int32) : fX11_man (md a τ M0) a x y = some (sp_man (τ.1 1) m x y) := by
  have hm := hS.2.1
  unfold fX11_man sp_man
  rw [md_ob, Option.bind_some, md_isMan hS.2.2.2.1 (by omega), Option.bind_some]
  rcases sp_is_cases (n := m) (by omega) x with hx | ⟨g, hg, rfl, hx⟩
  · rw [if_pos hx, if_pos hx]
  have hx' : ¬ sp_is m (nI g) = 0 := by rw [hx]; decide
  rw [if_neg hx', if_neg hx', nI_clamp (show g < 2 ^ 31 by omega), show (0 : Int64) = (0 : Int32).toInt64 from rfl, show (3 : Int64) = (3 : Int32).toInt64 from rfl, md_isIn, Option.bind_some]
  have key : (y < 0 ∨ 3 < y) ∧ ¬ y = 0 ∧ ¬ y = 1 ∧ ¬ y = 2 ∧ ¬ y = 3 ∨ y = 0 ∨ y = 1 ∨ y = 2 ∨ y = 3 := by
    rcases pl_ix y (n := 4) (by decide) with c | c | ⟨j, hj, rfl⟩
    · exact Or.inl ⟨Or.inl c, fun e => by rw [e] at c; exact absurd c (by decide), fun e => by rw [e] at c; exact absurd c (by decide), fun e => by rw [e] at c; exact absurd c (by decide), fun e => by rw [e] at c; exact absurd c (by decide)⟩
    · refine Or.inl ⟨Or.inr ?_, fun e => by rw [e] at c; exact absurd c (by decide), fun e => by rw [e] at c; exact absurd c (by decide), fun e => by rw [e] at c; exact absurd c (by decide), fun e => by rw [e] at c; exact absurd c (by decide)⟩
      rw [Int32.le_iff_toInt_le] at c
      rw [Int32.lt_iff_toInt_lt]
      exact Int.lt_of_lt_of_le (by decide) c
    · right
      rcases (show j = 0 ∨ j = 1 ∨ j = 2 ∨ j = 3 by omega) with rfl | rfl | rfl | rfl
      · exact Or.inl rfl
      · exact Or.inr (Or.inl rfl)
      · exact Or.inr (Or.inr (Or.inl rfl))
      · exact Or.inr (Or.inr (Or.inr rfl))
  rcases key with ⟨c, c0, c1, c2, c3⟩ | rfl | rfl | rfl | rfl
  · rw [if_neg c0, if_neg c1, if_neg c2, if_neg c3]
    rcases c with c | c
    · rw [if_pos c, if_pos rfl]
    · by_cases c' : y < 0
      · rw [if_pos c', if_pos rfl]
      · rw [if_neg c', if_pos c, if_pos rfl]
  · rw [md_get0 (by omega)]; rfl
  · rw [md_get1 (by omega)]; rfl
  · rw [md_get2 (by omega)]; rfl
  · rw [md_get3 (by omega)]; rfl
def sp_sailed (S : Nat → Int32) (m : Nat) (x : Int32) : Int32 := if sp_is m x = 0 then -1 else S (13 + 5 * x.toNatClampNeg + 4)
theorem c_sailed (h : cs b M τ n m F1) (x : Int32) : fX10_sailed M b x = some (sp_sailed (τ.1 1) m x) := by
  have hm := h.r1.1.2.1
  unfold fX10_sailed sp_sailed
  rw [h.o.ob, Option.bind_some, h.o.r0, Option.bind_some, fa_isMan h.f1 h.r1.2.2.1, Option.bind_some]
  rcases sp_is_cases (n := m) (by omega) x with hx | ⟨g, hg, rfl, hx⟩
  · rw [if_pos hx, if_pos hx]
  have hx' : ¬ sp_is m (nI g) = 0 := by rw [hx]; decide
  obtain ⟨e1, e2, e3, e4, e5⟩ := fa_m h.f1 h.r1 hg
  rw [if_neg hx', if_neg hx', nI_clamp (show g < 2 ^ 31 by omega)]
  simp only [Option.bind_some, h.f1.r9, e5]
theorem m_sailed (hS : rf_S (τ.1 1) n m) (x : Int32) : fX11_sailed (md a τ M0) a x = some (sp_sailed (τ.1 1) m x) := by
  have hm := hS.2.1
  unfold fX11_sailed sp_sailed
  rw [md_ob, Option.bind_some, md_isMan hS.2.2.2.1 (by omega), Option.bind_some]
  rcases sp_is_cases (n := m) (by omega) x with hx | ⟨g, hg, rfl, hx⟩
  · rw [if_pos hx, if_pos hx]
  have hx' : ¬ sp_is m (nI g) = 0 := by rw [hx]; decide
  rw [if_neg hx', if_neg hx', nI_clamp (show g < 2 ^ 31 by omega), md_get4 (by omega), Option.bind_some]
/-! pairs -/
def sp_pairs (P : Nat → Nat → Int32 → Int32) (m : Nat) : Int32 := pl_fd (fun c i => pl_fd (fun c j => P i j c) c (i + 1) (m - (i + 1))) 0 0 m
def sp_nvP (S : Nat → Int32) (i j : Nat) (c : Int32) : Int32 := if S (13 + 5 * i + 4) &&& ((1 : Int32) <<< (nI j &&& 31)) = 0 then c + 1 else c
def sp_mxP (S : Nat → Int32) (i j : Nat) (c : Int32) : Int32 := if S (13 + 5 * i) = S (13 + 5 * j) then (if S (13 + 5 * i + 2) = S (13 + 5 * j + 2) then c else c + 1) else c
theorem c_never (h : cs b M τ n m F1) : fX10_never M b = some (sp_pairs (sp_nvP (τ.1 1)) m) := by
  have hm := h.r1.1.2.1
  have h1 := h.r1.2.2.1
  unfold fX10_never sp_pairs
  rw [h.o.ob, Option.bind_some]
  refine pl_loopK (fun w c i => fX10_never_4 M w b c (nI i)) m _ some (fun w c i hi => ?_) (fun w c => ?_) ah_fu 0 0 (by omega) (by unfold ah_fu; omega)
  · show fX10_never_4_b _ _ _ _ _ = _
    unfold fX10_never_4_b
    rw [h.o.r0, Option.bind_some, h.f1.i1, Option.bind_some, h1, if_neg (nI_ge hi (by omega)), nI_1]
    rw [pl_loopK (fun u c j => fX10_never_19 (fX10_never_4 M w) M u b c (nI i) (nI j)) m (fun c j => sp_nvP (τ.1 1) i j c) (fun c => fX10_never_4 M w b c (nI (i + 1))) (fun u c j hj => ?_) (fun u c => ?_) ah_fu c (i + 1) (by omega) (by unfold ah_fu; omega)]
    · obtain ⟨e1, e2, e3, e4, e5⟩ := fa_m h.f1 h.r1 hi
      show fX10_never_19_b _ _ _ _ _ _ _ = _
      unfold fX10_never_19_b fX10_never_49 sp_nvP
      rw [h.o.r0, Option.bind_some, h.f1.i1, Option.bind_some, h1, if_neg (nI_ge hj (by omega)), Option.bind_some, h.f1.r9, Option.bind_some, e5, Option.bind_some, nI_1]
      unfold fX10_has
      by_cases c : τ.1 1 (13 + 5 * i + 4) &&& ((1 : Int32) <<< (nI j &&& 31)) = 0
      · rw [if_pos c, if_pos c]; rfl
      · rw [if_neg c, if_neg c]; rfl
    · show fX10_never_19_b _ _ _ _ _ _ _ = _
      unfold fX10_never_19_b
      rw [h.o.r0, Option.bind_some, h.f1.i1, Option.bind_some, h1, if_pos (nI_le (Nat.le_refl _) (by omega)), nI_1]
  · show fX10_never_4_b _ _ _ _ _ = _
    unfold fX10_never_4_b
    rw [h.o.r0, Option.bind_some, h.f1.i1, Option.bind_some, h1, if_pos (nI_le (Nat.le_refl _) (by omega))]
theorem m_never (hS : rf_S (τ.1 1) n m) : fX11_never (md a τ M0) a = some (sp_pairs (sp_nvP (τ.1 1)) m) := by
  have hm := hS.2.1
  have h1 := hS.2.2.2.1
  unfold fX11_never sp_pairs
  rw [md_ob, Option.bind_some]
  refine pl_loopK (fun w c i => fX11_never_4 (md a τ M0) w a c (nI i)) m _ some (fun w c i hi => ?_) (fun w c => ?_) ah_fu 0 0 (by omega) (by unfold ah_fu; omega)
  · show fX11_never_4_b _ _ _ _ _ = _
    unfold fX11_never_4_b
    rw [md_r0, Option.bind_some, md_s1, Option.bind_some, h1, if_neg (nI_ge hi (by omega)), nI_1]
    rw [pl_loopK (fun u c j => fX11_never_18 (fX11_never_4 (md a τ M0) w) (md a τ M0) u a c (nI i) (nI j)) m (fun c j => sp_nvP (τ.1 1) i j c) (fun c => fX11_never_4 (md a τ M0) w a c (nI (i + 1))) (fun u c j hj => ?_) (fun u c => ?_) ah_fu c (i + 1) (by omega) (by unfold ah_fu; omega)]
    · show fX11_never_18_b _ _ _ _ _ _ _ = _
      unfold fX11_never_18_b sp_nvP
      rw [md_r0, Option.bind_some, md_s1, Option.bind_some, h1, if_neg (nI_ge hj (by omega)), md_get4 (by omega), Option.bind_some, pl_any _ (by omega), nI_1]
      by_cases c' : τ.1 1 (13 + 5 * i + 4) &&& ((1 : Int32) <<< (nI j &&& 31)) = 0
      · rw [if_pos c', if_pos c']; rfl
      · rw [if_neg c', if_neg c', show (1 - 1 : Int32) = 0 from rfl, Int32.add_zero]
    · show fX11_never_18_b _ _ _ _ _ _ _ = _
      unfold fX11_never_18_b
      rw [md_r0, Option.bind_some, md_s1, Option.bind_some, h1, if_pos (nI_le (Nat.le_refl _) (by omega)), nI_1]
  · show fX11_never_4_b _ _ _ _ _ = _
    unfold fX11_never_4_b
    rw [md_r0, Option.bind_some, md_s1, Option.bind_some, h1, if_pos (nI_le (Nat.le_refl _) (by omega))]
theorem fa_mixed {N : ah_h} {F : fl_T} {S : Nat → Int32} {a : Nat} (hf : fa N a F) (hr : rf b M F S n m) : fX2_mixedPairs N a = some (sp_pairs (sp_mxP S) m) := by
  have hm := hr.1.2.1
  have h1 := hr.2.2.1
  unfold fX2_mixedPairs sp_pairs
  rw [fa_ob hf, Option.bind_some]
  refine pl_loopK (fun w c i => fX2_mixedPairs_4 N w a c (nI i)) m _ some (fun w c i hi => ?_) (fun w c => ?_) ah_fu 0 0 (by omega) (by unfold ah_fu; omega)
  · show fX2_mixedPairs_4_b _ _ _ _ _ = _
    unfold fX2_mixedPairs_4_b
    rw [hf.i1, Option.bind_some, h1, if_neg (nI_ge hi (by omega)), nI_1]
    rw [pl_loopK (fun u c j => fX2_mixedPairs_16 (fX2_mixedPairs_4 N w) N u a c (nI i) (nI j)) m (fun c j => sp_mxP S i j c) (fun c => fX2_mixedPairs_4 N w a c (nI (i + 1))) (fun u c j hj => ?_) (fun u c => ?_) ah_fu c (i + 1) (by omega) (by unfold ah_fu; omega)]
    · obtain ⟨e1, e2, e3, e4, e5⟩ := fa_m hf hr hi
      obtain ⟨f1, f2, f3, f4, f5⟩ := fa_m hf hr hj
      show fX2_mixedPairs_16_b _ _ _ _ _ _ _ = _
      unfold fX2_mixedPairs_16_b fX2_mixedPairs_57 sp_mxP
      rw [hf.i1, Option.bind_some, h1, if_neg (nI_ge hj (by omega)), nI_1]
      simp only [hf.r5, hf.r7, Option.bind_some, e1, e3, f1, f3]
      split
      · split <;> rfl
      · rfl
    · show fX2_mixedPairs_16_b _ _ _ _ _ _ _ = _
      unfold fX2_mixedPairs_16_b
      rw [hf.i1, Option.bind_some, h1, if_pos (nI_le (Nat.le_refl _) (by omega)), nI_1]
  · show fX2_mixedPairs_4_b _ _ _ _ _ = _
    unfold fX2_mixedPairs_4_b
    rw [hf.i1, Option.bind_some, h1, if_pos (nI_le (Nat.le_refl _) (by omega))]
theorem md_mixed (hS : rf_S (τ.1 1) n m) : fX11_mixedNow (md a τ M0) a = some (sp_pairs (sp_mxP (τ.1 1)) m) := by
  have hm := hS.2.1
  have h1 := hS.2.2.2.1
  unfold fX11_mixedNow sp_pairs
  rw [md_ob, Option.bind_some]
  refine pl_loopK (fun w c i => fX11_mixedNow_4 (md a τ M0) w a c (nI i)) m _ some (fun w c i hi => ?_) (fun w c => ?_) ah_fu 0 0 (by omega) (by unfold ah_fu; omega)
  · show fX11_mixedNow_4_b _ _ _ _ _ = _
    unfold fX11_mixedNow_4_b
    rw [md_r0, Option.bind_some, md_s1, Option.bind_some, h1, if_neg (nI_ge hi (by omega)), nI_1]
    rw [pl_loopK (fun u c j => fX11_mixedNow_18 (fX11_mixedNow_4 (md a τ M0) w) (md a τ M0) u a c (nI i) (nI j)) m (fun c j => sp_mxP (τ.1 1) i j c) (fun c => fX11_mixedNow_4 (md a τ M0) w a c (nI (i + 1))) (fun u c j hj => ?_) (fun u c => ?_) ah_fu c (i + 1) (by omega) (by unfold ah_fu; omega)]
    · show fX11_mixedNow_18_b _ _ _ _ _ _ _ = _
      unfold fX11_mixedNow_18_b fX11_mixedNow_63 fX11_mixedNow_64 sp_mxP
      rw [md_r0, Option.bind_some, md_s1, Option.bind_some, h1, if_neg (nI_ge hj (by omega)), md_get0 (by omega), Option.bind_some, md_get0 (by omega), Option.bind_some, md_get2 (by omega), Option.bind_some, md_get2 (by omega), Option.bind_some, nI_1, show c + 0 = c from Int32.add_zero c]
      split
      · split <;> rfl
      · rfl
    · show fX11_mixedNow_18_b _ _ _ _ _ _ _ = _
      unfold fX11_mixedNow_18_b
      rw [md_r0, Option.bind_some, md_s1, Option.bind_some, h1, if_pos (nI_le (Nat.le_refl _) (by omega)), nI_1]
  · show fX11_mixedNow_4_b _ _ _ _ _ = _
    unfold fX11_mixedNow_4_b
    rw [md_r0, Option.bind_some, md_s1, Option.bind_some, h1, if_pos (nI_le (Nat.le_refl _) (by omega))]
theorem c_mixed (h : cs b M τ n m F1) : fX10_mixed M b = some (sp_pairs (sp_mxP (τ.1 1)) m) := by
  unfold fX10_mixed
  rw [h.o.ob, Option.bind_some, h.o.r0, Option.bind_some, fa_mixed h.f1 h.r1, Option.bind_some]
theorem m_mixed (hS : rf_S (τ.1 1) n m) : fX11_mixed (md a τ M0) a = some (sp_pairs (sp_mxP (τ.1 1)) m) := by
  unfold fX11_mixed
  rw [md_ob, Option.bind_some, md_mixed hS, Option.bind_some]
end READS
