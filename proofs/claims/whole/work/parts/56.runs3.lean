/-! PURE LEVEL, 17: can, soonest, seeded, judge -/
section RUNS3
variable {b a : Nat} {M M0 : ah_h} {τ : md_T} {n m : Nat} {F1 : fl_T}
theorem sp_K' {d K : Nat} (ht : sp_td τ n d K) : (τ.1 7 d).toNatClampNeg / 2 = K := by
  have h := (sp_K ht).1
  rw [(sp_K ht).2] at h
  exact h
/-- where one may be behind a meeting -/
def sp_mb (S : Nat → Int32) (n m w : Nat) (x y : Int32) : Nat := if sp_mm S n m x y = 0 then w else
  let i := x.toNatClampNeg
  let j := y.toNatClampNeg
  let t := pl_clr (pl_clr w i) j
  let t1 := if w.testBit i then t ||| (2 ^ j ||| (if sp_pc (sp_cw S x m) = 1 then 0 else 2 ^ i)) else t
  if w.testBit j then t1 ||| (2 ^ i ||| (if sp_pc (sp_cw S y m) = 1 then 0 else 2 ^ j)) else t1
theorem sp_mb_lt {S : Nat → Int32} (hS : rf_S S n m) {w : Nat} (hw : w < 2 ^ 5) (x y : Int32) : sp_mb S n m w x y < 2 ^ 5 := by
  have hn := hS.1
  unfold sp_mb
  rcases sp_mm_cases hS x y with ⟨e, -⟩ | ⟨i, j, g1, g2, rfl, rfl, hi, hj, hij, -, -, -, -, -, -, -, -, em, -, -, -⟩
  · rw [if_pos e]; exact hw
  · rw [if_neg (by rw [em]; decide), nI_clamp (by omega), nI_clamp (by omega)]
    have p2 : ∀ q, q < n → 2 ^ q < 2 ^ 5 := fun q hq => Nat.pow_lt_pow_right (by decide) (by omega)
    have hc : pl_clr (pl_clr w i) j < 2 ^ 5 := Nat.lt_of_le_of_lt (Nat.le_trans (pl_clr_le _ _) (pl_clr_le _ _)) hw
    have ho : ∀ (q r : Nat) (P : Prop) [Decidable P], q < n → r < n → (2 ^ q ||| (if P then 0 else 2 ^ r)) < 2 ^ 5 := fun q r P _ hq hr => by
      apply Nat.or_lt_two_pow (p2 q hq)
      split
      · decide
      · exact p2 r hr
    have h1 : (if w.testBit i = true then pl_clr (pl_clr w i) j ||| (2 ^ j ||| (if sp_pc (sp_cw S (nI i) m) = 1 then 0 else 2 ^ i)) else pl_clr (pl_clr w i) j) < 2 ^ 5 := by
      split
      · exact Nat.or_lt_two_pow hc (ho j i _ hj hi)
      · exact hc
    dsimp only
    split
    · exact Nat.or_lt_two_pow h1 (ho i j _ hi hj)
    · exact h1
theorem sp_pc_le {w : Nat} : sp_pc w ≤ 12 := by
  have : ∀ c k s, pl_fd (fun c k => c + (w.testBit k).toNat) s k c ≤ s + c := by
    intro c
    induction c with
    | zero => intro k s; exact Nat.le_refl _
    | succ c ih =>
      intro k s
      have := ih (k + 1) (s + (w.testBit k).toNat)
      have := Bool.toNat_lt (w.testBit k)
      show pl_fd (fun c k => c + (w.testBit k).toNat) (s + (w.testBit k).toNat) (k + 1) c ≤ _
      omega
  have := this 12 0 0
  unfold sp_pc
  omega
theorem fa_bits {N : ah_h} {F : fl_T} {S : Nat → Int32} {a : Nat} (hf : fa N a F) (hr : rf b M F S n m) {i : Nat} (hi : i < 5) : fX2_isAlone N a (nI i) = some (if sp_pc (sp_cw S (nI i) m) = 1 then 1 else 0) := by
  have hm := hr.1.2.1
  have hp : sp_pc (sp_cw S (nI i) m) < 2 ^ 31 := Nat.lt_of_le_of_lt sp_pc_le (by decide)
  unfold fX2_isAlone
  rw [fa_ob hf, Option.bind_some, hf.r4, Option.bind_some, hf.ai (by decide) (by decide) (show i < fl_n 3 from hi), Option.bind_some, hr.2.2.2.2.2.2 i hi, sp_bc _ (sp_cw_12 hm), Option.bind_some]
  have e : (nI (sp_pc (sp_cw S (nI i) m)) = 1) = (sp_pc (sp_cw S (nI i) m) = 1) := by rw [show (1 : Int32) = nI 1 from rfl, nI_eq hp (by decide)]
  simp only [e]
  split <;> rfl
theorem c_choices (h : cs b M τ n m F1) {w : Nat} (hw : w < 2 ^ 5) (x y : Int32) : fX10_choicesBehind M b (nI w) x y = some (nI (sp_mb (τ.1 1) n m w x y)) := by
  have hn := h.r1.1.1
  have e0 : fX2_canMeet M (b + 1) x y = some (sp_mm (τ.1 1) n m x y) := by
    have e := fl_may (a := b + 1) h.r1 x y
    rw [h.f1] at e
    exact e
  have hw' : w < 2 ^ 31 := Nat.lt_trans hw (by decide)
  unfold fX10_choicesBehind sp_mb
  rw [h.o.ob, Option.bind_some, h.o.r0, Option.bind_some, e0, Option.bind_some]
  rcases sp_mm_cases h.r1.1 x y with ⟨e, -⟩ | ⟨i, j, g1, g2, rfl, rfl, hi, hj, hij, -, -, -, -, -, -, -, -, em, -, -, -⟩
  · rw [if_pos e, if_pos e]
  · have em' : ¬ sp_mm (τ.1 1) n m (nI i) (nI j) = 0 := by rw [em]; decide
    rw [if_neg em', if_neg em', nI_clamp (by omega), nI_clamp (by omega)]
    unfold fX10_choicesBehind_60 fX10_choicesBehind_64
    simp only [sp_has M hw' (show i < 31 by omega), sp_has M hw' (show j < 31 by omega), Option.bind_some, h.o.r0, fa_bits h.f1 h.r1 (show i < 5 by omega), fa_bits h.f1 h.r1 (show j < 5 by omega), pl_nand (show i < 31 by omega), pl_nand (show j < 31 by omega)]
    simp only [pl_sh (show i < 31 by omega), pl_sh (show j < 31 by omega)]
    by_cases c1 : w.testBit i = true <;> by_cases c2 : w.testBit j = true <;> by_cases c3 : sp_pc (sp_cw (τ.1 1) (nI i) m) = 1 <;> by_cases c4 : sp_pc (sp_cw (τ.1 1) (nI j) m) = 1 <;> simp [c1, c2, c3, c4, pl_or]
theorem m_mayBe (hS : rf_S (τ.1 1) n m) {w : Nat} (hw : w < 2 ^ 5) (x y : Int32) : fX11_mayBe (md a τ M0) a (nI w) x y = some (nI (sp_mb (τ.1 1) n m w x y)) := by
  obtain ⟨hn, hm, h0, h1, -, -⟩ := id hS
  have hw' : w < 2 ^ 31 := Nat.lt_trans hw (by decide)
  unfold fX11_mayBe sp_mb
  rw [md_ob, Option.bind_some, md_may hS, Option.bind_some]
  rcases sp_mm_cases hS x y with ⟨e, -⟩ | ⟨i, j, g1, g2, rfl, rfl, hi, hj, hij, hwi, hwj, -, -, -, -, -, -, em, -, -, -⟩
  · rw [if_pos e, if_pos e]
  · have em' : ¬ sp_mm (τ.1 1) n m (nI i) (nI j) = 0 := by rw [em]; decide
    rw [if_neg em', if_neg em', nI_clamp (by omega), nI_clamp (by omega)]
    unfold fX11_mayBe_59 fX11_mayBe_63
    have pe : ∀ q, sp_cw (τ.1 1) q m ≠ 0 → (nI (sp_pc (sp_cw (τ.1 1) q m)) ≤ 1) = (sp_pc (sp_cw (τ.1 1) q m) = 1) := fun q hq => by
      have p1 := sp_pc_pos (sp_cw_12 hm) hq
      have p2 := sp_pc_le (w := sp_cw (τ.1 1) q m)
      apply propext
      constructor
      · intro hh
        by_cases c : sp_pc (sp_cw (τ.1 1) q m) = 1
        · exact c
        · exact absurd hh (pl_nel (x := 1) 1 rfl (by omega) (by omega))
      · intro hh
        rw [hh]; decide
    simp only [pl_mb1 hw' (show i < 31 by omega), pl_mb1 hw' (show j < 31 by omega), md_aboard h1 hm, sp_bits _ (sp_cw_12 hm), Option.bind_some, pe _ hwi, pe _ hwj, pl_nand (show i < 31 by omega), pl_nand (show j < 31 by omega)]
    simp only [pl_sh (show i < 31 by omega), pl_sh (show j < 31 by omega)]
    by_cases c1 : w.testBit i = true <;> by_cases c2 : w.testBit j = true <;> by_cases c3 : sp_pc (sp_cw (τ.1 1) (nI i) m) = 1 <;> by_cases c4 : sp_pc (sp_cw (τ.1 1) (nI j) m) = 1 <;> simp [c1, c2, c3, c4, pl_or]
def sp_can (τ : md_T) (n m : Nat) (x y : Int32) : Int32 := if sp_mw τ n m x y = 0 then nI (pl_fd (fun w k => sp_mb (τ.1 1) n m w (τ.1 8 (100 * y.toNatClampNeg + 2 * k)) (τ.1 8 (100 * y.toNatClampNeg + 2 * k + 1))) (2 ^ (τ.1 1 (13 + 5 * x.toNatClampNeg)).toNatClampNeg) 0 ((τ.1 7 y.toNatClampNeg).toNatClampNeg / 2)) else sp_mw τ n m x y
theorem c_can (h : cs b M τ n m F1) (x y : Int32) : fX10_can M b x y = some (sp_can τ n m x y) := by
  unfold fX10_can sp_can
  rw [h.o.ob, Option.bind_some, cs_mw h, Option.bind_some]
  have hn := h.r1.1.1
  have hm := h.r1.1.2.1
  rcases sp_mw_cases (cs_ts h) hm n x y with ⟨-, h2, h3⟩ | ⟨h1, g, d, K, hg, rfl, rfl, ht⟩
  · rw [if_neg h3, if_neg h2]
  · have hd := ht.1
    have hK := ht.2.2.2.2.1
    obtain ⟨i, hi, ei⟩ := h.r1.1.2.2.2.2.2 g hg
    rw [h1, if_pos (by decide), if_pos rfl, h.o.r4, Option.bind_some, h.o.sh hd, Option.bind_some, h.o.r0, Option.bind_some, (fa_ab h.f1 h.r1 hg).1, Option.bind_some, (fa_ab h.f1 h.r1 hg).2, Option.bind_some, (sp_K ht).1, (sp_K ht).2, nI_clamp (show g < 2 ^ 31 by omega), ei, nI_clamp (show i < 2 ^ 31 by omega), pl_sh (by omega)]
    refine pl_loop (fun w x k => fX10_can_37 M w b (b + 29 + 2 * d) (nI x) (nI k)) K _ (fun w => nI w) (fun _ w => w < 2 ^ 5) (fun f w k hk hw => ?_) (fun w k hk hw => sp_mb_lt h.r1.1 hw _ _) (fun f w hw => ?_) ah_fu (2 ^ i) 0 (by omega) (by unfold ah_fu; omega) (Nat.pow_lt_pow_right (by decide) (by omega))
    · show fX10_can_37_b _ _ _ _ _ _ = _
      unfold fX10_can_37_b
      rw [cs_meetings h ht, Option.bind_some, if_neg (nI_ge hk (by omega)), (cs_told h ht hk).1, Option.bind_some, (cs_told h ht hk).2, Option.bind_some, c_choices h hw, Option.bind_some, nI_1]
    · show fX10_can_37_b _ _ _ _ _ _ = _
      unfold fX10_can_37_b
      rw [cs_meetings h ht, Option.bind_some, if_pos (nI_le (Nat.le_refl _) (by omega))]
theorem m_can (hS : rf_S (τ.1 1) n m) (hs : ts τ) (x y : Int32) : fX11_can (md a τ M0) a x y = some (sp_can τ n m x y) := by
  have hn := hS.1
  have hm := hS.2.1
  have e0 : fX11_can (md a τ M0) a x y = fX11_can_17 (md a τ M0) a x y (sp_mw τ n m x y) := by
    unfold fX11_can sp_mw
    rw [md_ob, Option.bind_some, md_isMan hS.2.2.2.1 (by omega), Option.bind_some, md_wrongMeetings hS hs, Option.bind_some]
    split <;> rfl
  rw [e0]
  unfold fX11_can_17 sp_can
  rcases sp_mw_cases hs hm n x y with ⟨-, h2, h3⟩ | ⟨h1, g, d, K, hg, rfl, rfl, ht⟩
  · rw [if_neg h2, if_neg h2]
  · have hd := ht.1
    have hK := ht.2.2.2.2.1
    obtain ⟨i, hi, ei⟩ := hS.2.2.2.2.2 g hg
    rw [if_pos h1, if_pos h1, md_get0 (by omega), Option.bind_some, (sp_K ht).1, (sp_K ht).2, nI_clamp (show g < 2 ^ 31 by omega), ei, nI_clamp (show i < 2 ^ 31 by omega), pl_sh (by omega)]
    refine pl_loop (fun w x k => fX11_can_37 (md a τ M0) w a (nI d) (nI x) (nI k)) K _ (fun w => nI w) (fun _ w => w < 2 ^ 5) (fun f w k hk hw => ?_) (fun w k hk hw => sp_mb_lt hS hw _ _) (fun f w hw => ?_) ah_fu (2 ^ i) 0 (by omega) (by unfold ah_fu; omega) (Nat.pow_lt_pow_right (by decide) (by omega))
    · show fX11_can_37_b _ _ _ _ _ _ = _
      unfold fX11_can_37_b
      rw [md_meetings ht, Option.bind_some, if_neg (nI_ge hk (by omega)), md_first ht hk, Option.bind_some, md_second ht hk, Option.bind_some, m_mayBe hS hw, Option.bind_some, nI_1]
    · show fX11_can_37_b _ _ _ _ _ _ = _
      unfold fX11_can_37_b
      rw [md_meetings ht, Option.bind_some, if_pos (nI_le (Nat.le_refl _) (by omega))]
/-! soonest -/
def sp_soF (S : Nat → Int32) (n m s : Nat) (A B : Nat → Int32) (w k : Nat) : Nat ⊕ Int32 := if w.testBit s then .inr (nI k) else .inl (sp_mb S n m w (A k) (B k))
def sp_soonest (τ : md_T) (n m : Nat) (x y z : Int32) : Int32 := if sp_is n y = 0 then -1 else if sp_mw τ n m x z = 0 then pl_fe (sp_soF (τ.1 1) n m y.toNatClampNeg (fun k => τ.1 8 (100 * z.toNatClampNeg + 2 * k)) (fun k => τ.1 8 (100 * z.toNatClampNeg + 2 * k + 1))) (fun w => if w.testBit y.toNatClampNeg then nI ((τ.1 7 z.toNatClampNeg).toNatClampNeg / 2) else -4) (2 ^ (τ.1 1 (13 + 5 * x.toNatClampNeg)).toNatClampNeg) 0 ((τ.1 7 z.toNatClampNeg).toNatClampNeg / 2) else sp_mw τ n m x z
theorem c_soonest (h : cs b M τ n m F1) (x y z : Int32) : fX10_soonest M b x y z = some (sp_soonest τ n m x y z) := by
  unfold fX10_soonest sp_soonest
  have hn := h.r1.1.1
  have hm := h.r1.1.2.1
  rw [h.o.ob, Option.bind_some, h.o.r0, Option.bind_some, fa_isShip h.f1 h.r1.2.1, Option.bind_some, cs_mw h, Option.bind_some]
  rcases sp_is_cases (n := n) (by omega) y with hy | ⟨s, hs, rfl, hy⟩
  · rw [if_pos hy, if_pos hy]
  have hy' : ¬ sp_is n (nI s) = 0 := by rw [hy]; decide
  rw [if_neg hy', if_neg hy']
  rcases sp_mw_cases (cs_ts h) hm n x z with ⟨-, h2, h3⟩ | ⟨h1, g, d, K, hg, rfl, rfl, ht⟩
  · rw [if_neg h3, if_neg h2]
  · have hd := ht.1
    have hK := ht.2.2.2.2.1
    obtain ⟨i, hi, ei⟩ := h.r1.1.2.2.2.2.2 g hg
    rw [h1, if_pos (by decide), if_pos rfl]
    simp only [h.o.r4, Option.bind_some, h.o.sh hd, (fa_ab h.f1 h.r1 hg).1, (fa_ab h.f1 h.r1 hg).2, sp_K' ht, (sp_K ht).2, nI_clamp (show g < 2 ^ 31 by omega), ei, nI_clamp (show i < 2 ^ 31 by omega), nI_clamp (show s < 2 ^ 31 by omega), pl_sh (show i < 31 by omega)]
    refine pl_loopE (fun f w k => fX10_soonest_53 M f b (nI s) (b + 29 + 2 * d) (nI w) (nI k)) K _ _ (fun _ w => w < 2 ^ 5) (fun f w k hk hw => ?_) (fun w w' k hk hw e => ?_) (fun f w hw => ?_) ah_fu (2 ^ i) 0 (by omega) (by unfold ah_fu; omega) (Nat.pow_lt_pow_right (by decide) (by omega))
    · show fX10_soonest_53_b _ _ _ _ _ _ _ = _
      unfold fX10_soonest_53_b sp_soF
      rw [cs_meetings h ht, Option.bind_some, if_neg (nI_ge hk (by omega)), sp_has M (Nat.lt_trans hw (by decide)) (by omega), Option.bind_some]
      by_cases c : w.testBit s = true
      · rw [if_pos c, if_pos c, if_neg (by decide)]
      · rw [if_neg c, if_neg c, if_pos rfl, (cs_told h ht hk).1, Option.bind_some, (cs_told h ht hk).2, Option.bind_some, c_choices h hw, Option.bind_some, nI_1]
    · unfold sp_soF at e
      split at e
      · cases e
      · cases e; exact sp_mb_lt h.r1.1 hw _ _
    · show fX10_soonest_53_b _ _ _ _ _ _ _ = _
      unfold fX10_soonest_53_b
      rw [cs_meetings h ht, Option.bind_some, if_pos (nI_le (Nat.le_refl _) (by omega)), sp_has M (Nat.lt_trans hw (by decide)) (by omega), Option.bind_some, Option.bind_some]
      by_cases c : w.testBit s = true
      · rw [if_pos c, if_pos c, if_neg (by decide)]
      · rw [if_neg c, if_neg c, if_pos rfl]
theorem m_soonest (hS : rf_S (τ.1 1) n m) (hs : ts τ) (x y z : Int32) : fX11_soonest (md a τ M0) a x y z = some (sp_soonest τ n m x y z) := by
  have hn := hS.1
  have hm := hS.2.1
  have e0 : fX11_soonest (md a τ M0) a x y z = fX11_soonest_25 (md a τ M0) a x y z (if sp_is n y = 0 then -1 else sp_mw τ n m x z) := by
    unfold fX11_soonest fX11_soonest_24 sp_mw
    rw [md_ob, Option.bind_some, md_isMan hS.2.2.2.1 (by omega), Option.bind_some, md_isShip hS.2.2.1 (by omega), Option.bind_some, md_wrongMeetings hS hs, Option.bind_some]
    by_cases c1 : sp_is m x = 0
    · rw [if_pos c1, if_pos c1]
      by_cases c2 : sp_is n y = 0
      · rw [if_pos c2]
      · rw [if_neg c2]
    · rw [if_neg c1, if_neg c1]
      by_cases c2 : sp_is n y = 0
      · rw [if_pos c2, if_pos c2]
      · rw [if_neg c2, if_neg c2]
  rw [e0]
  unfold fX11_soonest_25 sp_soonest
  rcases sp_is_cases (n := n) (by omega) y with hy | ⟨s, hs', rfl, hy⟩
  · rw [if_pos hy, if_pos hy, if_neg (by decide)]
  have hy' : ¬ sp_is n (nI s) = 0 := by rw [hy]; decide
  rw [if_neg hy', if_neg hy']
  rcases sp_mw_cases hs hm n x z with ⟨-, h2, h3⟩ | ⟨h1, g, d, K, hg, rfl, rfl, ht⟩
  · rw [if_neg h2, if_neg h2]
  · have hd := ht.1
    have hK := ht.2.2.2.2.1
    obtain ⟨i, hi, ei⟩ := hS.2.2.2.2.2 g hg
    rw [if_pos h1, if_pos h1, md_get0 (by omega), Option.bind_some]
    simp only [sp_K' ht, (sp_K ht).2, nI_clamp (show g < 2 ^ 31 by omega), ei, nI_clamp (show i < 2 ^ 31 by omega), nI_clamp (show s < 2 ^ 31 by omega), pl_sh (show i < 31 by omega)]
    refine pl_loopE (fun f w k => fX11_soonest_48 (md a τ M0) (f + 1) a (nI s) (nI d) (nI w) (nI k)) K _ _ (fun _ w => w < 2 ^ 5) (fun f w k hk hw => ?_) (fun w w' k hk hw e => ?_) (fun f w hw => ?_) 299 (2 ^ i) 0 (by omega) (by omega) (Nat.pow_lt_pow_right (by decide) (by omega))
    · show fX11_soonest_48_b _ _ _ _ _ _ _ = _
      unfold fX11_soonest_48_b fX11_soonest_103 sp_soF
      rw [md_meetings ht, Option.bind_some, if_neg (show ¬ nI K < nI k from fun hh => by rw [nI_ltI (by omega) (by omega)] at hh; omega)]
      simp only [pl_mb1 (Nat.lt_trans hw (by decide) : w < 2 ^ 31) (show s < 31 by omega)]
      by_cases c : w.testBit s = true
      · rw [if_pos c, if_pos c]
      · rw [if_neg c, if_neg c, Option.bind_some, if_neg (nI_ge hk (by omega)), md_first ht hk, Option.bind_some, md_second ht hk, Option.bind_some, m_mayBe hS hw, Option.bind_some, nI_1]
    · unfold sp_soF at e
      split at e
      · cases e
      · cases e; exact sp_mb_lt hS hw _ _
    · show fX11_soonest_48_b _ _ _ _ _ _ _ = _
      unfold fX11_soonest_48_b fX11_soonest_103
      rw [md_meetings ht, Option.bind_some, if_neg (show ¬ nI K < nI K from fun hh => by rw [nI_ltI (by omega) (by omega)] at hh; omega)]
      simp only [pl_mb1 (Nat.lt_trans hw (by decide) : w < 2 ^ 31) (show s < 31 by omega)]
      by_cases c : w.testBit s = true
      · rw [if_pos c, if_pos c]
      · rw [if_neg c, if_neg c, Option.bind_some, if_pos (nI_le (Nat.le_refl _) (by omega)), nI_1]
        show fX11_soonest_48_b _ _ _ _ _ _ _ = _
        unfold fX11_soonest_48_b
        rw [md_meetings ht, Option.bind_some, if_pos (show nI K < nI (K + 1) by rw [nI_ltI (by omega) (by omega)]; omega)]
end RUNS3
