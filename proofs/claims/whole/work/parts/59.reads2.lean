/-! PURE LEVEL, 20: lacks, count, pay, mixesMost -/
section READS2
variable {b a : Nat} {M M0 : ah_h} {τ : md_T} {n m : Nat} {F1 : fl_T}
/-- somebody of this trade is aboard -/
def sp_ht (S : Nat → Int32) (m i : Nat) (x : Int32) : Prop := ∃ j, j < m ∧ S (13 + 5 * j) = nI i ∧ S (13 + 5 * j + 1) = x
theorem fa_hasTrade {N : ah_h} {F : fl_T} {S : Nat → Int32} {a : Nat} (hf : fa N a F) (hr : rf b M F S n m) (i : Nat) (x : Int32) : ∃ r, fX2_hasTrade N a (nI i) x = some r ∧ (r = 0 ∧ ¬ sp_ht S m i x ∨ r = 1 ∧ sp_ht S m i x) := by
  have hm := hr.1.2.1
  have h1 := hr.2.2.1
  unfold fX2_hasTrade
  rw [fa_ob hf, Option.bind_some]
  refine pl_run (fun w (_ : Unit) j => fX2_hasTrade_2 N w a (nI i) x (nI j)) m (fun k _ => ∀ j, j < k → ¬ (S (13 + 5 * j) = nI i ∧ S (13 + 5 * j + 1) = x)) _ (fun w _ k hk hI => ?_) (fun w _ hI => ?_) ah_fu () 0 (by omega) (by unfold ah_fu; omega) (fun j hj => absurd hj (Nat.not_lt_zero _))
  · obtain ⟨e1, e2, e3, e4, e5⟩ := fa_m hf hr hk
    have eb : fX2_hasTrade_2 N (w + 1) a (nI i) x (nI k) = if S (13 + 5 * k) = nI i then (if S (13 + 5 * k + 1) = x then some 1 else fX2_hasTrade_2 N w a (nI i) x (nI (k + 1))) else fX2_hasTrade_2 N w a (nI i) x (nI (k + 1)) := by
      show fX2_hasTrade_2_b _ _ _ _ _ _ = _
      unfold fX2_hasTrade_2_b fX2_hasTrade_32
      rw [hf.i1, Option.bind_some, h1, if_neg (nI_ge hk (by omega)), hf.r5, Option.bind_some, e1, Option.bind_some, hf.r6, Option.bind_some, e2, Option.bind_some, nI_1]
    by_cases c1 : S (13 + 5 * k) = nI i
    · by_cases c2 : S (13 + 5 * k + 1) = x
      · exact Or.inr ⟨1, by rw [eb, if_pos c1, if_pos c2], Or.inr ⟨rfl, k, hk, c1, c2⟩⟩
      · refine Or.inl ⟨(), by rw [eb, if_pos c1, if_neg c2], fun j hj => ?_⟩
        rcases (show j < k ∨ j = k by omega) with hj | rfl
        · exact hI j hj
        · exact fun hh => c2 hh.2
    · refine Or.inl ⟨(), by rw [eb, if_neg c1], fun j hj => ?_⟩
      rcases (show j < k ∨ j = k by omega) with hj | rfl
      · exact hI j hj
      · exact fun hh => c1 hh.1
  · refine ⟨0, ?_, Or.inl ⟨rfl, fun ⟨j, hj, e⟩ => hI j hj e⟩⟩
    show fX2_hasTrade_2_b _ _ _ _ _ _ = _
    unfold fX2_hasTrade_2_b
    rw [hf.i1, Option.bind_some, h1, if_pos (nI_le (Nat.le_refl _) (by omega))]
/-- the ships that lack a trade -/
def sp_lk (S : Nat → Int32) (n m : Nat) (x : Int32) (w : Nat) : Prop := w < 2 ^ 5 ∧ ∀ i, w.testBit i = true ↔ (i < n ∧ ¬ sp_ht S m i x)
theorem sp_lk_eq {S : Nat → Int32} {x : Int32} {w w' : Nat} (h : sp_lk S n m x w) (h' : sp_lk S n m x w') : w = w' := by
  apply Nat.eq_of_testBit_eq
  intro i
  cases e : w.testBit i with
  | true => exact ((h'.2 i).mpr ((h.2 i).mp e)).symm
  | false =>
    cases e' : w'.testBit i with
    | true => rw [(h.2 i).mpr ((h'.2 i).mp e')] at e; exact e.symm
    | false => rfl
theorem c_lacks (h : cs b M τ n m F1) (x : Int32) : (sp_is 4 x = 0 ∧ fX10_lacks M b x = some (-1)) ∨ (sp_is 4 x = 1 ∧ ∃ w, fX10_lacks M b x = some (nI w) ∧ sp_lk (τ.1 1) n m x w) := by
  have hn := h.r1.1.1
  have h0 := h.r1.2.1
  unfold fX10_lacks
  rw [h.o.ob, Option.bind_some]
  rcases pl_ix x (n := 4) (by decide) with c | c | ⟨t, ht, rfl⟩
  · exact Or.inl ⟨by unfold sp_is; rw [if_pos c], by rw [if_pos c]⟩
  · by_cases c0 : x < 0
    · exact Or.inl ⟨by unfold sp_is; rw [if_pos c0], by rw [if_pos c0]⟩
    · exact Or.inl ⟨by unfold sp_is; rw [if_neg c0, if_pos c], by rw [if_neg c0, if_neg (show ¬ x < 4 from Int32.not_lt.mpr c)]⟩
  · right
    refine ⟨sp_is_in (by decide) ht, ?_⟩
    rw [if_neg (nI_pos (by omega)), if_pos (show nI t < 4 by rw [show (4 : Int32) = nI 4 from rfl, nI_ltI (by omega) (by decide)]; exact ht)]
    have key := pl_run (fun f w k => fX10_lacks_15 M f b (nI t) (nI w) (nI k)) n (fun k w => w < 2 ^ 5 ∧ ∀ i, w.testBit i = true ↔ (i < k ∧ ¬ sp_ht (τ.1 1) m i (nI t))) (fun r => ∃ w, r = nI w ∧ sp_lk (τ.1 1) n m (nI t) w) (fun f w k hk hI => Or.inl ?_) (fun f w hI => ⟨nI w, ?_, w, rfl, hI⟩) ah_fu 0 0 (by omega) (by unfold ah_fu; omega) ⟨by decide, fun i => by simp⟩
    · obtain ⟨r, e1, w, e2, e3⟩ := key
      rw [e2] at e1
      exact ⟨w, e1, e3⟩
    · obtain ⟨r, e1, e2⟩ := fa_hasTrade h.f1 h.r1 k (nI t)
      have eb : fX10_lacks_15 M (f + 1) b (nI t) (nI w) (nI k) = if r = 0 then fX10_lacks_15 M f b (nI t) (nI (w ||| 2 ^ k)) (nI (k + 1)) else fX10_lacks_15 M f b (nI t) (nI w) (nI (k + 1)) := by
        show fX10_lacks_15_b _ _ _ _ _ _ = _
        unfold fX10_lacks_15_b fX10_lacks_44
        rw [h.o.r0, Option.bind_some, h.f1.i0, Option.bind_some, h0, if_neg (nI_ge hk (by omega)), Option.bind_some, e1, Option.bind_some, nI_1, pl_orb (by omega)]
      rcases e2 with ⟨er, hh⟩ | ⟨er, hh⟩
      · refine ⟨w ||| 2 ^ k, by rw [eb, if_pos er], pl_or_lt hI.1 (by omega), fun i => ?_⟩
        rw [pl_or_tb, Bool.or_eq_true, hI.2 i, decide_eq_true_eq]
        constructor
        · rintro (⟨l1, l2⟩ | rfl)
          · exact ⟨by omega, l2⟩
          · exact ⟨by omega, hh⟩
        · rintro ⟨l1, l2⟩
          rcases (show i < k ∨ k = i by omega) with l | l
          · exact Or.inl ⟨l, l2⟩
          · exact Or.inr l
      · refine ⟨w, by rw [eb, if_neg (by rw [er]; decide)], hI.1, fun i => ?_⟩
        rw [hI.2 i]
        constructor
        · rintro ⟨l1, l2⟩; exact ⟨by omega, l2⟩
        · rintro ⟨l1, l2⟩
          rcases (show i < k ∨ i = k by omega) with l | l
          · exact ⟨l, l2⟩
          · subst l; exact absurd hh l2
    · show fX10_lacks_15_b _ _ _ _ _ _ = _
      unfold fX10_lacks_15_b
      rw [h.o.r0, Option.bind_some, h.f1.i0, Option.bind_some, h0, if_pos (nI_le (Nat.le_refl _) (by omega))]
theorem m_lacks (hS : rf_S (τ.1 1) n m) (x : Int32) : (sp_is 4 x = 0 ∧ fX11_lacks (md a τ M0) a x = some (-1)) ∨ (sp_is 4 x = 1 ∧ ∃ w, fX11_lacks (md a τ M0) a x = some (nI w) ∧ sp_lk (τ.1 1) n m x w) := by
  obtain ⟨hn, hm, h0, h1, h2, h3⟩ := hS
  unfold fX11_lacks
  rw [md_ob, Option.bind_some, show (0 : Int64) = (0 : Int32).toInt64 from rfl, show (3 : Int64) = (3 : Int32).toInt64 from rfl, md_isIn, Option.bind_some]
  have e3 : (if x < 0 then 0 else if 3 < x then 0 else 1 : Int32) = sp_is 4 x := by
    unfold sp_is
    by_cases c0 : x < 0
    · rw [if_pos c0, if_pos c0]
    · rw [if_neg c0, if_neg c0]
      have e := pl_pred_lt (n := 4) (by decide) x c0
      rw [show nI 4 - 1 = 3 by decide] at e
      simp only [e]
  rw [e3]
  rcases sp_is_cases (n := 4) (by decide) x with c | ⟨t, ht, rfl, c⟩
  · exact Or.inl ⟨c, by rw [if_pos c]⟩
  · right
    refine ⟨c, ?_⟩
    have e0 : ((1 : Int32) <<< (nI n &&& 31)) - 1 = nI (2 ^ n - 1) := by
      rcases (show n = 0 ∨ n = 1 ∨ n = 2 ∨ n = 3 ∨ n = 4 ∨ n = 5 by omega) with rfl | rfl | rfl | rfl | rfl | rfl <;> decide
    rw [if_neg (by rw [c]; decide), md_r0, Option.bind_some, md_s0, Option.bind_some, h0, e0]
    have key := pl_run (fun f w k => fX11_lacks_27 (md a τ M0) f a (nI t) (nI w) (nI k)) m (fun k w => w < 2 ^ 5 ∧ ∀ i, w.testBit i = true ↔ (i < n ∧ ¬ sp_ht (τ.1 1) k i (nI t))) (fun r => ∃ w, r = nI w ∧ sp_lk (τ.1 1) n m (nI t) w) (fun f w k hk hI => Or.inl ?_) (fun f w hI => ⟨nI w, ?_, w, rfl, hI⟩) ah_fu (2 ^ n - 1) 0 (by omega) (by unfold ah_fu; omega) ⟨?_, fun i => ?_⟩
    · obtain ⟨r, e1, w, e2, e3⟩ := key
      rw [e2] at e1
      exact ⟨w, e1, e3⟩
    · obtain ⟨q, hq, eq⟩ := h3 k hk
      have eb : fX11_lacks_27 (md a τ M0) (f + 1) a (nI t) (nI w) (nI k) = if τ.1 1 (13 + 5 * k + 1) = nI t then fX11_lacks_27 (md a τ M0) f a (nI t) (nI (pl_clr w q)) (nI (k + 1)) else fX11_lacks_27 (md a τ M0) f a (nI t) (nI w) (nI (k + 1)) := by
        show fX11_lacks_27_b _ _ _ _ _ _ = _
        unfold fX11_lacks_27_b fX11_lacks_60
        rw [md_r0, Option.bind_some, md_s1, Option.bind_some, h1, if_neg (nI_ge hk (by omega)), md_get1 (by omega), Option.bind_some, md_get0 (by omega), Option.bind_some, nI_1, eq, pl_nand (by omega)]
      have hw : w < 2 ^ 31 := Nat.lt_trans hI.1 (by decide)
      by_cases c1 : τ.1 1 (13 + 5 * k + 1) = nI t
      · refine ⟨pl_clr w q, by rw [eb, if_pos c1], Nat.lt_of_le_of_lt (pl_clr_le _ _) hI.1, fun i => ?_⟩
        rw [pl_clr_tb hw (by omega), Bool.and_eq_true, hI.2 i]
        simp only [Bool.not_eq_true', decide_eq_false_iff_not]
        constructor
        · rintro ⟨⟨l1, l2⟩, l3⟩
          refine ⟨l1, fun ⟨j, hj, f1, f2⟩ => ?_⟩
          rcases (show j < k ∨ j = k by omega) with l | l
          · exact l2 ⟨j, l, f1, f2⟩
          · subst l
            rw [eq] at f1
            exact l3 ((nI_eq (by omega) (by omega)).mp f1).symm
        · rintro ⟨l1, l2⟩
          refine ⟨⟨l1, fun ⟨j, hj, f1, f2⟩ => l2 ⟨j, by omega, f1, f2⟩⟩, fun e => l2 ⟨k, by omega, by rw [eq, e], c1⟩⟩
      · refine ⟨w, by rw [eb, if_neg c1], hI.1, fun i => ?_⟩
        rw [hI.2 i]
        constructor
        · rintro ⟨l1, l2⟩
          refine ⟨l1, fun ⟨j, hj, f1, f2⟩ => ?_⟩
          rcases (show j < k ∨ j = k by omega) with l | l
          · exact l2 ⟨j, l, f1, f2⟩
          · subst l; exact c1 f2
        · rintro ⟨l1, l2⟩
          exact ⟨l1, fun ⟨j, hj, f1, f2⟩ => l2 ⟨j, by omega, f1, f2⟩⟩
    · show fX11_lacks_27_b _ _ _ _ _ _ = _
      unfold fX11_lacks_27_b
      rw [md_r0, Option.bind_some, md_s1, Option.bind_some, h1, if_pos (nI_le (Nat.le_refl _) (by omega))]
    · rcases (show n = 0 ∨ n = 1 ∨ n = 2 ∨ n = 3 ∨ n = 4 ∨ n = 5 by omega) with rfl | rfl | rfl | rfl | rfl | rfl <;> decide
    · rw [Nat.testBit_two_pow_sub_one, decide_eq_true_eq]
      exact ⟨fun l => ⟨l, fun ⟨j, hj, _⟩ => absurd hj (Nat.not_lt_zero _)⟩, fun l => l.1⟩
theorem cm_lacks (h : cs b M τ n m F1) (M' : ah_h) (x : Int32) : ∃ v, fX10_lacks M b x = some v ∧ fX11_lacks (md a τ M') a x = some v := by
  rcases c_lacks h x with ⟨c1, c2⟩ | ⟨c1, w, c2, c3⟩ <;> rcases m_lacks (a := a) (M0 := M') h.r1.1 x with ⟨d1, d2⟩ | ⟨d1, w', d2, d3⟩
  · exact ⟨_, c2, d2⟩
  · rw [c1] at d1; exact absurd d1 (by decide)
  · rw [c1] at d1; exact absurd d1 (by decide)
  · rw [sp_lk_eq d3 c3] at d2
    exact ⟨_, c2, d2⟩
/-! count -/
theorem sp_pc0 {w : Nat} (hw : w < 4096) : (sp_pc w = 0) = (w = 0) := propext ⟨fun h => Classical.byContradiction fun h0 => by have := sp_pc_pos hw h0; omega, fun h => by subst h; rfl⟩
def sp_sw (S : Nat → Int32) (m : Nat) (c : Int32) (i : Nat) : Int32 := if sp_cw S (nI i) m = 0 then c + 1 else c
def sp_ma (S : Nat → Int32) (m : Nat) (c i : Nat) : Nat := if sp_pc (sp_cw S (nI i) m) ≤ c then c else sp_pc (sp_cw S (nI i) m)
def sp_count (S : Nat → Int32) (n m : Nat) (x : Int32) : Int32 := if x = 0 then S 0 else if x = 1 then S 1 else if x = 2 then S 2 else if x = 3 then pl_fd (sp_sw S m) 0 0 n else if x = 4 then nI (pl_fd (sp_ma S m) 0 0 n) else -1
theorem sp_ma_le {S : Nat → Int32} {c i : Nat} (h : c ≤ 12) : sp_ma S m c i ≤ 12 := by
  unfold sp_ma
  split
  · exact h
  · exact sp_pc_le
theorem c_count (h : cs b M τ n m F1) (x : Int32) : fX10_count M b x = some (sp_count (τ.1 1) n m x) := by
  obtain ⟨⟨hn, hm, k0, k1, -, -⟩, h0, h1, h2, -, -, h7⟩ := h.r1
  have hf := h.f1
  have e3 : fX2_shipsWithoutMen M (b + 1) = some (pl_fd (sp_sw (τ.1 1) m) 0 0 n) := by
    unfold fX2_shipsWithoutMen
    rw [fa_ob hf, Option.bind_some]
    refine pl_loopK (fun w c i => fX2_shipsWithoutMen_4 M w (b + 1) c (nI i)) n _ some (fun w c i hi => ?_) (fun w c => ?_) ah_fu 0 0 (by omega) (by unfold ah_fu; omega)
    · show fX2_shipsWithoutMen_4_b _ _ _ _ _ = _
      unfold fX2_shipsWithoutMen_4_b fX2_shipsWithoutMen_24 sp_sw
      have nn : (nI (sp_cw (τ.1 1) (nI i) m) = 0) = (sp_cw (τ.1 1) (nI i) m = 0) := propext (by
        rw [show (0 : Int32) = nI 0 from rfl, nI_eq (Nat.lt_of_lt_of_le (sp_cw_12 hm) (by decide)) (by decide)])
      rw [hf.i0, Option.bind_some, h0, if_neg (nI_ge hi (by omega)), hf.r4, Option.bind_some, hf.ai (k := 3) (by decide) (by decide) (show i < fl_n 3 from (by show i < 5; omega)), Option.bind_some, h7 i (by omega), nI_1]
      simp only [nn]
      split <;> rfl
    · show fX2_shipsWithoutMen_4_b _ _ _ _ _ = _
      unfold fX2_shipsWithoutMen_4_b
      rw [hf.i0, Option.bind_some, h0, if_pos (nI_le (Nat.le_refl _) (by omega))]
  have e4 : fX2_mostAboard M (b + 1) = some (nI (pl_fd (sp_ma (τ.1 1) m) 0 0 n)) := by
    unfold fX2_mostAboard
    rw [fa_ob hf, Option.bind_some]
    refine pl_loop (fun w c i => fX2_mostAboard_4 M w (b + 1) (nI c) (nI i)) n _ (fun c => nI c) (fun _ c => c ≤ 12) (fun w c i hi hc => ?_) (fun c i hi hc => sp_ma_le hc) (fun w c hc => ?_) ah_fu 0 0 (by omega) (by unfold ah_fu; omega) (by decide)
    · show fX2_mostAboard_4_b _ _ _ _ _ = _
      unfold fX2_mostAboard_4_b sp_ma
      have hp := sp_pc_le (w := sp_cw (τ.1 1) (nI i) m)
      rw [hf.i0, Option.bind_some, h0, if_neg (nI_ge hi (by omega)), hf.r4, Option.bind_some, hf.ai (k := 3) (by decide) (by decide) (show i < fl_n 3 from (by show i < 5; omega)), Option.bind_some, h7 i (by omega), nI_1, sp_bc M (sp_cw_12 hm), Option.bind_some]
      simp only [nI_ltI (show c < 2 ^ 31 by omega) (show sp_pc (sp_cw (τ.1 1) (nI i) m) < 2 ^ 31 by omega)]
      by_cases c1 : sp_pc (sp_cw (τ.1 1) (nI i) m) ≤ c
      · rw [if_pos c1, if_neg (by omega)]
      · rw [if_neg c1, if_pos (by omega)]
    · show fX2_mostAboard_4_b _ _ _ _ _ = _
      unfold fX2_mostAboard_4_b
      rw [hf.i0, Option.bind_some, h0, if_pos (nI_le (Nat.le_refl _) (by omega))]
  unfold fX10_count sp_count
  simp only [h.o.ob, h.o.r0, Option.bind_some, hf.i0, hf.i1, hf.i2, h0, h1, h2, e3, e4, k0, k1]
  repeat (first | rfl | split)
theorem m_count (hS : rf_S (τ.1 1) n m) (x : Int32) : fX11_count (md a τ M0) a x = some (sp_count (τ.1 1) n m x) := by
  obtain ⟨hn, hm, h0, h1, -, -⟩ := hS
  have e3 : fX11_count_45 (md a τ M0) ah_fu a 3 0 0 = some (pl_fd (sp_sw (τ.1 1) m) 0 0 n) := by
    refine pl_loopK (fun w c i => fX11_count_45 (md a τ M0) w a 3 c (nI i)) n _ some (fun w c i hi => ?_) (fun w c => ?_) ah_fu 0 0 (by omega) (by unfold ah_fu; omega)
    · show fX11_count_45_b _ _ _ _ _ _ = _
      unfold fX11_count_45_b fX11_count_81 fX11_count_97 sp_sw
      have nn : (nI (sp_pc (sp_cw (τ.1 1) (nI i) m)) = 0) = (sp_cw (τ.1 1) (nI i) m = 0) := by
        rw [show (0 : Int32) = nI 0 from rfl, nI_eq (Nat.lt_of_le_of_lt sp_pc_le (by decide)) (by decide), sp_pc0 (sp_cw_12 hm)]
      rw [md_r0, Option.bind_some, md_s0, Option.bind_some, h0, if_neg (nI_ge hi (by omega)), md_aboard h1 hm, Option.bind_some, sp_bits _ (sp_cw_12 hm), Option.bind_some, if_pos rfl, nI_1, show c + 0 = c from Int32.add_zero c]
      simp only [nn]
      split <;> rfl
    · show fX11_count_45_b _ _ _ _ _ _ = _
      unfold fX11_count_45_b
      rw [md_r0, Option.bind_some, md_s0, Option.bind_some, h0, if_pos (nI_le (Nat.le_refl _) (by omega))]
  have e4 : fX11_count_45 (md a τ M0) ah_fu a 4 0 0 = some (nI (pl_fd (sp_ma (τ.1 1) m) 0 0 n)) := by
    refine pl_loop (fun w c i => fX11_count_45 (md a τ M0) w a 4 (nI c) (nI i)) n _ (fun c => nI c) (fun _ c => c ≤ 12) (fun w c i hi hc => ?_) (fun c i hi hc => sp_ma_le hc) (fun w c hc => ?_) ah_fu 0 0 (by omega) (by unfold ah_fu; omega) (by decide)
    · show fX11_count_45_b _ _ _ _ _ _ = _
      unfold fX11_count_45_b fX11_count_97 sp_ma
      have hp := sp_pc_le (w := sp_cw (τ.1 1) (nI i) m)
      rw [md_r0, Option.bind_some, md_s0, Option.bind_some, h0, if_neg (nI_ge hi (by omega)), md_aboard h1 hm, Option.bind_some, sp_bits _ (sp_cw_12 hm), Option.bind_some, if_neg (by decide), nI_1]
      by_cases c1 : sp_pc (sp_cw (τ.1 1) (nI i) m) ≤ c
      · rw [if_pos c1, if_pos (nI_le c1 (by omega))]
      · rw [if_neg c1, if_neg (nI_ge (by omega) (by omega))]
    · show fX11_count_45_b _ _ _ _ _ _ = _
      unfold fX11_count_45_b
      rw [md_r0, Option.bind_some, md_s0, Option.bind_some, h0, if_pos (nI_le (Nat.le_refl _) (by omega))]
  unfold fX11_count sp_count
  rw [md_ob, Option.bind_some]
  by_cases c0 : x = 0
  · subst c0; rw [if_pos rfl, if_pos rfl, md_r0, Option.bind_some, md_s0, Option.bind_some]
  rw [if_neg c0, if_neg c0]
  by_cases c1 : x = 1
  · subst c1; rw [if_pos rfl, if_pos rfl, md_r0, Option.bind_some, md_s1, Option.bind_some]
  rw [if_neg c1, if_neg c1]
  by_cases c2 : x = 2
  · subst c2; rw [if_pos rfl, if_pos rfl, md_r0, Option.bind_some, md_s2, Option.bind_some]
  rw [if_neg c2, if_neg c2]
  by_cases c3 : x = 3
  · subst c3; rw [if_pos rfl, if_pos rfl, e3]
  rw [if_neg c3, if_neg c3]
  by_cases c4 : x = 4
  · subst c4; rw [if_pos rfl, if_pos rfl, e4]
  · rw [if_neg c4, if_neg c4]
/-! pay -/
def sp_pay (kd fg : Nat) : Int32 := if kd = 1 then nI (6 + fg) else if kd = 2 then 5 else if kd = 3 then 10 else if kd = 4 then nI (6 * (fg + 1)) else if kd = 5 then nI (6 * (fg + 1) + 3) else if kd = 6 then 6 - nI fg else if kd = 7 then nI (10 + fg) else 6
theorem m_payBy (M : ah_h) {kd fg : Nat} (hk : kd < 8) (hf : fg < 10) : fX11_payBy M (nI kd) (nI fg) = some (sp_pay kd fg) :=
  (by decide +kernel : ∀ kd, kd < 8 → ∀ fg, fg < 10 → fX11_payBy (fun _ => none) (nI kd) (nI fg) = some (sp_pay kd fg)) kd hk fg hf
theorem cp_wages {c kd fg : Nat} (h : cp M c kd fg) : dv_wages M c = some (sp_pay kd fg) := by
  have hk := h.2.1
  have hf := h.2.2
  unfold dv_wages
  simp only [fX0_wages, fX3_wages, fX4_wages, fX5_wages, fX6_wages, fX8_wages, fX9_wages, fX1_wages, cp_oc h, cp_fg h, Option.bind_some]
  clear h
  rcases (show kd = 0 ∨ kd = 1 ∨ kd = 2 ∨ kd = 3 ∨ kd = 4 ∨ kd = 5 ∨ kd = 6 ∨ kd = 7 by omega) with rfl | rfl | rfl | rfl | rfl | rfl | rfl | rfl <;> (revert fg; decide +kernel)
theorem sp_wk_cases (h : ts τ) (x : Int32) : (sp_wk τ x < 0 ∧ ¬ sp_wk τ x = 0 ∧ ¬ 0 ≤ sp_wk τ x) ∨ (sp_wk τ x = 0 ∧ ∃ d kd fg, d < 8 ∧ x = nI d ∧ τ.1 5 d = 1 ∧ kd < 8 ∧ fg < 10 ∧ τ.1 9 d = nI kd ∧ τ.1 10 d = nI fg) := by
  unfold sp_wk
  rcases sp_is_cases (n := 8) (by decide) x with hx | ⟨d, hd, rfl, hx⟩
  · rw [if_pos hx]; exact Or.inl (by decide)
  rw [if_neg (by rw [hx]; decide), nI_clamp (by omega)]
  rcases h d hd with k1 | ⟨k1, kd, fg, l1, l2, l3, l4⟩ | ⟨k1, -⟩
  · rw [if_pos k1]; exact Or.inl (by decide)
  · rw [if_neg (by rw [k1]; decide), if_pos k1]
    exact Or.inr ⟨rfl, d, kd, fg, hd, rfl, k1, l1, l2, l3, l4⟩
  · rw [if_neg (by rw [k1]; decide), if_neg (by rw [k1]; decide)]; exact Or.inl (by decide)
theorem cs_cap (h : cs b M τ n m F1) {d kd fg : Nat} (hd : d < 8) (k5 : τ.1 5 d = 1) (k9 : τ.1 9 d = nI kd) (k10 : τ.1 10 d = nI fg) (hk : kd < 8) (hf : fg < 10) : ∃ c si el, shA M (b + 29 + 2 * d) (some c) (-1) si el ∧ rf_a b c ∧ cp M c kd fg := by
  obtain ⟨cap, so, si, el, H, hc⟩ := h.sh d hd
  rcases hc with ⟨k1, -⟩ | ⟨k1, e1, c, kd', fg', e2, e3, e4, e5, e6⟩ | ⟨k1, -⟩
  · rw [k1] at k5; exact absurd k5 (by decide)
  · rw [e1, e2] at H
    rw [e5] at k9
    rw [e6] at k10
    have q1 := (nI_eq (by have := e4.2.1; omega) (by omega)).mp k9
    have q2 := (nI_eq (by have := e4.2.2; omega) (by omega)).mp k10
    subst q1; subst q2
    exact ⟨c, si, el, H, e3, e4⟩
  · rw [k1] at k5; exact absurd k5 (by decide)
def sp_payd (τ : md_T) (x : Int32) : Int32 := if sp_wk τ x = 0 then sp_pay (τ.1 9 x.toNatClampNeg).toNatClampNeg (τ.1 10 x.toNatClampNeg).toNatClampNeg else sp_wk τ x
theorem c_pay (h : cs b M τ n m F1) (x : Int32) : fX10_pay M b x = some (sp_payd τ x) := by
  unfold fX10_pay sp_payd
  rw [h.o.ob, Option.bind_some, co_refCap h.o h.sh, Option.bind_some]
  rcases sp_wk_cases (cs_ts h) x with ⟨h1, h2, h3⟩ | ⟨h1, d, kd, fg, hd, rfl, k5, hk, hf, k9, k10⟩
  · rw [if_neg h3, if_neg h2]
  · obtain ⟨c, si, el, H, -, hc⟩ := cs_cap h hd k5 k9 k10 hk hf
    rw [h1, if_pos (by decide), if_pos rfl, h.o.r4, Option.bind_some, h.o.sh hd, Option.bind_some, H.q0, Option.bind_some, Option.bind_some, cp_wages hc, Option.bind_some, nI_clamp (show d < 2 ^ 31 by omega), k9, k10, nI_clamp (by omega), nI_clamp (by omega)]
theorem m_pay (hs : ts τ) (x : Int32) : fX11_pay (md a τ M0) a x = some (sp_payd τ x) := by
  unfold fX11_pay sp_payd
  rw [md_ob, Option.bind_some, md_wrongKept, Option.bind_some]
  rcases sp_wk_cases hs x with ⟨h1, h2, h3⟩ | ⟨h1, d, kd, fg, hd, rfl, k5, hk, hf, k9, k10⟩
  · rw [if_neg h2, if_neg h2]
  · rw [if_pos h1, if_pos h1, md_r8, Option.bind_some, md_k9 hd, Option.bind_some, md_r9, Option.bind_some, md_k10 hd, Option.bind_some, k9, k10, m_payBy _ hk hf, Option.bind_some, nI_clamp (show d < 2 ^ 31 by omega), k9, k10, nI_clamp (by omega), nI_clamp (by omega)]
end READS2
