/-! PURE LEVEL, 10: the class holds a meeting as the row says -/
theorem fl_AA (F : fl_T) (k : Nat) (f g : Nat → Int32) : fl_A (fl_A F k f) k g = fl_A F k g := by
  unfold fl_A
  simp only [Prod.mk.injEq, true_and]
  funext j
  by_cases h : j = k
  · simp [h]
  · simp [h]
theorem fl_A1 (F : fl_T) (k : Nat) (f : Nat → Int32) : (fl_A F k f).2.2 k = f := by simp [fl_A]
theorem fl_An (F : fl_T) {k j : Nat} (f : Nat → Int32) (h : j ≠ k) : (fl_A F k f).2.2 j = F.2.2 j := by simp [fl_A, h]
theorem fl_Av (F : fl_T) (k : Nat) (f : Nat → Int32) : (fl_A F k f).1 = F.1 := rfl
theorem fl_Ac (F : fl_T) (k : Nat) (f : Nat → Int32) : (fl_A F k f).2.1 = F.2.1 := rfl
theorem fl_Va (F : fl_T) (k : Nat) (v : Int32) : (fl_V F k v).2 = F.2 := rfl
theorem fl_V1 (F : fl_T) (k : Nat) (v : Int32) : (fl_V F k v).1 k = v := by simp [fl_V]
theorem fl_Vn (F : fl_T) {k j : Nat} (v : Int32) (h : j ≠ k) : (fl_V F k v).1 j = F.1 j := by simp [fl_V, h]
theorem fl_Aself (F : fl_T) (k : Nat) : fl_A F k (F.2.2 k) = F := by
  unfold fl_A
  have : (fun j => if j = k then F.2.2 k else F.2.2 j) = F.2.2 := by
    funext j
    by_cases h : j = k
    · simp [h]
    · simp [h]
  rw [this]
/-- how companions grow -/
def fl_aF (ab : Nat → Int32) (x : Int32) (w : Nat) (C : Nat → Int32) (k : Nat) : Nat → Int32 := if ab k = x then upd C k (C k ||| nI (pl_clr w k)) else C
section HD
variable {b a : Nat} {F : fl_T} {M0 : ah_h} {S : Nat → Int32} {n m : Nat}
theorem fl_acquaint (h : F.1 1 = nI m) (hm : m ≤ 12) {i w : Nat} (hi : i < 5) (hw : F.2.2 3 i = nI w) : fX2_acquaint (fl a F M0) a (nI i) = some (fl a (fl_A F 8 (pl_fd (fl_aF (F.2.2 4) (nI i) w) (F.2.2 8) 0 m)) M0) := by
  unfold fX2_acquaint
  rw [fl_ob, Option.bind_some]
  have := pl_loop (fun n C k => fX2_acquaint_2 n (fl a (fl_A F 8 C) M0) a (nI i) (nI k)) m (fl_aF (F.2.2 4) (nI i) w) (fun C => fl a (fl_A F 8 C) M0) (fun _ _ => True) ?_ (fun _ _ _ _ => trivial) ?_ ah_fu (F.2.2 8) 0 (by omega) (by unfold ah_fu; omega) trivial
  · rw [fl_Aself] at this
    exact this
  · intro n C k hk _
    show fX2_acquaint_2_b _ _ _ _ _ = _
    unfold fX2_acquaint_2_b fX2_acquaint_41 fl_aF
    rw [fl_i1, Option.bind_some, fl_Av, h, if_neg (nI_ge hk (by omega)), fl_r5, Option.bind_some, fl_ai (by decide) (by decide) (show k < fl_n 4 from (by show k < 12; omega)), Option.bind_some, fl_An _ _ (by decide), nI_1]
    by_cases hb : F.2.2 4 k = nI i
    · rw [if_pos hb, if_pos hb, fl_r9, Option.bind_some, fl_ai (by decide) (by decide) (show k < fl_n 8 from (by show k < 12; omega)), Option.bind_some, fl_r4, Option.bind_some, fl_ai (by decide) (by decide) (show i < fl_n 3 from hi), Option.bind_some, fl_A1, fl_An _ _ (by decide), hw, pl_nand (by omega), fl_si (by decide) (by decide) (show k < fl_n 8 from (by show k < 12; omega)), Option.bind_some, fl_AA, fl_A1]
    · rw [if_neg hb, if_neg hb]
  · intro n C _
    show fX2_acquaint_2_b _ _ _ _ _ = _
    unfold fX2_acquaint_2_b
    rw [fl_i1, Option.bind_some, fl_Av, h, if_pos (nI_le (Nat.le_refl _) (by omega))]
/-- the relation, seen from rows that differ in companions alone -/
theorem rf_sails (h : rf b M0 F S n m) {i : Nat} (hi : i < 5) : rf b M0 (fl_A F 8 (pl_fd (fl_aF (F.2.2 4) (nI i) (sp_cw S (nI i) m)) (F.2.2 8) 0 m)) (sp_sails S m (nI i)) n m := by
  obtain ⟨⟨hn, hm, k0, k1, k2, k3⟩, h2, h3, h4, h5, h6, h7⟩ := h
  have out := fun {q : Nat} (hq : ∀ k, q ≠ 13 + 5 * k + 4) => sp_sails_out S m (nI i) hq
  have rel : ∀ j, j < 12 → pl_fd (fl_aF (F.2.2 4) (nI i) (sp_cw S (nI i) m)) (F.2.2 8) 0 m j = sp_sails S m (nI i) (13 + 5 * j + 4) :=
    pl_fd_rel (f := fl_aF (F.2.2 4) (nI i) (sp_cw S (nI i) m)) (g := sp_sF (sp_cw S (nI i) m)) (fun _ C T => ∀ j, j < 12 → C j = T (13 + 5 * j + 4)) m 0 (F.2.2 8) S (fun j hj => (h6 j hj).2.2.2.2) (fun C T k _ hk hR j hj => by
      have hk12 : k < 12 := by omega
      unfold fl_aF sp_sF
      have e : (sp_cw S (nI i) m).testBit k = decide (F.2.2 4 k = nI i) := by
        rw [sp_cw_tb, (h6 k hk12).1]
        simp [show k < m by omega]
      rw [e]
      by_cases hc : F.2.2 4 k = nI i
      · rw [if_pos hc, if_pos (by simp [hc])]
        by_cases hjk : j = k
        · subst hjk
          rw [pk_us, pk_us, hR j hj]
        · rw [pk_un hjk, pk_un (by omega)]
          exact hR j hj
      · rw [if_neg hc, if_neg (by simp [hc])]
        exact hR j hj)
  refine ⟨⟨hn, hm, (out (fun k => by omega)).trans k0, (out (fun k => by omega)).trans k1, fun q hq => ?_, fun j hj => ?_⟩, h2, h3, h4.trans (out (fun k => by omega)).symm, fun q hq => ?_, fun j hj => ?_, fun q hq => ?_⟩
  · obtain ⟨kd, fg, e1, e2, e3, e4⟩ := k2 q hq
    exact ⟨kd, fg, e1, e2, (out (fun k => by omega)).trans e3, (out (fun k => by omega)).trans e4⟩
  · obtain ⟨q, e1, e2⟩ := k3 j hj
    exact ⟨q, e1, (out (fun k => by omega)).trans e2⟩
  · obtain ⟨c, kd, fg, e1, e2, e3, e4⟩ := h5 q hq
    exact ⟨c, kd, fg, e1, e2, e3, fun hqn => ⟨(out (fun k => by omega)).trans (e4 hqn).1, (out (fun k => by omega)).trans (e4 hqn).2⟩⟩
  · obtain ⟨e1, e2, e3, e4, e5⟩ := h6 j hj
    refine ⟨?_, ?_, ?_, ?_, ?_⟩
    · rw [fl_An _ _ (by decide), e1, out (fun k => by omega)]
    · rw [fl_An _ _ (by decide), e2, out (fun k => by omega)]
    · rw [fl_An _ _ (by decide), e3, out (fun k => by omega)]
    · rw [fl_An _ _ (by decide), e4, out (fun k => by omega)]
    · rw [fl_A1]
      exact rel j hj
  · rw [fl_An _ _ (by decide), h7 q hq, sp_sails_cw]
theorem fl_canMeet (h : rf b M0 F S n m) (x y : Int32) : fX2_canMeet (fl a F M0) a x y = some (if sp_is n x = 0 then 0 else if sp_is n y = 0 then 0 else if x = y then 0 else if sp_cw S x m = 0 then 0 else if sp_cw S y m = 0 then 0 else 1) := by
  obtain ⟨⟨hn, hm, k0, k1, k2, k3⟩, h2, h3, h4, h5, h6, h7⟩ := h
  have nn : ∀ z, (nI (sp_cw S z m) = 0) = (sp_cw S z m = 0) := fun z => propext (by
    rw [show (0 : Int32) = nI 0 from rfl, nI_eq (Nat.lt_of_lt_of_le (sp_cw_12 hm) (by decide)) (by decide)])
  unfold fX2_canMeet fX2_areUnlikeShips
  rw [fl_ob, Option.bind_some, Option.bind_some, fl_isShip h2, Option.bind_some, fl_isShip h2, Option.bind_some]
  have e10 : ¬ (1 : Int32) = 0 := by decide
  rcases sp_is_cases (n := n) (by omega) x with hx | ⟨i, hi, rfl, hx⟩
  · simp only [hx, if_true, Option.bind_some]
  · rcases sp_is_cases (n := n) (by omega) y with hy | ⟨j, hj, rfl, hy⟩
    · simp only [hx, hy, e10, if_true, if_false, Option.bind_some]
    · by_cases hij : nI i = nI j
      · simp only [hx, hy, e10, hij, if_true, if_false, Option.bind_some]
      · simp only [hx, hy, e10, hij, if_true, if_false, Option.bind_some]
        rw [fl_r4, Option.bind_some, fl_ai (by decide) (by decide) (show i < fl_n 3 from (by show i < 5; omega)), Option.bind_some, h7 i (by omega), Option.bind_some, fl_ai (by decide) (by decide) (show j < fl_n 3 from (by show j < 5; omega)), Option.bind_some, h7 j (by omega)]
        simp only [nn]
        split
        · rfl
        split <;> rfl
theorem fl_bring {g i j wi wj : Nat} (hg : g < 12) (hi : i < 5) (hj : j < 5) (hij : i ≠ j) (h1 : F.2.2 3 i = nI wi) (h2 : F.2.2 3 j = nI wj) : fX2_bring (fl a F M0) a (nI g) (nI i) (nI j) = some (fl a (fl_A (fl_A F 3 (upd (upd (F.2.2 3) i (nI (pl_clr wi g))) j (nI (wj ||| 2 ^ g)))) 4 (upd (F.2.2 4) g (nI j))) M0) := by
  unfold fX2_bring
  rw [fl_ob, Option.bind_some, fl_r4, Option.bind_some, fl_ai (by decide) (by decide) (show i < fl_n 3 from hi), Option.bind_some, h1, pl_nand (by omega), fl_si (by decide) (by decide) (show i < fl_n 3 from hi), Option.bind_some, fl_r4, Option.bind_some, fl_ai (by decide) (by decide) (show j < fl_n 3 from hj), Option.bind_some, fl_A1, pk_un (Ne.symm hij), h2, pl_orb (by omega), fl_si (by decide) (by decide) (show j < fl_n 3 from hj), Option.bind_some, fl_AA, fl_A1, fl_r5, Option.bind_some, fl_si (by decide) (by decide) (show g < fl_n 4 from hg), Option.bind_some, fl_An _ _ (by decide)]
/-- the swap of a meeting, in the class's words -/
def fl_sw (F : fl_T) (i j g1 g2 wi wj : Nat) : fl_T := fl_A (fl_V (fl_A (fl_A F 3 (upd (upd (upd (upd (F.2.2 3) i (nI (pl_clr wi g1))) j (nI (wj ||| 2 ^ g1))) j (nI (pl_clr (wj ||| 2 ^ g1) g2))) i (nI (pl_clr wi g1 ||| 2 ^ g2)))) 4 (upd (upd (F.2.2 4) g1 (nI j)) g2 (nI i))) 2 (F.1 2 + 1)) 7 (upd (upd (F.2.2 7) g1 (F.1 2 + 1)) g2 (F.1 2 + 1))
theorem fl_exchange (h : F.1 1 = nI m) (hm : m ≤ 12) {g1 g2 i j wi wj : Nat} (hg1 : g1 < m) (hg2 : g2 < m) (hi : i < 5) (hj : j < 5) (hij : i ≠ j) (h1 : F.2.2 3 i = nI wi) (h2 : F.2.2 3 j = nI wj) : fX2_exchange (fl a F M0) a (nI i) (nI j) (nI g1) (nI g2) = some (fl a (fl_sw F i j g1 g2 wi wj) M0) := by
  unfold fX2_exchange
  rw [fl_ob, Option.bind_some, fl_isMan h, Option.bind_some, sp_is_in (by omega) hg1, if_neg (by decide), fl_isMan h, Option.bind_some, sp_is_in (by omega) hg2, if_neg (by decide), fl_bring (by omega) hi hj hij h1 h2, Option.bind_some]
  rw [fl_bring (by omega) hj hi (Ne.symm hij) (wi := wj ||| 2 ^ g1) (wj := pl_clr wi g1) (by rw [fl_An _ _ (by decide), fl_A1, pk_us]) (by rw [fl_An _ _ (by decide), fl_A1, pk_un hij, pk_us]), Option.bind_some]
  have hg1' : g1 < fl_n 7 := by show g1 < 12; omega
  have hg2' : g2 < fl_n 7 := by show g2 < 12; omega
  generalize hGG : fl_A (fl_A (fl_A (fl_A F 3 _) 4 _) 3 _) 4 _ = G
  have v2 : ∀ (v : Int32) (f : Nat → Int32), (fl_A (fl_V G 2 v) 7 f).1 2 = v := fun v f => fl_V1 G 2 v
  rw [fl_i2, Option.bind_some, fl_p2, Option.bind_some, fl_r8, Option.bind_some, fl_i2, Option.bind_some, fl_V1, fl_si (by decide) (by decide) hg1', Option.bind_some, fl_r8, Option.bind_some, fl_i2, Option.bind_some, v2, fl_si (by decide) (by decide) hg2', Option.bind_some, fl_AA, fl_A1, ← hGG]
  congr 2
  unfold fl_sw
  refine Prod.ext rfl (Prod.ext rfl ?_)
  funext q
  show (if q = 7 then _ else (if q = 4 then _ else if q = 3 then _ else if q = 4 then _ else if q = 3 then _ else F.2.2 q)) = (if q = 7 then _ else (if q = 4 then _ else if q = 3 then _ else F.2.2 q))
  by_cases h7 : q = 7
  · subst h7; rfl
  · by_cases h4 : q = 4
    · subst h4; rfl
    · by_cases h3 : q = 3
      · subst h3; rfl
      · simp only [h7, h4, h3, if_false]
/-- .. and the relation goes on -/
theorem rf_swap (h : rf b M0 F S n m) {i j g1 g2 : Nat} (hi : i < n) (hj : j < n) (hij : i ≠ j) (hg1 : g1 < m) (hg2 : g2 < m) (e1 : S (13 + 5 * g1) = nI i) (e2 : S (13 + 5 * g2) = nI j) : rf b M0 (fl_sw F i j g1 g2 (sp_cw S (nI i) m) (sp_cw S (nI j) m)) (sp_swap S i j g1 g2) n m := by
  obtain ⟨⟨hn, hm, k0, k1, k2, k3⟩, h2, h3, h4, h5, h6, h7⟩ := h
  have hgg : g1 ≠ g2 := fun e => by
    rw [e, e2] at e1
    exact hij ((nI_eq (by omega) (by omega)).mp e1).symm
  have nij : ¬ nI j = nI i := fun e => hij ((nI_eq (by omega) (by omega)).mp e).symm
  have out : ∀ {q : Nat}, q ≠ 2 → (∀ k, q ≠ 13 + 5 * k) → (∀ k, q ≠ 13 + 5 * k + 3) → sp_swap S i j g1 g2 q = S q := fun h1 h2 h3 => by
    unfold sp_swap
    rw [pk_un (h3 g2), pk_un (h3 g1), pk_un (h2 g2), pk_un (h2 g1), pk_un h1]
  have ab : ∀ k, sp_swap S i j g1 g2 (13 + 5 * k) = if k = g2 then nI i else if k = g1 then nI j else S (13 + 5 * k) := fun k => by
    unfold sp_swap
    rw [pk_un (by omega), pk_un (by omega)]
    by_cases hk2 : k = g2
    · subst hk2
      rw [pk_us, if_pos rfl]
    · rw [pk_un (by omega), if_neg hk2]
      by_cases hk1 : k = g1
      · subst hk1
        rw [pk_us, if_pos rfl]
      · rw [pk_un (by omega), pk_un (by omega), if_neg hk1]
  have sc : ∀ k, sp_swap S i j g1 g2 (13 + 5 * k + 3) = if k = g2 then S 2 + 1 else if k = g1 then S 2 + 1 else S (13 + 5 * k + 3) := fun k => by
    unfold sp_swap
    by_cases hk2 : k = g2
    · subst hk2
      rw [pk_us, if_pos rfl]
    · rw [pk_un (show 13 + 5 * k + 3 ≠ 13 + 5 * g2 + 3 by omega), if_neg hk2]
      by_cases hk1 : k = g1
      · subst hk1
        rw [pk_us, if_pos rfl]
      · rw [pk_un (show 13 + 5 * k + 3 ≠ 13 + 5 * g1 + 3 by omega), pk_un (show 13 + 5 * k + 3 ≠ 13 + 5 * g2 by omega), pk_un (show 13 + 5 * k + 3 ≠ 13 + 5 * g1 by omega), pk_un (show 13 + 5 * k + 3 ≠ 2 by omega), if_neg hk1]
  have cwi : ∀ q, q < 5 → q ≠ i → q ≠ j → sp_cw (sp_swap S i j g1 g2) (nI q) m = sp_cw S (nI q) m := fun q hq hqi hqj => by
    apply Nat.eq_of_testBit_eq
    intro k
    rw [sp_cw_tb, sp_cw_tb, ab k]
    have nqi : ¬ nI i = nI q := fun e => hqi ((nI_eq (by omega) (by omega)).mp e).symm
    have nqj : ¬ nI j = nI q := fun e => hqj ((nI_eq (by omega) (by omega)).mp e).symm
    by_cases hk2 : k = g2
    · subst hk2
      rw [if_pos rfl, e2]
      simp [nqi, nqj]
    · by_cases hk1 : k = g1
      · subst hk1
        rw [if_neg hk2, if_pos rfl, e1]
        simp [nqi, nqj]
      · rw [if_neg hk2, if_neg hk1]
  have hwi : sp_cw S (nI i) m < 2 ^ 31 := Nat.lt_of_lt_of_le (sp_cw_12 hm) (by decide)
  have hwj : sp_cw S (nI j) m < 2 ^ 31 := Nat.lt_of_lt_of_le (sp_cw_12 hm) (by decide)
  have ci : sp_cw (sp_swap S i j g1 g2) (nI i) m = pl_clr (sp_cw S (nI i) m) g1 ||| 2 ^ g2 := by
    apply Nat.eq_of_testBit_eq
    intro k
    rw [sp_cw_tb, ab k, pl_or_tb, pl_clr_tb hwi (by omega), sp_cw_tb]
    by_cases hk2 : k = g2
    · subst hk2; simp [hg2]
    · by_cases hk1 : k = g1
      · subst hk1; simp [hk2, nij, Ne.symm hk2]
      · simp [hk2, hk1, Ne.symm hk2]
  have cj : sp_cw (sp_swap S i j g1 g2) (nI j) m = pl_clr (sp_cw S (nI j) m ||| 2 ^ g1) g2 := by
    apply Nat.eq_of_testBit_eq
    intro k
    rw [sp_cw_tb, ab k, pl_clr_tb (pl_or_lt hwj (by omega)) (by omega), pl_or_tb, sp_cw_tb]
    by_cases hk2 : k = g2
    · subst hk2; simp [Ne.symm nij]
    · by_cases hk1 : k = g1
      · subst hk1; simp [hk2, hg1]
      · simp [hk2, hk1, Ne.symm hk1]
  refine ⟨⟨hn, hm, (out (by omega) (fun k => by omega) (fun k => by omega)).trans k0, (out (by omega) (fun k => by omega) (fun k => by omega)).trans k1, fun q hq => ?_, fun k hk => ?_⟩, h2, h3, ?_, fun q hq => ?_, fun k hk => ?_, fun q hq => ?_⟩
  · obtain ⟨kd, fg, f1, f2, f3, f4⟩ := k2 q hq
    exact ⟨kd, fg, f1, f2, (out (by omega) (fun k => by omega) (fun k => by omega)).trans f3, (out (by omega) (fun k => by omega) (fun k => by omega)).trans f4⟩
  · rw [ab k]
    by_cases hk2 : k = g2
    · exact ⟨i, hi, by rw [if_pos hk2]⟩
    · by_cases hk1 : k = g1
      · exact ⟨j, hj, by rw [if_neg hk2, if_pos hk1]⟩
      · rw [if_neg hk2, if_neg hk1]
        exact k3 k hk
  · show F.1 2 + 1 = _
    unfold sp_swap
    rw [pk_un (by omega), pk_un (by omega), pk_un (by omega), pk_un (by omega), pk_us, h4]
  · obtain ⟨c, kd, fg, f1, f2, f3, f4⟩ := h5 q hq
    exact ⟨c, kd, fg, f1, f2, f3, fun hqn => ⟨(out (by omega) (fun k => by omega) (fun k => by omega)).trans (f4 hqn).1, (out (by omega) (fun k => by omega) (fun k => by omega)).trans (f4 hqn).2⟩⟩
  · obtain ⟨f1, f2, f3, f4, f5⟩ := h6 k hk
    refine ⟨?_, ?_, ?_, ?_, ?_⟩
    · show upd (upd (F.2.2 4) g1 (nI j)) g2 (nI i) k = _
      rw [ab k]
      by_cases hk2 : k = g2
      · subst hk2; rw [pk_us, if_pos rfl]
      · rw [pk_un hk2, if_neg hk2]
        by_cases hk1 : k = g1
        · subst hk1; rw [pk_us, if_pos rfl]
        · rw [pk_un hk1, if_neg hk1, f1]
    · show F.2.2 5 k = _
      rw [f2, out (by omega) (fun q => by omega) (fun q => by omega)]
    · show F.2.2 6 k = _
      rw [f3, out (by omega) (fun q => by omega) (fun q => by omega)]
    · show upd (upd (F.2.2 7) g1 (F.1 2 + 1)) g2 (F.1 2 + 1) k = _
      rw [sc k]
      by_cases hk2 : k = g2
      · subst hk2; rw [pk_us, if_pos rfl, h4]
      · rw [pk_un hk2, if_neg hk2]
        by_cases hk1 : k = g1
        · subst hk1; rw [pk_us, if_pos rfl, h4]
        · rw [pk_un hk1, if_neg hk1, f4]
    · show F.2.2 8 k = _
      rw [f5, out (by omega) (fun q => by omega) (fun q => by omega)]
  · show upd (upd (upd (upd (F.2.2 3) i _) j _) j _) i _ q = _
    by_cases hqi : q = i
    · subst hqi; rw [pk_us, ci]
    · rw [pk_un hqi]
      by_cases hqj : q = j
      · subst hqj; rw [pk_us, cj]
      · rw [pk_un hqj, pk_un hqj, pk_un hqi, h7 q hq, cwi q hq hqi hqj]
/-- the class holds a meeting -/
theorem rf_hold (h : rf b M0 F S n m) (ha : rf_f b a) {i j g1 g2 : Nat} (hi : i < n) (hj : j < n) (hij : i ≠ j) (hwi : sp_cw S (nI i) m ≠ 0) (hwj : sp_cw S (nI j) m ≠ 0) (e1 : sp_gv S m i = some g1) (e2 : sp_gv S m j = some g2) : ∃ F', fX2_holdMeeting (fl a F M0) a (nI i) (nI j) = some (1, fl a F' M0) ∧ rf b M0 F' (sp_mt S m i j g1 g2) n m := by
  obtain ⟨hS, h2, h3, -, -, -, h7⟩ := id h
  obtain ⟨q1, f1, hg1, f2⟩ := sp_gv_some hS hi hwi
  cases e1.symm.trans f1
  obtain ⟨q2, f3, hg2, f4⟩ := sp_gv_some hS hj hwj
  cases e2.symm.trans f3
  have hn := hS.1
  have hm := hS.2.1
  have r1 := rf_swap h hi hj hij hg1 hg2 f2 f4
  have r2 := rf_sails r1 (i := i) (by omega)
  have r3 := rf_sails r2 (i := j) (by omega)
  refine ⟨_, ?_, r3⟩
  unfold fX2_holdMeeting
  have nij : ¬ nI i = nI j := fun e => hij ((nI_eq (by omega) (by omega)).mp e)
  rw [fl_ob, Option.bind_some, fl_canMeet h, Option.bind_some, sp_is_in (by omega) hi, sp_is_in (by omega) hj]
  rw [if_neg (show ¬ (if (1 : Int32) = 0 then 0 else if (1 : Int32) = 0 then 0 else if nI i = nI j then 0 else if sp_cw S (nI i) m = 0 then 0 else if sp_cw S (nI j) m = 0 then 0 else 1 : Int32) = 0 by rw [if_neg (by decide), if_neg (by decide), if_neg nij, if_neg hwi, if_neg hwj]; decide)]
  rw [rf_giver h ha hi, Option.bind_some, rf_giver h ha hj, Option.bind_some, e1, e2]
  show (fX2_exchange (fl a F M0) a (nI i) (nI j) (nI g1) (nI g2)).bind _ = _
  rw [fl_exchange h3 hm hg1 hg2 (by omega) (by omega) hij (h7 i (by omega)) (h7 j (by omega)), Option.bind_some]
  rw [fl_acquaint r1.2.2.1 hm (by omega) (r1.2.2.2.2.2.2 i (by omega)), Option.bind_some]
  rw [fl_acquaint r2.2.2.1 hm (by omega) (r2.2.2.2.2.2.2 j (by omega)), Option.bind_some]
end HD
