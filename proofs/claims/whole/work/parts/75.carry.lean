/-! PURE LEVEL, 36: a statement is carried out -/
theorem sp_scn_dig {E : Nat → Int32} {s : Nat} : ∀ (r p : Nat), sp_scn E s r p = none → ∀ j, j + 1 < r → ¬ E (p + j) < 48 ∧ ¬ 57 < E (p + j)
  | 0, _, _, j, h => absurd h (by omega)
  | r + 1, p, h, j, hj => by
    unfold sp_scn at h
    by_cases c : s ≤ p
    · rw [if_pos c] at h; cases h
    rw [if_neg c] at h
    by_cases c2 : (if r = 0 then E p = 59 else ¬ E p < 48 ∧ ¬ 57 < E p)
    · rw [if_pos c2] at h
      cases j with
      | zero => rw [if_neg (by omega)] at c2; exact c2
      | succ j =>
        have := sp_scn_dig r (p + 1) h j (by omega)
        rw [show p + 1 + j = p + (j + 1) by omega] at this
        exact this
    · rw [if_neg c2] at h; cases h
theorem sp_sta_dig {E : Nat → Int32} {s p : Nat} (h : sp_sta E s p = none) : ∀ j, j + 1 < sp_sg (E p) → ¬ E (p + 1 + j) < 48 ∧ ¬ 57 < E (p + 1 + j) := by
  obtain ⟨-, h2, h3⟩ := sp_sta_none h
  unfold sp_sta at h
  rw [if_neg (by omega), if_neg h2] at h
  exact sp_scn_dig _ _ h
theorem sp_dig {e : Int32} (h1 : ¬ e < 48) (h2 : ¬ 57 < e) : ∃ i, i < 10 ∧ e - 48 = nI i := by
  obtain ⟨j, hj, rfl⟩ := nI_of (x := e) (fun h => h1 (by
    rw [Int32.lt_iff_toInt_lt] at h ⊢
    have : (0 : Int32).toInt = 0 := rfl
    have : (48 : Int32).toInt = 48 := rfl
    omega))
  rw [show (48 : Int32) = nI 48 from rfl, nI_ltI hj (by decide)] at h1
  rw [show (57 : Int32) = nI 57 from rfl, nI_ltI (by decide) hj] at h2
  exact ⟨j - 48, by omega, by rw [show (48 : Int32) = nI 48 from rfl, pk_sub (by omega)]⟩
/-- a man more -/
def sp_nm (S : Nat → Int32) (m : Nat) (x y w : Int32) : Nat → Int32 := upd (upd (upd (upd (upd (upd S (13 + 5 * m) x) (13 + 5 * m + 1) y) (13 + 5 * m + 2) w) (13 + 5 * m + 3) 0) (13 + 5 * m + 4) 0) 1 (nI (m + 1))
/-- a ship more -/
def sp_nsh (S : Nat → Int32) (n : Nat) (x y : Int32) : Nat → Int32 := upd (upd (upd S (3 + 2 * n) x) (3 + 2 * n + 1) y) 0 (nI (n + 1))
/-- what a statement does, if it can be done -/
def sp_ca (S : Nat → Int32) (n m : Nat) (c x y w : Int32) : Option ((Nat → Int32) × Nat × Nat) :=
  if c = 109 then (if sp_is n x = 0 then none else if 3 < y then none else if 3 < w then none else if m = 12 then none else some (sp_sails (sp_nm S m x y w) (m + 1) x, n, m + 1))
  else if c = 115 then (if 7 < x then none else if n = 5 then none else some (sp_nsh S n x y, n + 1, m))
  else if sp_mm S n m x y = 0 then none else some (sp_go S n m x y, n, m)
theorem sp_nm_out {S : Nat → Int32} {m q : Nat} {x y w : Int32} (h1 : q ≠ 1) (h2 : q < 13 + 5 * m ∨ 13 + 5 * m + 5 ≤ q) : sp_nm S m x y w q = S q := by
  unfold sp_nm
  rw [pk_un h1, pk_un (by omega), pk_un (by omega), pk_un (by omega), pk_un (by omega), pk_un (by omega)]
theorem sp_nsh_out {S : Nat → Int32} {n q : Nat} {x y : Int32} (h0 : q ≠ 0) (h1 : q ≠ 3 + 2 * n) (h2 : q ≠ 3 + 2 * n + 1) : sp_nsh S n x y q = S q := by
  unfold sp_nsh
  rw [pk_un h0, pk_un h2, pk_un h1]
theorem sp_cw_none {S : Nat → Int32} {n m : Nat} (h : rf_S S n m) : sp_cw S (nI n) m = 0 := by
  obtain ⟨hn, hm, -, -, -, h3⟩ := h
  apply Nat.eq_of_testBit_eq
  intro j
  rw [sp_cw_tb, Nat.zero_testBit]
  by_cases hj : j < m
  · obtain ⟨i, hi, e⟩ := h3 j hj
    rw [e, decide_eq_true hj, decide_eq_false (fun q => by have := (nI_eq (a := i) (b := n) (by omega) (by omega)).mp q; omega)]
    rfl
  · rw [decide_eq_false hj]; rfl
section CARRY
variable {b a : Nat} {F : fl_T} {M M0 : ah_h} {S : Nat → Int32} {n m z : Nat} {τ : md_T}
theorem rf_nm (h : rf b M F S n m) (hm : m < 12) {i : Nat} (hi : i < n) (y w : Int32) : rf b M (fl_V (fl_A (fl_A (fl_A (fl_A (fl_A (fl_A F 4 (upd (F.2.2 4) m (nI i))) 5 (upd (F.2.2 5) m y)) 6 (upd (F.2.2 6) m w)) 7 (upd (F.2.2 7) m 0)) 8 (upd (F.2.2 8) m 0)) 3 (upd (F.2.2 3) i (nI (sp_cw S (nI i) m ||| 2 ^ m)))) 1 (nI (m + 1))) (sp_nm S m (nI i) y w) n (m + 1) := by
  obtain ⟨⟨hn, -, h0, h1, h2, h3⟩, f0, f1, f2, f5, f6, f7⟩ := h
  have e0 : sp_nm S m (nI i) y w (13 + 5 * m) = nI i := by
    unfold sp_nm
    rw [pk_un (by omega), pk_un (by omega), pk_un (by omega), pk_un (by omega), pk_un (by omega), pk_us]
  have e1 : sp_nm S m (nI i) y w (13 + 5 * m + 1) = y := by
    unfold sp_nm
    rw [pk_un (by omega), pk_un (by omega), pk_un (by omega), pk_un (by omega), pk_us]
  have e2 : sp_nm S m (nI i) y w (13 + 5 * m + 2) = w := by
    unfold sp_nm
    rw [pk_un (by omega), pk_un (by omega), pk_un (by omega), pk_us]
  have e3 : sp_nm S m (nI i) y w (13 + 5 * m + 3) = 0 := by
    unfold sp_nm
    rw [pk_un (by omega), pk_un (by omega), pk_us]
  have e4 : sp_nm S m (nI i) y w (13 + 5 * m + 4) = 0 := by
    unfold sp_nm
    rw [pk_un (by omega), pk_us]
  have hcw : ∀ x, sp_cw (sp_nm S m (nI i) y w) x m = sp_cw S x m := fun x => sp_cw_congrP (fun k hk => sp_nm_out (by omega) (by omega)) x
  refine ⟨⟨hn, by omega, by rw [sp_nm_out (by omega) (by omega)]; exact h0, pk_us, fun k hk => ?_, fun j hj => ?_⟩, f0, rfl, by rw [sp_nm_out (by omega) (by omega)]; exact f2, fun k hk => ?_, fun j hj => ?_, fun k hk => ?_⟩
  · rw [sp_nm_out (by omega) (by omega), sp_nm_out (by omega) (by omega)]; exact h2 k hk
  · by_cases e : j = m
    · subst e; exact ⟨i, hi, e0⟩
    · rw [sp_nm_out (by omega) (by omega)]; exact h3 j (by omega)
  · obtain ⟨c, kd, fg, q1, q2, q3, q4⟩ := f5 k hk
    exact ⟨c, kd, fg, q1, q2, q3, fun hh => by rw [sp_nm_out (by omega) (by omega), sp_nm_out (by omega) (by omega)]; exact q4 hh⟩
  · show upd (F.2.2 4) m (nI i) j = _ ∧ upd (F.2.2 5) m y j = _ ∧ upd (F.2.2 6) m w j = _ ∧ upd (F.2.2 7) m 0 j = _ ∧ upd (F.2.2 8) m 0 j = _
    by_cases e : j = m
    · subst e
      rw [pk_us, pk_us, pk_us, pk_us, pk_us, e0, e1, e2, e3, e4]
      exact ⟨rfl, rfl, rfl, rfl, rfl⟩
    · rw [pk_un e, pk_un e, pk_un e, pk_un e, pk_un e, sp_nm_out (by omega) (by omega), sp_nm_out (by omega) (by omega), sp_nm_out (by omega) (by omega), sp_nm_out (by omega) (by omega), sp_nm_out (by omega) (by omega)]
      exact f6 j hj
  · show upd (F.2.2 3) i _ k = _
    rw [sp_cw_succ, e0, hcw]
    by_cases e : k = i
    · subst e; rw [pk_us, if_pos rfl]
    · rw [pk_un e, if_neg (fun q => e ((nI_eq (by omega) (by omega)).mp q).symm), f7 k hk]
theorem rf_ns (h : rf b M F S n m) (hn : n < 5) {c kd fg : Nat} (hc : rf_a b c) (hp : cp M c kd fg) : rf b M (fl_V (fl_A (fl_C F (va_up F.2.1 n (some c))) 3 (upd (F.2.2 3) n 0)) 0 (nI (n + 1))) (sp_nsh S n (nI kd) (nI fg)) (n + 1) m := by
  obtain ⟨hS, f0, f1, f2, f5, f6, f7⟩ := id h
  obtain ⟨-, hm, h0, h1, h2, h3⟩ := id hS
  have e0 : sp_nsh S n (nI kd) (nI fg) (3 + 2 * n) = nI kd := by
    unfold sp_nsh
    rw [pk_un (by omega), pk_un (by omega), pk_us]
  have e1 : sp_nsh S n (nI kd) (nI fg) (3 + 2 * n + 1) = nI fg := by
    unfold sp_nsh
    rw [pk_un (by omega), pk_us]
  have hcw : ∀ x, sp_cw (sp_nsh S n (nI kd) (nI fg)) x m = sp_cw S x m := fun x => sp_cw_congrP (fun k hk => sp_nsh_out (by omega) (by omega) (by omega)) x
  refine ⟨⟨by omega, hm, pk_us, by rw [sp_nsh_out (by omega) (by omega) (by omega)]; exact h1, fun k hk => ?_, fun j hj => ?_⟩, rfl, f1, by rw [sp_nsh_out (by omega) (by omega) (by omega)]; exact f2, fun k hk => ?_, fun j hj => ?_, fun k hk => ?_⟩
  · by_cases e : k = n
    · subst e; exact ⟨kd, fg, hp.2.1, hp.2.2, e0, e1⟩
    · rw [sp_nsh_out (by omega) (by omega) (by omega), sp_nsh_out (by omega) (by omega) (by omega)]; exact h2 k (by omega)
  · obtain ⟨i, q1, q2⟩ := h3 j hj
    exact ⟨i, by omega, by rw [sp_nsh_out (by omega) (by omega) (by omega)]; exact q2⟩
  · show ∃ c' kd' fg', va_up F.2.1 n (some c) k = some c' ∧ _
    by_cases e : k = n
    · subst e
      exact ⟨c, kd, fg, by unfold va_up; rw [if_pos rfl], hc, hp, fun _ => ⟨e0, e1⟩⟩
    · obtain ⟨c', kd', fg', q1, q2, q3, q4⟩ := f5 k hk
      exact ⟨c', kd', fg', by unfold va_up; rw [if_neg e]; exact q1, q2, q3, fun hh => by rw [sp_nsh_out (by omega) (by omega) (by omega), sp_nsh_out (by omega) (by omega) (by omega)]; exact q4 (by omega)⟩
  · show F.2.2 4 j = _ ∧ F.2.2 5 j = _ ∧ F.2.2 6 j = _ ∧ F.2.2 7 j = _ ∧ F.2.2 8 j = _
    rw [sp_nsh_out (by omega) (by omega) (by omega), sp_nsh_out (by omega) (by omega) (by omega), sp_nsh_out (by omega) (by omega) (by omega), sp_nsh_out (by omega) (by omega) (by omega), sp_nsh_out (by omega) (by omega) (by omega)]
    exact f6 j hj
  · show upd (F.2.2 3) n 0 k = _
    rw [hcw]
    by_cases e : k = n
    · subst e
      rw [pk_us, sp_cw_none hS]
      rfl
    · rw [pk_un e, f7 k hk]
/-- the class takes a man -/
theorem c_takesMan (h : rf b M F S n m) {x : Int32} {j l : Nat} (hj : j < 10) (hl : l < 10) : (sp_ca S n m 109 x (nI j) (nI l) = none ∧ fX2_takesMan (fl a F M) a x (nI j) (nI l) = some (0, fl a F M)) ∨ ∃ S' F', sp_ca S n m 109 x (nI j) (nI l) = some (S', n, m + 1) ∧ fX2_takesMan (fl a F M) a x (nI j) (nI l) = some (1, fl a F' M) ∧ rf b M F' S' n (m + 1) := by
  obtain ⟨⟨hn, hm, -, -, -, -⟩, f0, f1, -, -, -, f7⟩ := id h
  have no : fX2_takesMan_30 (fl a F M) a x (nI j) (nI l) = some (0, fl a F M) := by
    unfold fX2_takesMan_30 fX2_takesMan_31
    rw [if_pos rfl]
  unfold fX2_takesMan sp_ca
  rw [if_pos rfl, fl_ob, Option.bind_some, fl_isShip f0, Option.bind_some, no]
  rcases sp_is_cases (n := n) (by omega) x with hx | ⟨i, hi, rfl, hx⟩
  · rw [if_pos hx, if_pos hx]; exact Or.inl ⟨rfl, rfl⟩
  rw [hx, if_neg (show ¬ (1 : Int32) = 0 by decide), if_neg (show ¬ (1 : Int32) = 0 by decide), if_neg (nI_pos (by omega))]
  by_cases c1 : 4 ≤ j
  · rw [if_pos (show (3 : Int32) < nI j from nI_lt (a := 3) (by omega) (by omega)), if_pos (show (4 : Int32) ≤ nI j from nI_le (a := 4) c1 (by omega))]
    exact Or.inl ⟨rfl, rfl⟩
  rw [if_neg (show ¬ (3 : Int32) < nI j from nI_nlt (b := j) (a := 3) (by omega) (by decide)), if_neg (show ¬ (4 : Int32) ≤ nI j from nI_ge (b := 4) (by omega) (by decide)), if_neg (nI_pos (by omega))]
  by_cases c2 : 4 ≤ l
  · rw [if_pos (show (3 : Int32) < nI l from nI_lt (a := 3) (by omega) (by omega)), if_pos (show (4 : Int32) ≤ nI l from nI_le (a := 4) c2 (by omega))]
    exact Or.inl ⟨rfl, rfl⟩
  rw [if_neg (show ¬ (3 : Int32) < nI l from nI_nlt (b := l) (a := 3) (by omega) (by decide)), if_neg (show ¬ (4 : Int32) ≤ nI l from nI_ge (b := 4) (by omega) (by decide))]
  unfold fX2_takesMan_31
  rw [if_neg (show ¬ (1 : Int32) = 0 by decide), fl_i1, Option.bind_some, f1]
  by_cases c3 : m = 12
  · subst c3
    rw [if_pos rfl, if_neg (show ¬ nI 12 < 12 by decide)]
    exact Or.inl ⟨rfl, rfl⟩
  have hm12 : m < 12 := by omega
  rw [if_neg c3, if_pos (show nI m < (12 : Int32) from nI_lt (b := 12) hm12 (by decide))]
  have r1 := rf_nm h hm12 hi (nI j) (nI l)
  have r2 := rf_sails r1 (i := i) (by omega)
  refine Or.inr ⟨_, _, rfl, ?_, r2⟩
  have sh : nI (sp_cw S (nI i) m) ||| ((1 : Int32) <<< (nI m &&& 31)) = nI (sp_cw S (nI i) m ||| 2 ^ m) := pl_orb (by omega)
  have q := fl_acquaint (a := a) (M0 := M) r1.2.2.1 (by omega) (i := i) (by omega) (r1.2.2.2.2.2.2 i (by omega))
  have i12 : ∀ k, 4 ≤ k → m < fl_n k := fun k hk => by unfold fl_n; rw [if_neg (by omega)]; exact hm12
  simp only [fl_r4, fl_r5, fl_r6, fl_r7, fl_r8, fl_r9, fl_i1, Option.bind_some, fl_Av, f1, fl_si (k := 4) (by decide) (by decide) (i12 4 (by decide)), fl_si (k := 5) (by decide) (by decide) (i12 5 (by decide)), fl_si (k := 6) (by decide) (by decide) (i12 6 (by decide)), fl_si (k := 7) (by decide) (by decide) (i12 7 (by decide)), fl_si (k := 8) (by decide) (by decide) (i12 8 (by decide)), fl_ai (k := 3) (i := i) (by decide) (by decide) (show i < fl_n 3 from (by show i < 5; omega)), fl_si (k := 3) (i := i) (by decide) (by decide) (show i < fl_n 3 from (by show i < 5; omega)), fl_p1]
  have q' := q
  simp only [fl_An _ _ (show (5 : Nat) ≠ 4 by decide), fl_An _ _ (show (6 : Nat) ≠ 5 by decide), fl_An _ _ (show (6 : Nat) ≠ 4 by decide), fl_An _ _ (show (7 : Nat) ≠ 6 by decide), fl_An _ _ (show (7 : Nat) ≠ 5 by decide), fl_An _ _ (show (7 : Nat) ≠ 4 by decide), fl_An _ _ (show (8 : Nat) ≠ 7 by decide), fl_An _ _ (show (8 : Nat) ≠ 6 by decide), fl_An _ _ (show (8 : Nat) ≠ 5 by decide), fl_An _ _ (show (8 : Nat) ≠ 4 by decide), fl_An _ _ (show (3 : Nat) ≠ 8 by decide), fl_An _ _ (show (3 : Nat) ≠ 7 by decide), fl_An _ _ (show (3 : Nat) ≠ 6 by decide), fl_An _ _ (show (3 : Nat) ≠ 5 by decide), fl_An _ _ (show (3 : Nat) ≠ 4 by decide), f7 i (by omega), sh, nI_1]
  rw [q', Option.bind_some]
/-- what the class does at a ship's statement: the captain is made before it is known whether there is room for the ship -/
def c_shp (M : ah_h) (z x0 : Nat) (v1 v2 : Int32) : Option (Int32 × ah_h × Nat) := (fX10_isKindAndFigure M v1 v2).bind fun v11 => if v11 = 0 then (some (0, M, z)) else ((fX10_captainOf M z v1 v2).bind fun v13 => (fX2_takesShip v13.2.1 x0 v13.1).bind fun v14 => if v14.1 = 0 then (some (0, v14.2, v13.2.2)) else (some (1, v14.2, v13.2.2)))
/-- the class takes a ship -/
theorem c_takesShip (h : rf b M F S n m) (ha : a = b + 10) (hz : b + 69 ≤ z) (hN : ∀ q, z ≤ q → M q = none) {kd fg : Nat} (hk : kd < 10) (hf : fg < 10) (w : Int32) : (∃ M1 z', sp_ca S n m 115 (nI kd) (nI fg) w = none ∧ c_shp (fl a F M) z a (nI kd) (nI fg) = some (0, fl a F M1, z') ∧ (∀ q, q < z → M1 q = M q) ∧ z ≤ z' ∧ z' ≤ z + 1 ∧ (∀ q, z' ≤ q → M1 q = none)) ∨ ∃ S' F' M1, sp_ca S n m 115 (nI kd) (nI fg) w = some (S', n + 1, m) ∧ c_shp (fl a F M) z a (nI kd) (nI fg) = some (1, fl a F' M1, z + 1) ∧ rf b M1 F' S' (n + 1) m ∧ ∀ q, q ≠ z → M1 q = M q := by
  obtain ⟨⟨hn, hm, -, -, -, -⟩, f0, f1, -, -, -, f7⟩ := id h
  unfold c_shp sp_ca
  rw [if_neg (show ¬ (115 : Int32) = 109 by decide), if_pos rfl, c_kf, Option.bind_some, sp_is_in (n := 10) (by decide) hf]
  by_cases c1 : 8 ≤ kd
  · have e : sp_is 8 (nI kd) = 0 := by
      unfold sp_is
      rw [if_neg (nI_pos (by omega)), if_pos (nI_le c1 (by omega))]
    rw [if_pos (show (7 : Int32) < nI kd from nI_lt (a := 7) (by omega) (by omega)), e, if_pos rfl, if_pos rfl]
    exact Or.inl ⟨M, z, rfl, rfl, fun _ _ => rfl, Nat.le_refl _, by omega, hN⟩
  rw [if_neg (show ¬ (7 : Int32) < nI kd from nI_nlt (b := kd) (a := 7) (by omega) (by decide)), sp_is_in (n := 8) (by decide) (show kd < 8 by omega), if_neg (show ¬ (1 : Int32) = 0 by decide), if_neg (show ¬ (1 : Int32) = 0 by decide)]
  obtain ⟨N, eN, hcp, oN⟩ := c_cap (fl a F M) z (show kd < 8 by omega) hf
  obtain ⟨M1, rfl, o1, z1⟩ := fl_swap_cap (a := a) (z := z) (by omega) oN
  rw [eN, Option.bind_some]
  dsimp only
  unfold fX2_takesShip
  rw [fl_ob, Option.bind_some, fl_i0, Option.bind_some, f0]
  by_cases c2 : n = 5
  · subst c2
    rw [if_pos rfl, if_neg (show ¬ nI 5 < 5 by decide), Option.bind_some]
    dsimp only
    rw [if_pos rfl]
    exact Or.inl ⟨M1, z + 1, rfl, rfl, fun q hq => o1 q (by omega), by omega, Nat.le_refl _, fun q hq => by rw [o1 q (by omega)]; exact hN q (by omega)⟩
  have hn5 : n < 5 := by omega
  have hcp1 : cp M1 z kd fg := ⟨by rw [z1]; exact hcp.1, hcp.2⟩
  have mono : ∀ q e, M q = some e → M1 q = some e := fun q e hq => by
    rw [o1 q (fun ee => by rw [ee, hN z (Nat.le_refl _)] at hq; cases hq)]; exact hq
  have h1 : rf b M1 F S n m := rf_keepS h (fun c e _ => mono c e)
  have r1 := rf_ns h1 hn5 (show rf_a b z from Or.inr (Or.inr (Or.inr hz))) hcp1
  rw [if_neg c2, if_pos (show nI n < (5 : Int32) from nI_lt (b := 5) hn5 (by decide))]
  refine Or.inr ⟨_, _, M1, rfl, ?_, r1, o1⟩
  rw [fl_r3, Option.bind_some, Option.bind_some, cp_oc hcp, Option.bind_some, fl_sr hn5, Option.bind_some, fl_r4, Option.bind_some, fl_i0, Option.bind_some, show (fl_C F (va_up F.2.1 n (some z))).1 0 = nI n from f0, fl_si (k := 3) (by decide) (by decide) (show n < fl_n 3 from hn5), Option.bind_some, fl_i0, Option.bind_some, show (fl_A (fl_C F (va_up F.2.1 n (some z))) 3 (upd ((fl_C F (va_up F.2.1 n (some z))).2.2 3) n 0)).1 0 = nI n from f0, fl_p0, Option.bind_some, Option.bind_some, nI_1]
  dsimp only
  rw [if_neg (show ¬ (1 : Int32) = 0 by decide)]
  rfl
/-- the class carries a statement out -/
theorem c_carry (h : rf b M F S n m) (hz : b + 69 ≤ z) (hN : ∀ q, z ≤ q → M q = none) {hh s p : Nat} {el : Nat → Int32} (H : shA (fl (b + 10) F M) hh none (nI 0) (nI s) el) (hs : s ≤ 100) (ht : sp_sta el s p = none) : (∃ M1 z', sp_ca S n m (el p) (el (p + 1) - 48) (el (p + 2) - 48) (el (p + 3) - 48) = none ∧ fX10_isCarriedOut (fl (b + 10) F M) z (b + 10) hh (nI p) = some (0, fl (b + 10) F M1, z') ∧ (∀ q, q < z → M1 q = M q) ∧ z ≤ z' ∧ z' ≤ z + 1 ∧ (∀ q, z' ≤ q → M1 q = none)) ∨ ∃ S' n' m' F' M1 z', sp_ca S n m (el p) (el (p + 1) - 48) (el (p + 2) - 48) (el (p + 3) - 48) = some (S', n', m') ∧ fX10_isCarriedOut (fl (b + 10) F M) z (b + 10) hh (nI p) = some (1, fl (b + 10) F' M1, z') ∧ rf b M1 F' S' n' m' ∧ (∀ q, q < z → M1 q = M q) ∧ z ≤ z' ∧ z' ≤ z + 1 ∧ (∀ q, z' ≤ q → M1 q = none) := by
  obtain ⟨t1, t2, t3⟩ := sp_sta_none ht
  have td := sp_sta_dig ht
  have hsg := sp_sg_cases (el p)
  have dig : ∀ k, p + k < s → fX10_digit (fl (b + 10) F M) hh (nI (p + k)) = some (el (p + k) - 48) := fun k hk => by
    unfold fX10_digit
    rw [H.at rfl hs hk, Option.bind_some]
  obtain ⟨i1, hi1, x1⟩ := sp_dig (td 0 (by omega)).1 (td 0 (by omega)).2
  obtain ⟨i2, hi2, x2⟩ := sp_dig (td 1 (by omega)).1 (td 1 (by omega)).2
  rw [Nat.add_zero] at x1
  rw [show p + 1 + 1 = p + 2 by omega] at x2
  have d1 := dig 1 (by omega)
  have d2 := dig 2 (by omega)
  have d3 := dig 3 (by omega)
  unfold fX10_isCarriedOut
  rw [show nI p + 1 = nI (p + 1) from nI_1 p, show nI p + 2 = nI (p + 2) from nI_add p 2, show nI p + 3 = nI (p + 3) from nI_add p 3, d1, Option.bind_some, d2, Option.bind_some, H.at rfl hs t3, Option.bind_some, x1, x2]
  rcases hsg with ⟨q, -⟩ | ⟨q1, q2⟩ | ⟨q1, q2, q3⟩
  · exact absurd q t2
  · obtain ⟨i3, hi3, x3⟩ := sp_dig (td 2 (by omega)).1 (td 2 (by omega)).2
    rw [show p + 1 + 2 = p + 3 by omega] at x3
    rw [q2, if_pos rfl, d3, Option.bind_some, x3]
    rcases c_takesMan (a := b + 10) h (x := nI i1) hi2 hi3 with ⟨g1, g2⟩ | ⟨S', F', g1, g2, g3⟩
    · rw [g2, Option.bind_some, if_pos (Or.inl rfl)]
      exact Or.inl ⟨M, z, g1, rfl, fun _ _ => rfl, Nat.le_refl _, by omega, hN⟩
    · rw [g2, Option.bind_some, if_pos (Or.inr rfl)]
      exact Or.inr ⟨S', _, _, F', M, z, g1, rfl, g3, fun _ _ => rfl, Nat.le_refl _, by omega, hN⟩
  · rw [if_neg q3]
    rcases q2 with q2 | q2
    · rw [q2, if_pos rfl]
      rcases c_takesShip (a := b + 10) h rfl hz hN hi1 hi2 (el (p + 3) - 48) with ⟨M1, z', g1, g2, g3⟩ | ⟨S', F', M1, g1, g2, g3, g4⟩
      · exact Or.inl ⟨M1, z', g1, g2, g3⟩
      · exact Or.inr ⟨S', _, _, F', M1, z + 1, g1, g2, g3, fun q hq => g4 q (by omega), by omega, by omega, fun q hq => by rw [g4 q (by omega)]; exact hN q (by omega)⟩
    · rw [q2, if_neg (by decide), if_pos rfl]
      obtain ⟨F', f1, f2⟩ := fl_step (a := b + 10) h (Or.inr (Or.inl rfl)) (nI i1) (nI i2)
      rw [f1, Option.bind_some]
      unfold sp_ca
      rw [if_neg (by decide), if_neg (by decide)]
      rcases sp_mm_01 S n m (nI i1) (nI i2) with e | e
      · rw [if_pos (Or.inl e), if_pos e, e]
        refine Or.inl ⟨M, z, rfl, ?_, fun _ _ => rfl, Nat.le_refl _, by omega, hN⟩
        have : fX2_holdMeeting (fl (b + 10) F M) (b + 10) (nI i1) (nI i2) = some (0, fl (b + 10) F M) := by
          unfold fX2_holdMeeting
          rw [fl_ob, Option.bind_some, fl_may h, Option.bind_some, if_pos e]
        rw [this, e] at f1
        rw [(Prod.mk.inj (Option.some.inj f1)).2]
      · rw [if_pos (Or.inr e), if_neg (by rw [e]; decide), e]
        exact Or.inr ⟨_, _, _, F', M, z, rfl, rfl, f2, fun _ _ => rfl, Nat.le_refl _, by omega, hN⟩
/-! .. and the reference -/
theorem md_n0 : ah_ai (md a τ M0) (a + 11) 0 = some (τ.1 11 0) := md_ai (k := 11) (i := 0) (by decide) (by decide) (by decide) (by decide)
theorem md_n1 : ah_ai (md a τ M0) (a + 11) 1 = some (τ.1 11 1) := md_ai (k := 11) (i := 1) (by decide) (by decide) (by decide) (by decide)
theorem md_n2 : ah_ai (md a τ M0) (a + 11) 2 = some (τ.1 11 2) := md_ai (k := 11) (i := 2) (by decide) (by decide) (by decide) (by decide)
/-- what a statement leaves as it was -/
def tg (τ τ' : md_T) : Prop := (∀ k, k ≠ 1 → k ≠ 11 → τ'.1 k = τ.1 k) ∧ ∀ k, k ≠ 12 → k ≠ 13 → k ≠ 14 → τ'.2.2 k = τ.2.2 k
theorem tg.rfl' : tg τ τ := ⟨fun _ _ _ => rfl, fun _ _ _ _ => rfl⟩
theorem tg.trans {τ τ' τ'' : md_T} (h : tg τ τ') (h' : tg τ' τ'') : tg τ τ'' := ⟨fun k h1 h2 => (h'.1 k h1 h2).trans (h.1 k h1 h2), fun k h1 h2 h3 => (h'.2 k h1 h2 h3).trans (h.2 k h1 h2 h3)⟩
theorem tn.tg {τ τ' : md_T} (h : tn τ τ') : tg τ τ' := ⟨fun k _ h2 => h.1 k h2, fun k _ _ h3 => h.2.2 k h3⟩
theorem tg_A (f : Nat → Int32) : tg τ (md_A τ 1 f) := ⟨fun k h1 _ => by simp [md_A, h1], fun _ _ _ _ => rfl⟩
theorem tg_V (k : Nat) (hk : k = 12 ∨ k = 13 ∨ k = 14) (v : Int32) : tg τ (md_V τ k v) := ⟨fun _ _ _ => rfl, fun j h1 h2 h3 => md_Vn _ _ (by omega)⟩
theorem m_comes (h : rf_S (τ.1 1) n m) {c : Int32} (hc : c = 109 ∨ (c = 115 ∨ c = 120) ∧ ¬ c = 109) (w : Int32) (hw : c = 109 → τ.1 11 2 = w) : (sp_ca (τ.1 1) n m c (τ.1 11 0) (τ.1 11 1) w = none ∧ fX11_comes (md a τ M0) a c = some (0, md a τ M0)) ∨ ∃ S' n' m' τ', sp_ca (τ.1 1) n m c (τ.1 11 0) (τ.1 11 1) w = some (S', n', m') ∧ fX11_comes (md a τ M0) a c = some (1, md a τ' M0) ∧ τ'.1 1 = S' ∧ tg τ τ' ∧ τ'.2.2 14 = τ.2.2 14 := by
  obtain ⟨hn, hm, h0, h1, h2, h3⟩ := id h
  unfold fX11_comes sp_ca
  rw [md_ob, Option.bind_some, md_r18, Option.bind_some, md_n0, Option.bind_some, Option.bind_some, md_n1, Option.bind_some]
  rcases hc with hc | ⟨hc, hc9⟩
  · rw [if_pos hc, if_pos hc, md_isShip h0 (by omega), Option.bind_some]
    have hw := hw hc
    by_cases c1 : sp_is n (τ.1 11 0) = 0
    · rw [if_pos c1, if_pos c1]; exact Or.inl ⟨rfl, rfl⟩
    rw [if_neg c1, if_neg c1]
    by_cases c2 : 3 < τ.1 11 1
    · rw [if_pos c2, if_pos c2]; exact Or.inl ⟨rfl, rfl⟩
    rw [if_neg c2, if_neg c2, Option.bind_some, md_n2, Option.bind_some, hw]
    by_cases c3 : 3 < w
    · rw [if_pos c3, if_pos c3]; exact Or.inl ⟨rfl, rfl⟩
    rw [if_neg c3, if_neg c3, md_r0, Option.bind_some, md_s1, Option.bind_some, h1]
    by_cases c4 : m = 12
    · subst c4
      rw [if_pos rfl, if_pos (show nI 12 = 12 from rfl)]; exact Or.inl ⟨rfl, rfl⟩
    have hm12 : m < 12 := by omega
    rw [if_neg c4, if_neg (show ¬ nI m = 12 from fun q => c4 ((nI_eq (b := 12) (by omega) (by decide)).mp q))]
    refine Or.inr ⟨_, _, _, md_A τ 1 (sp_sails (sp_nm (τ.1 1) m (τ.1 11 0) (τ.1 11 1) w) (m + 1) (τ.1 11 0)), rfl, ?_, md_A1 _ _ _, tg_A _, rfl⟩
    have k11 : ∀ f : Nat → Int32, (md_A τ 1 f).1 11 = τ.1 11 := fun f => rfl
    simp only [Option.bind_some, md_s1, h1, md_puts0 hm12, md_puts1 hm12, md_puts2 hm12, md_puts3 hm12, md_puts4 hm12, md_A1, md_AA, md_r18, md_n2, k11, hw, md_r0]
    have e1 : upd (upd (upd (upd (upd (τ.1 1) (13 + 5 * m) (τ.1 11 0)) (13 + 5 * m + 1) (τ.1 11 1)) (13 + 5 * m + 2) w) (13 + 5 * m + 3) 0) (13 + 5 * m + 4) 0 1 = nI m := by
      rw [pk_un (by omega), pk_un (by omega), pk_un (by omega), pk_un (by omega), pk_un (by omega)]; exact h1
    rw [e1, md_w1, Option.bind_some, nI_1, md_A1, md_AA]
    show (fX11_sails (md a (md_A τ 1 (sp_nm (τ.1 1) m (τ.1 11 0) (τ.1 11 1) w)) M0) a (τ.1 11 0)).bind _ = _
    rw [md_sails (m := m + 1) (by rw [md_A1]; exact pk_us) (by omega), Option.bind_some, md_A1, md_AA]
  · rw [if_neg hc9, if_neg hc9]
    rcases hc with hc | hc
    · rw [if_pos hc, if_pos hc]
      by_cases c1 : 7 < τ.1 11 0
      · rw [if_pos c1, if_pos c1]; exact Or.inl ⟨rfl, rfl⟩
      rw [if_neg c1, if_neg c1, md_r0, Option.bind_some, md_s0, Option.bind_some, h0]
      by_cases c2 : n = 5
      · subst c2
        rw [if_pos rfl, if_pos (show nI 5 = 5 from rfl)]; exact Or.inl ⟨rfl, rfl⟩
      have hn5 : n < 5 := by omega
      rw [if_neg c2, if_neg (show ¬ nI n = 5 from fun q => c2 ((nI_eq (b := 5) (by omega) (by decide)).mp q))]
      refine Or.inr ⟨_, _, _, md_A τ 1 (sp_nsh (τ.1 1) n (τ.1 11 0) (τ.1 11 1)), rfl, ?_, md_A1 _ _ _, tg_A _, rfl⟩
      have e3 : (3 + 2 * nI n : Int32) = nI (3 + 2 * n) := by rw [show (3 : Int32) = nI 3 from rfl, show (2 : Int32) = nI 2 from rfl, pk_mul, nI_add]
      rw [Option.bind_some, Option.bind_some, md_s0, Option.bind_some, h0, e3, md_si (k := 1) (by decide) (by decide) (by decide) (show 3 + 2 * n < 73 by omega), Option.bind_some, md_r0, Option.bind_some, Option.bind_some, md_s0, Option.bind_some, md_A1, pk_un (by omega), h0, e3, nI_1, md_si (k := 1) (by decide) (by decide) (by decide) (show 3 + 2 * n + 1 < 73 by omega), Option.bind_some, md_A1, md_AA, md_r0, Option.bind_some, md_s0, Option.bind_some, md_A1, pk_un (by omega), pk_un (by omega), h0, nI_1, md_w0, Option.bind_some, md_A1, md_AA]
      rfl
    · rw [if_neg (show ¬ c = 115 by rw [hc]; decide), if_neg (show ¬ c = 115 by rw [hc]; decide), md_may h, Option.bind_some]
      by_cases c1 : sp_mm (τ.1 1) n m (τ.1 11 0) (τ.1 11 1) = 0
      · rw [if_pos c1, if_pos c1]; exact Or.inl ⟨rfl, rfl⟩
      · have em := (sp_mm_01 (τ.1 1) n m (τ.1 11 0) (τ.1 11 1)).resolve_left c1
        rw [if_neg c1, if_neg c1, md_step h em, Option.bind_some]
        refine Or.inr ⟨_, _, _, _, rfl, rfl, ?_, ((tg_A _).trans (tg_V 12 (Or.inl rfl) _)).trans (tg_V 13 (Or.inr (Or.inl rfl)) _), rfl⟩
        rw [md_Vf, md_Vf, md_A1]
end CARRY
