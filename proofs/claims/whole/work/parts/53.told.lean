/-! PURE LEVEL, 14: rows of meetings, copies of the reference's row -/
/-! literals -/
theorem pl_le {x : Int32} (N : Nat) {k : Nat} (hx : x = nI N) (h : N ≤ k) (hk : k < 2 ^ 31) : x ≤ nI k := by rw [hx]; exact nI_le h hk
theorem pl_nle {x : Int32} (N : Nat) {k : Nat} (hx : x = nI N) (h : k < N) (hN : N < 2 ^ 31) : ¬ x ≤ nI k := by rw [hx]; exact nI_ge h hN
theorem pl_el {x : Int32} (N : Nat) {k : Nat} (hx : x = nI N) (h : k ≤ N) (hN : N < 2 ^ 31) : nI k ≤ x := by rw [hx]; exact nI_le h hN
theorem pl_nel {x : Int32} (N : Nat) {k : Nat} (hx : x = nI N) (h : N < k) (hk : k < 2 ^ 31) : ¬ nI k ≤ x := by rw [hx]; exact nI_ge h hk
/-- the reference's shelves are in range -/
def ts (τ : md_T) : Prop := ∀ d, d < 8 → τ.1 5 d = 0 ∨ (τ.1 5 d = 1 ∧ ∃ kd fg, kd < 8 ∧ fg < 10 ∧ τ.1 9 d = nI kd ∧ τ.1 10 d = nI fg) ∨ (τ.1 5 d = 2 ∧ ∃ t s, t < 3 ∧ s ≤ 100 ∧ τ.1 6 d = nI t ∧ τ.1 7 d = nI s)
theorem cs_ts {b : Nat} {M : ah_h} {τ : md_T} {n m : Nat} {F1 : fl_T} (h : cs b M τ n m F1) : ts τ := fun d hd => by
  obtain ⟨cap, so, si, el, H, hc⟩ := h.sh d hd
  rcases hc with ⟨k1, -⟩ | ⟨k1, -, c, kd, fg, -, -, k2, k3, k4⟩ | ⟨k1, -, t, s, ht, hs, -, -, k2, k3, -⟩
  · exact Or.inl k1
  · exact Or.inr (Or.inl ⟨k1, kd, fg, k2.2.1, k2.2.2, k3, k4⟩)
  · exact Or.inr (Or.inr ⟨k1, t, s, ht, hs, k2, k3⟩)
theorem sp_wr_cases {τ : md_T} (h : ts τ) (x o : Int32) : (sp_wr τ x o < 0 ∧ ¬ sp_wr τ x o = 0 ∧ ¬ 0 ≤ sp_wr τ x o) ∨ (sp_wr τ x o = 0 ∧ ∃ d t s, d < 8 ∧ x = nI d ∧ τ.1 5 d = 2 ∧ t < 3 ∧ s ≤ 100 ∧ τ.1 6 d = nI t ∧ τ.1 7 d = nI s ∧ (o < 0 ∨ nI t = o)) := by
  unfold sp_wr
  rcases sp_is_cases (n := 8) (by decide) x with hx | ⟨d, hd, rfl, hx⟩
  · rw [if_pos hx]; exact Or.inl (by decide)
  rw [if_neg (by rw [hx]; decide), nI_clamp (by omega)]
  rcases h d hd with k1 | ⟨k1, -⟩ | ⟨k1, t, s, ht, hs, k2, k3⟩
  · rw [if_pos k1]; exact Or.inl (by decide)
  · rw [if_neg (by rw [k1]; decide), if_neg (by rw [k1]; decide)]; exact Or.inl (by decide)
  · rw [if_neg (by rw [k1]; decide), if_pos k1]
    by_cases ho : o < 0
    · rw [if_pos ho]
      exact Or.inr ⟨rfl, d, t, s, hd, rfl, k1, ht, hs, k2, k3, Or.inl ho⟩
    rw [if_neg ho, k2]
    by_cases he : nI t = o
    · rw [if_pos he]
      exact Or.inr ⟨rfl, d, t, s, hd, rfl, k1, ht, hs, k2, k3, Or.inr he⟩
    · rw [if_neg he]; exact Or.inl (by decide)
/-- the class's shelf, where it is a row -/
theorem cs_row {b : Nat} {M : ah_h} {τ : md_T} {n m : Nat} {F1 : fl_T} (h : cs b M τ n m F1) {d t s : Nat} (hd : d < 8) (k5 : τ.1 5 d = 2) (ht : t < 3) (k6 : τ.1 6 d = nI t) (k7 : τ.1 7 d = nI s) (hs : s ≤ 100) : ∃ el, shA M (b + 29 + 2 * d) none (nI t) (nI s) el ∧ ∀ k, k < 100 → el k = τ.1 8 (100 * d + k) := by
  obtain ⟨cap, so, si, el, H, hc⟩ := h.sh d hd
  rcases hc with ⟨k1, -⟩ | ⟨k1, -⟩ | ⟨k1, e0, t', s', ht', hs', e1, e2, e3, e4, e5⟩
  · rw [k1] at k5; exact absurd k5 (by decide)
  · rw [k1] at k5; exact absurd k5 (by decide)
  · subst e0
    refine ⟨el, ?_, e5⟩
    rw [e3] at k6
    rw [e4] at k7
    rw [e1, e2, k6, k7] at H
    exact H
/-- two unlike ships -/
def sp_un (n : Nat) (x y : Int32) : Int32 := if sp_is n x = 0 then 0 else if sp_is n y = 0 then 0 else if x = y then 0 else 1
theorem sp_un_01 (n : Nat) (x y : Int32) : sp_un n x y = 0 ∨ sp_un n x y = 1 := by
  unfold sp_un
  split
  · exact Or.inl rfl
  split
  · exact Or.inl rfl
  split
  · exact Or.inl rfl
  · exact Or.inr rfl
/-- the refusal of a row of meetings -/
def sp_wm (τ : md_T) (n : Nat) (x : Int32) : Int32 := if sp_wr τ x 0 = 0 then (if (τ.1 7 x.toNatClampNeg).toNatClampNeg % 2 = 0 ∧ (τ.1 7 x.toNatClampNeg).toNatClampNeg ≤ 24 ∧ ∀ k, k < (τ.1 7 x.toNatClampNeg).toNatClampNeg / 2 → sp_un n (τ.1 8 (100 * x.toNatClampNeg + 2 * k)) (τ.1 8 (100 * x.toNatClampNeg + 2 * k + 1)) = 1 then 0 else -13) else sp_wr τ x 0
/-- K meetings told on shelf d -/
def sp_td (τ : md_T) (n d K : Nat) : Prop := d < 8 ∧ τ.1 5 d = 2 ∧ τ.1 6 d = nI 0 ∧ τ.1 7 d = nI (2 * K) ∧ K ≤ 12 ∧ ∀ k, k < K → sp_un n (τ.1 8 (100 * d + 2 * k)) (τ.1 8 (100 * d + 2 * k + 1)) = 1
theorem sp_wm_cases {τ : md_T} (h : ts τ) (n : Nat) (x : Int32) : (sp_wm τ n x < 0 ∧ ¬ sp_wm τ n x = 0 ∧ ¬ 0 ≤ sp_wm τ n x) ∨ (sp_wm τ n x = 0 ∧ ∃ d K, x = nI d ∧ sp_td τ n d K) := by
  unfold sp_wm
  rcases sp_wr_cases h x 0 with ⟨h1, h2, h3⟩ | ⟨h1, d, t, s, hd, rfl, k5, ht, hs, k6, k7, ho⟩
  · rw [if_neg h2]; exact Or.inl ⟨h1, h2, h3⟩
  · rw [if_pos h1, nI_clamp (by omega), k7, nI_clamp (by omega)]
    split
    · next hh =>
      refine Or.inr ⟨rfl, d, s / 2, rfl, hd, k5, ?_, ?_, by omega, hh.2.2⟩
      · rcases ho with ho | ho
        · exact absurd ho (by decide)
        · rw [k6, ho]; rfl
      · rw [k7, show 2 * (s / 2) = s by omega]
    · exact Or.inl (by decide)
section WM
variable {b a : Nat} {M M0 : ah_h} {τ : md_T} {n m : Nat} {F1 : fl_T}
theorem md_e8 {d k : Nat} {x : Int32} (hd : d < 8) (hk : k < 100) (hx : x = nI k) : ah_ai (md a τ M0) (a + 8) (100 * nI d + x) = some (τ.1 8 (100 * d + k)) := by
  subst hx
  rw [show (100 : Int32) = nI 100 from rfl, pk_mul, nI_add, md_k8 (by omega)]
theorem md_wrongMeetings (hS : rf_S (τ.1 1) n m) (h : ts τ) (x : Int32) : fX11_wrongMeetings (md a τ M0) a x = some (sp_wm τ n x) := by
  have hn := hS.1
  unfold fX11_wrongMeetings sp_wm
  rw [md_ob, Option.bind_some, md_wrongRow, Option.bind_some]
  rcases sp_wr_cases h x 0 with ⟨h1, h2, h3⟩ | ⟨h1, d, t, s, hd, rfl, k5, ht, hs, k6, k7, ho⟩
  · rw [if_neg h2, if_neg h2]
  rw [if_pos h1, if_pos h1]
  simp only [md_r6, md_k7 hd, Option.bind_some, nI_clamp (show d < 2 ^ 31 by omega), k7, nI_clamp (show s < 2 ^ 31 by omega)]
  have h2e : (nI s - nI s / 2 * 2 = 0) = (s % 2 = 0) := by
    rw [show (2 : Int32) = nI 2 from rfl, pk_rem (by omega) (by decide) (by decide), show (0 : Int32) = nI 0 from rfl, nI_eq (by omega) (by decide)]
  simp only [h2e]
  by_cases h2 : s % 2 = 0
  · rw [if_pos h2]
    by_cases h24 : s ≤ 24
    · rw [if_pos (pl_el (x := 24) 24 rfl h24 (by decide))]
      have key := pl_run (fun f (_ : Unit) k => fX11_wrongMeetings_40 (md a τ M0) f a (nI d) (nI (2 * k))) (s / 2) (fun k _ => ∀ j, j < k → sp_un n (τ.1 8 (100 * d + 2 * j)) (τ.1 8 (100 * d + 2 * j + 1)) = 1) (fun r => r = if ∀ k, k < s / 2 → sp_un n (τ.1 8 (100 * d + 2 * k)) (τ.1 8 (100 * d + 2 * k + 1)) = 1 then 0 else -13) (fun f _ k hk hI => ?_) (fun f _ hI => ?_) ah_fu () 0 (by omega) (by unfold ah_fu; omega) (fun j hj => absurd hj (Nat.not_lt_zero _))
      · obtain ⟨r, e1, e2⟩ := key
        show fX11_wrongMeetings_40 (md a τ M0) ah_fu a (nI d) (nI (2 * 0)) = _
        rw [e1, e2]
        simp only [h2, h24, true_and]
      · have eb : fX11_wrongMeetings_40 (md a τ M0) (f + 1) a (nI d) (nI (2 * k)) = if sp_un n (τ.1 8 (100 * d + 2 * k)) (τ.1 8 (100 * d + 2 * k + 1)) = 0 then some (-13) else fX11_wrongMeetings_40 (md a τ M0) f a (nI d) (nI (2 * (k + 1))) := by
          show fX11_wrongMeetings_40_b _ _ _ _ _ = _
          unfold fX11_wrongMeetings_40_b sp_un
          rw [md_r6, Option.bind_some, md_k7 hd, Option.bind_some, k7, if_neg (nI_ge (by omega) (by omega)), md_r7, Option.bind_some, md_e8 hd (show 2 * k < 100 by omega) rfl, Option.bind_some, Option.bind_some]
          rw [show (100 * nI d + nI (2 * k) + 1 : Int32) = nI (100 * d + 2 * k + 1) by rw [show (100 : Int32) = nI 100 from rfl, pk_mul, nI_add, nI_1], md_k8 (by omega), Option.bind_some, md_isShip hS.2.2.1 (by omega), Option.bind_some, md_isShip hS.2.2.1 (by omega), Option.bind_some]
          rw [show (nI (2 * k) + 2 : Int32) = nI (2 * (k + 1)) by rw [show (2 : Int32) = nI 2 from rfl, nI_add]; rfl]
          by_cases c1 : sp_is n (τ.1 8 (100 * d + 2 * k)) = 0
          · simp [c1]
          by_cases c2 : sp_is n (τ.1 8 (100 * d + 2 * k + 1)) = 0
          · simp [c1, c2]
          by_cases c3 : τ.1 8 (100 * d + 2 * k) = τ.1 8 (100 * d + 2 * k + 1)
          · simp [c1, c2, c3]
          · simp [c1, c2, c3]
        rcases sp_un_01 n (τ.1 8 (100 * d + 2 * k)) (τ.1 8 (100 * d + 2 * k + 1)) with hu | hu
        · refine Or.inr ⟨-13, by rw [eb, if_pos hu], ?_⟩
          rw [if_neg (fun hh => by rw [hh k hk] at hu; exact absurd hu (by decide))]
        · refine Or.inl ⟨(), by rw [eb, if_neg (by rw [hu]; decide)], fun j hj => ?_⟩
          rcases (show j < k ∨ j = k by omega) with hj | rfl
          · exact hI j hj
          · exact hu
      · refine ⟨0, ?_, by rw [if_pos hI]⟩
        show fX11_wrongMeetings_40_b _ _ _ _ _ = _
        unfold fX11_wrongMeetings_40_b
        rw [md_r6, Option.bind_some, md_k7 hd, Option.bind_some, k7, if_pos (nI_le (by omega) (by omega))]
    · rw [if_neg (pl_nel (x := 24) 24 rfl (by omega) (by omega))]
      simp [h24]
  · rw [if_neg h2]
    simp [h2]
theorem fa_isShip {N : ah_h} {F : fl_T} (h : fa N a F) (h0 : F.1 0 = nI n) (x : Int32) : fX2_isShip N a x = some (sp_is n x) := by rw [← h]; exact fl_isShip h0 x
theorem fa_isMan {N : ah_h} {F : fl_T} (h : fa N a F) (h0 : F.1 1 = nI m) (x : Int32) : fX2_isMan N a x = some (sp_is m x) := by rw [← h]; exact fl_isMan h0 x
theorem fa_ob {N : ah_h} {F : fl_T} (h : fa N a F) : ah_ob N a 2 = some (fl_f a F.1) := by rw [← h]; exact fl_ob
theorem fa_un {N : ah_h} {F : fl_T} (h : fa N a F) (h0 : F.1 0 = nI n) (x y : Int32) : fX2_areUnlikeShips N a x y = some (sp_un n x y) := by
  unfold fX2_areUnlikeShips sp_un
  rw [fa_ob h, Option.bind_some, fa_isShip h h0, Option.bind_some, fa_isShip h h0, Option.bind_some]
  split
  · rfl
  split
  · rfl
  split <;> rfl
theorem cs_wm (h : cs b M τ n m F1) (x : Int32) : fX10_refusalOfMeetings M b x = some (sp_wm τ n x) := by
  have hS := h.r1.1
  have hn := hS.1
  have h0 := h.r1.2.1
  unfold fX10_refusalOfMeetings sp_wm
  rw [h.o.ob, Option.bind_some, co_refBytes h.o h.sh, Option.bind_some]
  rcases sp_wr_cases (cs_ts h) x 0 with ⟨h1, h2, h3⟩ | ⟨h1, d, t, s, hd, rfl, k5, ht, hs, k6, k7, ho⟩
  · rw [if_neg h3, if_neg h2]
  obtain ⟨el, H, he⟩ := cs_row h hd k5 ht k6 k7 hs
  rw [h1, if_pos (by decide), if_pos rfl]
  simp only [h.o.r4, h.o.sh hd, H.i2, Option.bind_some, nI_clamp (show d < 2 ^ 31 by omega), k7, nI_clamp (show s < 2 ^ 31 by omega)]
  have h2e : (nI s - nI s / 2 * 2 = 0) = (s % 2 = 0) := by
    rw [show (2 : Int32) = nI 2 from rfl, pk_rem (by omega) (by decide) (by decide), show (0 : Int32) = nI 0 from rfl, nI_eq (by omega) (by decide)]
  simp only [h2e]
  by_cases h2 : s % 2 = 0
  · rw [if_pos h2]
    by_cases h24 : s ≤ 24
    · rw [if_pos (pl_el (x := 24) 24 rfl h24 (by decide))]
      have key := pl_run (fun f (_ : Unit) k => fX10_refusalOfMeetings_43 M f b (b + 29 + 2 * d) (nI k)) (s / 2) (fun k _ => ∀ j, j < k → sp_un n (τ.1 8 (100 * d + 2 * j)) (τ.1 8 (100 * d + 2 * j + 1)) = 1) (fun r => r = if ∀ k, k < s / 2 → sp_un n (τ.1 8 (100 * d + 2 * k)) (τ.1 8 (100 * d + 2 * k + 1)) = 1 then 0 else -13) (fun f _ k hk hI => ?_) (fun f _ hI => ?_) ah_fu () 0 (by omega) (by unfold ah_fu; omega) (fun j hj => absurd hj (Nat.not_lt_zero _))
      · obtain ⟨r, e1, e2⟩ := key
        show fX10_refusalOfMeetings_43 M ah_fu b (b + 29 + 2 * d) (nI 0) = _
        rw [e1, e2]
        simp only [h2, h24, true_and]
      · have eb : fX10_refusalOfMeetings_43 M (f + 1) b (b + 29 + 2 * d) (nI k) = if sp_un n (τ.1 8 (100 * d + 2 * k)) (τ.1 8 (100 * d + 2 * k + 1)) = 0 then some (-13) else fX10_refusalOfMeetings_43 M f b (b + 29 + 2 * d) (nI (k + 1)) := by
          show fX10_refusalOfMeetings_43_b _ _ _ _ _ = _
          unfold fX10_refusalOfMeetings_43_b
          rw [H.meetings rfl hs, Option.bind_some, if_neg (nI_ge (by omega) (by omega)), h.o.r0, Option.bind_some, H.one rfl hs (by omega), Option.bind_some, H.other rfl hs (by omega), Option.bind_some, he _ (by omega), he _ (by omega), fa_un h.f1 h0, Option.bind_some, nI_1]
          rfl
        rcases sp_un_01 n (τ.1 8 (100 * d + 2 * k)) (τ.1 8 (100 * d + 2 * k + 1)) with hu | hu
        · refine Or.inr ⟨-13, by rw [eb, if_pos hu], ?_⟩
          rw [if_neg (fun hh => by rw [hh k hk] at hu; exact absurd hu (by decide))]
        · refine Or.inl ⟨(), by rw [eb, if_neg (by rw [hu]; decide)], fun j hj => ?_⟩
          rcases (show j < k ∨ j = k by omega) with hj | rfl
          · exact hI j hj
          · exact hu
      · refine ⟨0, ?_, by rw [if_pos hI]⟩
        show fX10_refusalOfMeetings_43_b _ _ _ _ _ = _
        unfold fX10_refusalOfMeetings_43_b
        rw [H.meetings rfl hs, Option.bind_some, if_pos (nI_le (Nat.le_refl _) (by omega))]
    · rw [if_neg (pl_nel (x := 24) 24 rfl (by omega) (by omega))]
      simp [h24]
  · rw [if_neg h2]
    simp [h2]
/-- .. with a man -/
def sp_mw (τ : md_T) (n m : Nat) (x y : Int32) : Int32 := if sp_is m x = 0 then -1 else sp_wm τ n y
theorem sp_mw_cases (h : ts τ) (hm : m ≤ 12) (n : Nat) (x y : Int32) : (sp_mw τ n m x y < 0 ∧ ¬ sp_mw τ n m x y = 0 ∧ ¬ 0 ≤ sp_mw τ n m x y) ∨ (sp_mw τ n m x y = 0 ∧ ∃ g d K, g < m ∧ x = nI g ∧ y = nI d ∧ sp_td τ n d K) := by
  unfold sp_mw
  rcases sp_is_cases (n := m) (by omega) x with hx | ⟨g, hg, rfl, hx⟩
  · rw [if_pos hx]; exact Or.inl (by decide)
  · rw [if_neg (by rw [hx]; decide)]
    rcases sp_wm_cases h n y with h1 | ⟨h1, d, K, e, h2⟩
    · exact Or.inl h1
    · exact Or.inr ⟨h1, g, d, K, hg, rfl, e, h2⟩
theorem cs_mw (h : cs b M τ n m F1) (x y : Int32) : fX10_refusalOfManAndMeetings M b x y = some (sp_mw τ n m x y) := by
  unfold fX10_refusalOfManAndMeetings sp_mw
  rw [h.o.ob, Option.bind_some, h.o.r0, Option.bind_some, fa_isMan h.f1 h.r1.2.2.1, Option.bind_some, cs_wm h, Option.bind_some]
  split <;> rfl
/-- copies of the reference's rows -/
theorem md_copies {k k' : Nat} (hk : 1 ≤ k) (hk4 : k ≤ 4) (hk' : 1 ≤ k') (hk4' : k' ≤ 4) (hne : k ≠ k') : ∃ g, fX11_copies (md a τ M0) (a + k) (a + k') = some (md a (md_A τ k' g) M0) ∧ sq (τ.1 k) g := by
  have n73 : ∀ k, 1 ≤ k → k ≤ 4 → md_n k = 73 := by
    intro k h1 h4
    rcases (show k = 1 ∨ k = 2 ∨ k = 3 ∨ k = 4 by omega) with rfl | rfl | rfl | rfl <;> rfl
  unfold fX11_copies
  have key := pl_run (fun f (g : Nat → Int32) j => fX11_copies_2 f (md a (md_A τ k' g) M0) (a + k) (a + k') (nI j)) 73 (fun j g => ∀ q, q < j → g q = τ.1 k q) (fun r => ∃ g, r = md a (md_A τ k' g) M0 ∧ sq (τ.1 k) g) (fun f g j hj hI => ?_) (fun f g hI => ?_) ah_fu (τ.1 k') 0 (by omega) (by decide) (fun j hj => absurd hj (Nat.not_lt_zero _))
  · obtain ⟨r, e1, g, er, e2⟩ := key
    rw [md_Aself, er] at e1
    exact ⟨g, e1, e2⟩
  · refine Or.inl ⟨upd g j (τ.1 k j), ?_, fun q hq => ?_⟩
    · show fX11_copies_2_b _ _ _ _ _ = _
      unfold fX11_copies_2_b
      rw [if_neg (pl_nle (x := 73) 73 rfl hj (by decide)), md_ai (by omega) (by omega) (by omega) (by rw [n73 k hk hk4]; exact hj), Option.bind_some, md_si (by omega) (by omega) (by omega) (by rw [n73 k' hk' hk4']; exact hj), Option.bind_some, md_AA, md_A1, nI_1]
      rw [show (md_A τ k' g).1 k = τ.1 k by simp [md_A, hne]]
    · by_cases hqj : q = j
      · subst hqj; rw [pk_us]
      · rw [pk_un hqj]; exact hI q (by omega)
  · refine ⟨_, ?_, g, rfl, hI⟩
    show fX11_copies_2_b _ _ _ _ _ = _
    unfold fX11_copies_2_b
    rw [if_pos (pl_le (x := 73) 73 rfl (Nat.le_refl _) (by decide))]
theorem md_begins : ∃ g, fX11_begins (md a τ M0) a = some (md a (md_A τ 4 g) M0) ∧ sq (τ.1 1) g := by
  obtain ⟨g, e1, e2⟩ := md_copies (a := a) (τ := τ) (M0 := M0) (k := 1) (k' := 4) (by decide) (by decide) (by decide) (by decide) (by decide)
  refine ⟨g, ?_, e2⟩
  unfold fX11_begins
  rw [md_ob, Option.bind_some, md_r0, Option.bind_some, md_r3, Option.bind_some, e1, Option.bind_some]
theorem md_ends : ∃ g, fX11_ends (md a τ M0) a = some (md a (md_A τ 1 g) M0) ∧ sq (τ.1 4) g := by
  obtain ⟨g, e1, e2⟩ := md_copies (a := a) (τ := τ) (M0 := M0) (k := 4) (k' := 1) (by decide) (by decide) (by decide) (by decide) (by decide)
  refine ⟨g, ?_, e2⟩
  unfold fX11_ends
  rw [md_ob, Option.bind_some, md_r3, Option.bind_some, md_r0, Option.bind_some, e1, Option.bind_some]
end WM
/-- while it has something in mind -/
def ti (τ τ' : md_T) : Prop := sq (τ.1 1) (τ'.1 4) ∧ tf τ τ'
theorem ti_end {a : Nat} {M0 : ah_h} {τ τ' : md_T} (h : ti τ τ') : ∃ τ'', fX11_ends (md a τ' M0) a = some (md a τ'' M0) ∧ te τ τ'' ∧ ti τ τ'' := by
  obtain ⟨g, e1, e2⟩ := md_ends (a := a) (τ := τ') (M0 := M0)
  refine ⟨_, e1, ⟨fun q hq => ?_, ?_⟩, ?_, ?_⟩
  · rw [md_A1, e2 q hq, h.1 q hq]
  · exact ⟨fun q hq => h.2.1 q hq, fun k h1 h2 => by rw [← h.2.2.1 k h1 h2]; simp [md_A, show k ≠ 1 by omega], h.2.2.2⟩
  · exact h.1
  · exact ⟨fun q hq => h.2.1 q hq, fun k h1 h2 => by rw [← h.2.2.1 k h1 h2]; simp [md_A, show k ≠ 1 by omega], h.2.2.2⟩
theorem ti_begin {a : Nat} {M0 : ah_h} {τ : md_T} : ∃ τ', fX11_begins (md a τ M0) a = some (md a τ' M0) ∧ ti τ τ' ∧ τ'.1 1 = τ.1 1 := by
  obtain ⟨g, e1, e2⟩ := md_begins (a := a) (τ := τ) (M0 := M0)
  refine ⟨_, e1, ⟨fun q hq => ?_, fun q hq => rfl, fun k h1 h2 => by simp [md_A, show k ≠ 4 by omega], rfl⟩, rfl⟩
  rw [md_A1, e2 q hq]
theorem ti_A {τ τ' : md_T} (h : ti τ τ') (f : Nat → Int32) : ti τ (md_A τ' 1 f) := ⟨fun q hq => h.1 q hq, fun q hq => h.2.1 q hq, fun k h1 h2 => by rw [← h.2.2.1 k h1 h2]; simp [md_A, show k ≠ 1 by omega], h.2.2.2⟩
theorem ti_V {τ τ' : md_T} (h : ti τ τ') {k : Nat} (hk : k ≠ 10) (v : Int32) : ti τ (md_V τ' k v) := ⟨h.1, h.2.1, h.2.2.1, by
  show (if 10 = k then v else τ'.2.2 10) = _
  rw [if_neg (Ne.symm hk)]; exact h.2.2.2⟩
