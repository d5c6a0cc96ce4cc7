/-! PURE LEVEL, 38: what the constructors make (printed by gen/init77.py) -/
theorem in_ob {M : ah_h} {a ci : Nat} {fs : List Value} (h : M a = some (ah_O ci fs)) : ah_ob M a ci = some fs := by
  unfold ah_ob
  rw [h]
  exact if_pos rfl
theorem in_up {M : ah_h} {a z ci k : Nat} {fs : List Value} {v : Value} {e : ah_c} (h : M a = some (ah_O ci fs)) (hz : a ≠ z) (hk : k < fs.length) : ∃ M', ah_pf (ah_up M z e) a ci k v = some M' ∧ M' a = some (ah_O ci (fs.set k v)) ∧ M' z = some e ∧ ∀ q, q ≠ a → q ≠ z → M' q = M q := by
  refine ⟨ah_up (ah_up M z e) a (ah_O ci (fs.set k v)), ?_, ah_up_self _ _ _, ?_, fun q h1 h2 => ?_⟩
  · unfold ah_pf
    rw [in_ob (fs := fs) (by rw [ah_up_ne _ _ hz]; exact h), Option.bind_some, if_pos hk]
  · rw [ah_up_ne _ _ (Ne.symm hz), ah_up_self]
  · rw [ah_up_ne _ _ h1, ah_up_ne _ _ h2]
theorem in_pf {M : ah_h} {a ci k : Nat} {fs : List Value} {v : Value} (h : M a = some (ah_O ci fs)) (hk : k < fs.length) : ∃ M', ah_pf M a ci k v = some M' ∧ M' a = some (ah_O ci (fs.set k v)) ∧ ∀ q, q ≠ a → M' q = M q := by
  refine ⟨ah_up M a (ah_O ci (fs.set k v)), ?_, ah_up_self _ _ _, fun q h1 => ah_up_ne _ _ h1⟩
  unfold ah_pf
  rw [in_ob h, Option.bind_some, if_pos hk]
theorem in_cap (M : ah_h) (z : Nat) : ∃ M1, fX1_init (ah_up M z (ah_O 1 [.int 0, .int 0])) z 0 0 = some M1 ∧ M1 z = some (ah_O 1 [.int 0, .int 0]) ∧ ∀ q, q ≠ z → M1 q = M q := by
  have e1 : ∀ k N, N z = some (ah_O 1 [.int 0, .int 0]) → k < 2 → ([Value.int 0, Value.int 0].set k (.int 0)) = [.int 0, .int 0] → ah_pc N z k (.int 0) = some (ah_up N z (ah_O 1 [.int 0, .int 0])) := fun k N hN hk hs => by
    unfold ah_pc ah_oc
    rw [hN]
    show (if k < 2 then some (ah_up N z (ah_O 1 ([Value.int 0, Value.int 0].set k (.int 0)))) else none) = _
    rw [if_pos hk, hs]
  unfold fX1_init
  rw [e1 0 _ (ah_up_self _ _ _) (by decide) rfl, Option.bind_some, e1 1 _ (ah_up_self _ _ _) (by decide) rfl, Option.bind_some]
  refine ⟨_, rfl, ah_up_self _ _ _, fun q hq => ?_⟩
  rw [ah_up_ne _ _ hq, ah_up_ne _ _ hq, ah_up_ne _ _ hq]
theorem fa_mk {N : ah_h} {a : Nat} {F : fl_T} (h0 : N a = some (ah_O 2 (fl_f a F.1))) (h1 : N (a + 1) = some (ah_R 2 5 F.2.1)) (h3 : N (a + 3) = some (ah_I 5 (F.2.2 3))) (h4 : ∀ k, 4 ≤ k → k < 9 → N (a + k) = some (ah_I 12 (F.2.2 k))) : fa N a F := by
  unfold fa
  funext q
  unfold fl
  by_cases h : a ≤ q ∧ q < a + 9 ∧ q ≠ a + 2
  · rw [if_pos h]
    obtain ⟨k, rfl⟩ : ∃ k, q = a + k := ⟨q - a, by omega⟩
    rw [Nat.add_sub_cancel_left]
    rcases (show k = 0 ∨ k = 1 ∨ k = 3 ∨ 4 ≤ k by omega) with rfl | rfl | rfl | hk
    · exact h0.symm
    · exact h1.symm
    · exact h3.symm
    · rw [h4 k hk (by omega), fl_ck (by omega)]
      unfold fl_n
      rw [if_neg (by omega)]
  · rw [if_neg h]
theorem ma_mk {N : ah_h} {a : Nat} {τ : md_T} (h : ∀ k, k < 15 → N (a + k) = some (md_c a τ k)) : ma N a τ := by
  unfold ma
  funext q
  unfold md
  by_cases hq : a ≤ q ∧ q < a + 15
  · rw [if_pos hq]
    obtain ⟨k, rfl⟩ : ∃ k, q = a + k := ⟨q - a, by omega⟩
    rw [Nat.add_sub_cancel_left, h k (by omega)]
  · rw [if_neg hq]
section INIT
theorem in_caps {a z : Nat} {fs : List Value} (h3 : ah_vr fs[3]? = some (a + 1)) : ∀ (c k w : Nat) (M : ah_h) (f : Nat → Option Nat), k + c = 5 → c < w → M a = some (ah_O 2 fs) → M (a + 1) = some (ah_R 2 5 f) → M (a + 2) = some (ah_O 1 [.int 0, .int 0]) → (∀ i, i < k → f i = some (a + 2)) →
    ∃ M' f' w', fX2_init_24 w M z a (a + 2) (nI k) = fX2_init_24 (w' + 1) M' z a (a + 2) (nI 5) ∧ M' (a + 1) = some (ah_R 2 5 f') ∧ (∀ i, i < 5 → f' i = some (a + 2)) ∧ ∀ q, q ≠ a + 1 → M' q = M q := by
  intro c
  induction c with
  | zero =>
    intro k w M f hk hw h0 h1 h2 hf
    have : k = 5 := by omega
    subst this
    exact ⟨M, f, w - 1, by rw [show w - 1 + 1 = w by omega], h1, hf, fun _ _ => rfl⟩
  | succ c ih =>
    intro k w M f hk hw h0 h1 h2 hf
    obtain ⟨w, rfl⟩ : ∃ w', w = w' + 1 := ⟨w - 1, by omega⟩
    have gr : ah_gr M a 2 3 = some (a + 1) := by unfold ah_gr; rw [in_ob h0, Option.bind_some]; exact h3
    have oc : ah_oc M (a + 2) = some (1, [.int 0, .int 0]) := by unfold ah_oc; rw [h2]; rfl
    have sr : ah_sr M (a + 1) 2 (nI k) (a + 2) = some (ah_up M (a + 1) (ah_R 2 5 (va_up f k (some (a + 2))))) := by
      unfold ah_sr
      rw [h1]
      show (if 2 = 2 ∧ ah_in (nI k) 5 = true then some (ah_up M (a + 1) (ah_R 2 5 (va_up f (nI k).toNatClampNeg (some (a + 2))))) else none) = _
      rw [if_pos ⟨rfl, pl_in (by omega) (by decide)⟩, nI_clamp (by omega)]
    obtain ⟨M', f', w', e1, e2, e3, e4⟩ := ih (k + 1) w (ah_up M (a + 1) (ah_R 2 5 (va_up f k (some (a + 2))))) (va_up f k (some (a + 2))) (by omega) (by omega) (by rw [ah_up_ne _ _ (by omega)]; exact h0) (ah_up_self _ _ _) (by rw [ah_up_ne _ _ (by omega)]; exact h2) (fun i hi => by
      unfold va_up
      by_cases e : i = k
      · rw [if_pos e]
      · rw [if_neg e]; exact hf i (by omega))
    refine ⟨M', f', w', ?_, e2, e3, fun q hq => by rw [e4 q hq, ah_up_ne _ _ hq]⟩
    rw [← e1]
    show fX2_init_24_b _ _ _ _ _ _ = _
    unfold fX2_init_24_b
    rw [if_neg (pl_n5 (by omega)), gr, Option.bind_some, oc, Option.bind_some, sr, Option.bind_some, nI_1]
theorem in_fleet {M : ah_h} {a : Nat} (h0 : M a = some (ah_O 2 [.int 0, .int 0, .int 0, .null, .null, .null, .null, .null, .null, .null])) : ∃ M' F, fX2_init M (a + 1) a = some (M', a + 9) ∧ fa M' a F ∧ F.1 = (fun _ => 0) ∧ F.2.2 = (fun _ _ => 0) ∧ (∀ i, i < 5 → F.2.1 i = some (a + 2)) ∧ M' (a + 2) = some (ah_O 1 [.int 0, .int 0]) ∧ ∀ q, q < a ∨ a + 9 ≤ q → M' q = M q := by
  obtain ⟨M1, e1, a1, b1, o1⟩ := in_up (M := M) (a := a) (z := a + 1) (k := 3) (v := .ref (a + 1)) (e := ah_R 2 5 (fun _ => none)) h0 (by omega) (Nat.le_of_ble_eq_true rfl)
  obtain ⟨M2, e2, b2, o2⟩ := in_cap M1 (a + 1 + 1)
  have a2 : M2 a = _ := (o2 a (by omega)).trans a1
  obtain ⟨M3, f, w, e3, b3, f3, o3⟩ := in_caps (a := a) (z := a + 1 + 1 + 1) (fs := [Value.int 0, .int 0, .int 0, .null, .null, .null, .null, .null, .null, .null].set 3 (.ref (a + 1))) rfl 5 0 ah_fu M2 (fun _ => none) rfl (by decide) a2 ((o2 _ (by omega)).trans b1) b2 (fun i hi => by omega)
  have a3 : M3 a = _ := (o3 a (by omega)).trans a2
  obtain ⟨M4, e4, a4, b4, o4⟩ := in_up (M := M3) (a := a) (z := a + 1 + 1 + 1) (k := 4) (v := .ref (a + 1 + 1 + 1)) (e := ah_I 5 (fun _ => 0)) a3 (by omega) (Nat.le_of_ble_eq_true rfl)
  obtain ⟨M5, e5, a5, b5, o5⟩ := in_up (M := M4) (a := a) (z := a + 1 + 1 + 1 + 1) (k := 5) (v := .ref (a + 1 + 1 + 1 + 1)) (e := ah_I 12 (fun _ => 0)) a4 (by omega) (Nat.le_of_ble_eq_true rfl)
  obtain ⟨M6, e6, a6, b6, o6⟩ := in_up (M := M5) (a := a) (z := a + 1 + 1 + 1 + 1 + 1) (k := 6) (v := .ref (a + 1 + 1 + 1 + 1 + 1)) (e := ah_I 12 (fun _ => 0)) a5 (by omega) (Nat.le_of_ble_eq_true rfl)
  obtain ⟨M7, e7, a7, b7, o7⟩ := in_up (M := M6) (a := a) (z := a + 1 + 1 + 1 + 1 + 1 + 1) (k := 7) (v := .ref (a + 1 + 1 + 1 + 1 + 1 + 1)) (e := ah_I 12 (fun _ => 0)) a6 (by omega) (Nat.le_of_ble_eq_true rfl)
  obtain ⟨M8, e8, a8, b8, o8⟩ := in_up (M := M7) (a := a) (z := a + 1 + 1 + 1 + 1 + 1 + 1 + 1) (k := 8) (v := .ref (a + 1 + 1 + 1 + 1 + 1 + 1 + 1)) (e := ah_I 12 (fun _ => 0)) a7 (by omega) (Nat.le_of_ble_eq_true rfl)
  obtain ⟨M9, e9, a9, b9, o9⟩ := in_up (M := M8) (a := a) (z := a + 1 + 1 + 1 + 1 + 1 + 1 + 1 + 1) (k := 9) (v := .ref (a + 1 + 1 + 1 + 1 + 1 + 1 + 1 + 1)) (e := ah_I 12 (fun _ => 0)) a8 (by omega) (Nat.le_of_ble_eq_true rfl)
  refine ⟨M9, (fun _ => 0, f, fun _ _ => 0), ?_, fa_mk ?_ ?_ ?_ (fun k hk hk9 => ?_), rfl, rfl, f3, ?_, fun q hq => ?_⟩
  · unfold fX2_init
    rw [e1, Option.bind_some, e2, Option.bind_some, show (0 : Int32) = nI 0 from rfl, e3]
    show fX2_init_24_b _ _ _ _ _ _ = _
    unfold fX2_init_24_b
    rw [if_pos (show (5 : Int32) ≤ nI 5 by decide), e4, Option.bind_some, e5, Option.bind_some, e6, Option.bind_some, e7, Option.bind_some, e8, Option.bind_some, e9, Option.bind_some]
  · exact a9
  · exact (((((((o9 (a + 1) (by omega) (by omega)).trans (o8 (a + 1) (by omega) (by omega))).trans (o7 (a + 1) (by omega) (by omega))).trans (o6 (a + 1) (by omega) (by omega))).trans (o5 (a + 1) (by omega) (by omega))).trans (o4 (a + 1) (by omega) (by omega))).trans (b3))
  · exact ((((((o9 (a + 3) (by omega) (by omega)).trans (o8 (a + 3) (by omega) (by omega))).trans (o7 (a + 3) (by omega) (by omega))).trans (o6 (a + 3) (by omega) (by omega))).trans (o5 (a + 3) (by omega) (by omega))).trans (b4))
  · rcases (show k = 4 ∨ k = 5 ∨ k = 6 ∨ k = 7 ∨ k = 8 by omega) with rfl | rfl | rfl | rfl | rfl
    · exact (((((o9 (a + 4) (by omega) (by omega)).trans (o8 (a + 4) (by omega) (by omega))).trans (o7 (a + 4) (by omega) (by omega))).trans (o6 (a + 4) (by omega) (by omega))).trans (b5))
    · exact ((((o9 (a + 5) (by omega) (by omega)).trans (o8 (a + 5) (by omega) (by omega))).trans (o7 (a + 5) (by omega) (by omega))).trans (b6))
    · exact (((o9 (a + 6) (by omega) (by omega)).trans (o8 (a + 6) (by omega) (by omega))).trans (b7))
    · exact ((o9 (a + 7) (by omega) (by omega)).trans (b8))
    · exact (b9)
  · exact ((((((((o9 (a + 2) (by omega) (by omega)).trans (o8 (a + 2) (by omega) (by omega))).trans (o7 (a + 2) (by omega) (by omega))).trans (o6 (a + 2) (by omega) (by omega))).trans (o5 (a + 2) (by omega) (by omega))).trans (o4 (a + 2) (by omega) (by omega))).trans (o3 (a + 2) (by omega))).trans (b2))
  · exact (((((((((o9 q (by omega) (by omega)).trans (o8 q (by omega) (by omega))).trans (o7 q (by omega) (by omega))).trans (o6 q (by omega) (by omega))).trans (o5 q (by omega) (by omega))).trans (o4 q (by omega) (by omega))).trans (o3 q (by omega))).trans (o2 q (by omega))).trans (o1 q (by omega) (by omega)))
theorem in_shelf {M : ah_h} {h : Nat} (h0 : M h = some (ah_O 7 [.null, .int 0, .int 0, .null])) : ∃ M', fX7_init M (h + 1) h = some (M', h + 1 + 1) ∧ shA M' h none (-1) 0 (fun _ => 0) ∧ ∀ q, q ≠ h → q ≠ h + 1 → M' q = M q := by
  obtain ⟨M1, e1, a1, o1⟩ := in_pf (k := 0) (v := .null) h0 (Nat.le_of_ble_eq_true rfl)
  obtain ⟨M2, e2, a2, o2⟩ := in_pf (k := 1) (v := .int (-1)) a1 (Nat.le_of_ble_eq_true rfl)
  obtain ⟨M3, e3, a3, o3⟩ := in_pf (k := 2) (v := .int 0) a2 (Nat.le_of_ble_eq_true rfl)
  obtain ⟨M4, e4, a4, b4, o4⟩ := in_up (z := h + 1) (k := 3) (v := .ref (h + 1)) (e := ah_I 100 (fun _ => 0)) a3 (by omega) (Nat.le_of_ble_eq_true rfl)
  refine ⟨M4, ?_, ⟨a4, b4⟩, fun q h1 h2 => by rw [o4 q h1 h2, o3 q h1, o2 q h1, o1 q h1]⟩
  unfold fX7_init
  rw [e1, Option.bind_some, e2, Option.bind_some, e3, Option.bind_some, e4, Option.bind_some]
theorem in_shelves {b : Nat} {fs : List Value} (h4 : ah_vr fs[4]? = some (b + 28)) : ∀ (c k w : Nat) (M : ah_h) (f : Nat → Option Nat), k + c = 8 → c < w → M b = some (ah_O 10 fs) → M (b + 28) = some (ah_R 3 8 f) → (∀ d, d < k → f d = some (b + 29 + 2 * d)) → (∀ d, d < k → shA M (b + 29 + 2 * d) none (-1) 0 (fun _ => 0)) →
    ∃ M' f' w', fX10_init_53 w M (b + 29 + 2 * k) b (nI k) = fX10_init_53 (w' + 1) M' (b + 45) b (nI 8) ∧ M' (b + 28) = some (ah_R 3 8 f') ∧ (∀ d, d < 8 → f' d = some (b + 29 + 2 * d)) ∧ (∀ d, d < 8 → shA M' (b + 29 + 2 * d) none (-1) 0 (fun _ => 0)) ∧ ∀ q, q < b + 28 ∨ b + 45 ≤ q → M' q = M q := by
  intro c
  induction c with
  | zero =>
    intro k w M f hk hw h0 h1 hf hs
    have : k = 8 := by omega
    subst this
    exact ⟨M, f, w - 1, by rw [show w - 1 + 1 = w by omega], h1, hf, hs, fun _ _ => rfl⟩
  | succ c ih =>
    intro k w M f hk hw h0 h1 hf hs
    obtain ⟨w, rfl⟩ : ∃ w', w = w' + 1 := ⟨w - 1, by omega⟩
    have gr : ah_gr M b 10 4 = some (b + 28) := by unfold ah_gr; rw [in_ob h0, Option.bind_some]; exact h4
    obtain ⟨N, n1, n2, n3⟩ := in_shelf (M := ah_up M (b + 29 + 2 * k) (ah_O 7 [.null, .int 0, .int 0, .null])) (h := b + 29 + 2 * k) (ah_up_self _ _ _)
    have n4 : ∀ q, q ≠ b + 29 + 2 * k → q ≠ b + 29 + 2 * k + 1 → N q = M q := fun q q1 q2 => by rw [n3 q q1 q2, ah_up_ne _ _ q1]
    have sr : ah_sr N (b + 28) 3 (nI k) (b + 29 + 2 * k) = some (ah_up N (b + 28) (ah_R 3 8 (va_up f k (some (b + 29 + 2 * k))))) := by
      unfold ah_sr
      rw [n4 _ (by omega) (by omega), h1]
      show (if 3 = 3 ∧ ah_in (nI k) 8 = true then some (ah_up N (b + 28) (ah_R 3 8 (va_up f (nI k).toNatClampNeg (some (b + 29 + 2 * k))))) else none) = _
      rw [if_pos ⟨rfl, pl_in (by omega) (by decide)⟩, nI_clamp (by omega)]
    obtain ⟨M', f', w', e1, e2, e3, e4, e5⟩ := ih (k + 1) w (ah_up N (b + 28) (ah_R 3 8 (va_up f k (some (b + 29 + 2 * k))))) (va_up f k (some (b + 29 + 2 * k))) (by omega) (by omega) (by rw [ah_up_ne _ _ (by omega), n4 _ (by omega) (by omega)]; exact h0) (ah_up_self _ _ _) (fun d hd => by
      unfold va_up
      by_cases e : d = k
      · rw [if_pos e, e]
      · rw [if_neg e]; exact hf d (by omega)) (fun d hd => by
      by_cases e : d = k
      · subst e
        exact shA_of n2 (ah_up_ne _ _ (by omega)) (ah_up_ne _ _ (by omega))
      · exact shA_of (hs d (by omega)) (by rw [ah_up_ne _ _ (by omega), n4 _ (by omega) (by omega)]) (by rw [ah_up_ne _ _ (by omega), n4 _ (by omega) (by omega)]))
    refine ⟨M', f', w', ?_, e2, e3, e4, fun q hq => by rw [e5 q hq, ah_up_ne _ _ (by omega), n4 _ (by omega) (by omega)]⟩
    rw [← e1]
    show fX10_init_53_b _ _ _ _ _ = _
    unfold fX10_init_53_b
    rw [if_neg (show ¬ (8 : Int32) ≤ nI k from nI_ge (b := 8) (by omega) (by decide)), gr, Option.bind_some, n1, Option.bind_some]
    dsimp only
    rw [n2.ob, Option.bind_some, sr, Option.bind_some, nI_1]
    rfl
theorem in_mn {M : ah_h} {z : Nat} : ah_mn M z z = some (ah_R 4 5 (fun i => if i < 5 then some (z + 1 + i) else none)) ∧ (∀ i, i < 5 → ah_mn M z (z + 1 + i) = some (ah_I 5 (fun _ => 0))) ∧ ∀ q, q < z ∨ z + 6 ≤ q → ah_mn M z q = M q := by
  refine ⟨?_, fun i hi => ?_, fun q hq => ?_⟩
  · unfold ah_mn; rw [if_pos rfl]
  · unfold ah_mn; rw [if_neg (by omega), if_pos (by omega)]
  · unfold ah_mn; rw [if_neg (by omega), if_neg (by omega)]
theorem in_class (b : Nat) : ∃ M', fX10_init (ah_up (fun _ => none) b (ah_O 10 [.null, .null, .null, .int 0, .null, .null, .null, .null])) (b + 1) b = some (M', b + 53) ∧ (∀ q, b + 53 ≤ q → M' q = none) ∧ ∃ F1, cs b M' (fun _ _ => 0, fun _ => 0, fun _ => 0) 0 0 F1 := by
  generalize hM0 : ah_up (fun _ => none) b (ah_O 10 [.null, .null, .null, .int 0, .null, .null, .null, .null]) = M0
  have a0 : M0 b = some (ah_O 10 [.null, .null, .null, .int 0, .null, .null, .null, .null]) := by rw [← hM0]; exact ah_up_self _ _ _
  have n0 : ∀ q, b < q → M0 q = none := fun q hq => by rw [← hM0]; exact ah_up_ne _ _ (by omega)
  obtain ⟨M1, F1, e1, f1, g1, g2, g3, c1, o1⟩ := in_fleet (M := ah_up M0 (b + 1) (ah_O 2 [.int 0, .int 0, .int 0, .null, .null, .null, .null, .null, .null, .null])) (a := b + 1) (ah_up_self _ _ _)
  obtain ⟨M2, e2, a2, o2⟩ := in_pf (M := M1) (a := b) (k := 0) (v := .ref (b + 1)) (((o1 b (by omega)).trans (ah_up_ne _ _ (by omega))).trans a0) (Nat.le_of_ble_eq_true rfl)
  obtain ⟨M3, F2, e3, f2, h1, h2, h3, c2, o3⟩ := in_fleet (M := ah_up M2 (b + 1 + 9) (ah_O 2 [.int 0, .int 0, .int 0, .null, .null, .null, .null, .null, .null, .null])) (a := b + 1 + 9) (ah_up_self _ _ _)
  obtain ⟨M4, e4, a4, o4⟩ := in_pf (M := M3) (a := b) (k := 1) (v := .ref (b + 1 + 9)) (((o3 b (by omega)).trans (ah_up_ne _ _ (by omega))).trans a2) (Nat.le_of_ble_eq_true rfl)
  obtain ⟨M5, F3, e5, f3, i1, i2, i3, c3, o5⟩ := in_fleet (M := ah_up M4 (b + 1 + 9 + 9) (ah_O 2 [.int 0, .int 0, .int 0, .null, .null, .null, .null, .null, .null, .null])) (a := b + 1 + 9 + 9) (ah_up_self _ _ _)
  obtain ⟨M6, e6, a6, o6⟩ := in_pf (M := M5) (a := b) (k := 2) (v := .ref (b + 1 + 9 + 9)) (((o5 b (by omega)).trans (ah_up_ne _ _ (by omega))).trans a4) (Nat.le_of_ble_eq_true rfl)
  obtain ⟨M7, e7, a7, o7⟩ := in_pf (k := 3) (v := .int 0) a6 (Nat.le_of_ble_eq_true rfl)
  obtain ⟨M8, e8, a8, b8, o8⟩ := in_up (z := b + 1 + 9 + 9 + 9) (k := 4) (v := .ref (b + 1 + 9 + 9 + 9)) (e := ah_R 3 8 (fun _ => none)) a7 (by omega) (Nat.le_of_ble_eq_true rfl)
  obtain ⟨M9, f9, w9, e9, b9, g9, s9, o9⟩ := in_shelves (b := b) rfl 8 0 ah_fu M8 (fun _ => none) rfl (by decide) a8 b8 (fun d hd => by omega) (fun d hd => by omega)
  obtain ⟨p1, p2, p3⟩ := in_mn (M := M9) (z := b + 45)
  obtain ⟨MA, eA, aA, oA⟩ := in_pf (M := ah_mn M9 (b + 45)) (a := b) (k := 5) (v := .ref (b + 45)) (((p3 b (by omega)).trans (o9 b (by omega))).trans a8) (Nat.le_of_ble_eq_true rfl)
  obtain ⟨MB, eB, aB, bB, oB⟩ := in_up (z := b + 45 + 6) (k := 6) (v := .ref (b + 45 + 6)) (e := ah_I 12 (fun _ => 0)) aA (by omega) (Nat.le_of_ble_eq_true rfl)
  obtain ⟨MC, eC, aC, bC, oC⟩ := in_up (z := b + 45 + 6 + 1) (k := 7) (v := .ref (b + 45 + 6 + 1)) (e := ah_J 5 (fun _ => 0)) aB (by omega) (Nat.le_of_ble_eq_true rfl)
  have r1 : ∀ q, b < q → q < b + 45 → MC q = M9 q := fun q q1 q2 => by rw [oC q (by omega) (by omega), oB q (by omega) (by omega), oA q (by omega), p3 q (by omega)]
  have r2 : ∀ q, b < q → q < b + 28 → MC q = M6 q := fun q q1 q2 => by rw [r1 q q1 (by omega), o9 q (by omega), o8 q (by omega) (by omega), o7 q (by omega)]
  have r3 : ∀ q, b < q → q < b + 19 → MC q = M4 q := fun q q1 q2 => by rw [r2 q q1 (by omega), o6 q (by omega), o5 q (by omega), ah_up_ne _ _ (by omega)]
  have r4 : ∀ q, b < q → q < b + 10 → MC q = M1 q := fun q q1 q2 => by rw [r3 q q1 (by omega), o4 q (by omega), o3 q (by omega), ah_up_ne _ _ (by omega), o2 q (by omega)]
  have t1 : fa MC (b + 1) F1 := fa_of f1 (fun q q1 q2 _ => r4 q (by omega) (by omega))
  have t2 : fa MC (b + 10) F2 := fa_of f2 (fun q q1 q2 _ => by rw [r3 q (by omega) (by omega), o4 q (by omega)])
  have t3 : fa MC (b + 19) F3 := fa_of f3 (fun q q1 q2 _ => by rw [r2 q (by omega) (by omega), o6 q (by omega)])
  refine ⟨MC, ?_, fun q hq => ?_, F1, ⟨aC, f9, (r1 (b + 28) (by omega) (by omega)).trans b9, g9⟩, t1, ⟨⟨by decide, by decide, rfl, rfl, fun i hi => by omega, fun j hj => by omega⟩, by rw [g1]; rfl, by rw [g1]; rfl, by rw [g1], fun i hi => ⟨b + 1 + 2, 0, 0, g3 i hi, Or.inl rfl, ⟨(r4 (b + 3) (by omega) (by omega)).trans c1, by decide, by decide⟩, fun hh => by omega⟩, fun j hj => by rw [g2]; exact ⟨rfl, rfl, rfl, rfl, rfl⟩, fun i hi => by rw [g2]; rfl⟩, ⟨F2, t2⟩, ⟨F3, t3, Or.inl rfl⟩, fun d hd => ⟨none, -1, 0, fun _ => 0, shA_of (s9 d hd) (r1 _ (by omega) (by omega)) (r1 _ (by omega) (by omega)), Or.inl ⟨rfl, rfl, rfl⟩⟩, ⟨fun i => if i < 5 then some (b + 45 + 1 + i) else none, ?_, fun i hi => ?_⟩, fun i hi => ⟨fun _ => 0, ?_⟩, ⟨fun _ => 0, (oC (b + 51) (by omega) (by omega)).trans bB⟩, ⟨fun _ => 0, bC⟩⟩
  · unfold fX10_init
    rw [e1, Option.bind_some]
    dsimp only
    rw [e2, Option.bind_some, e3, Option.bind_some]
    dsimp only
    rw [e4, Option.bind_some, e5, Option.bind_some]
    dsimp only
    rw [e6, Option.bind_some, e7, Option.bind_some, e8, Option.bind_some]
    refine Eq.trans e9 ?_
    show fX10_init_53_b _ _ _ _ _ = _
    unfold fX10_init_53_b
    rw [if_pos (show (8 : Int32) ≤ nI 8 by decide), eA, Option.bind_some, eB, Option.bind_some, eC, Option.bind_some]
  · rw [oC q (by omega) (by omega), oB q (by omega) (by omega), oA q (by omega), p3 q (by omega), o9 q (by omega), o8 q (by omega) (by omega), o7 q (by omega), o6 q (by omega), o5 q (by omega), ah_up_ne _ _ (by omega), o4 q (by omega), o3 q (by omega), ah_up_ne _ _ (by omega), o2 q (by omega), o1 q (by omega), ah_up_ne _ _ (by omega)]
    exact n0 q (by omega)
  · exact (((oC (b + 45) (by omega) (by omega)).trans (oB (b + 45) (by omega) (by omega))).trans (oA (b + 45) (by omega))).trans p1
  · show (if i < 5 then some (b + 45 + 1 + i) else none) = _
    rw [if_pos hi]
  · exact (((oC (b + 45 + 1 + i) (by omega) (by omega)).trans (oB (b + 45 + 1 + i) (by omega) (by omega))).trans (oA (b + 45 + 1 + i) (by omega))).trans (p2 i hi)
theorem in_model {M : ah_h} {a : Nat} (h0 : M a = some (ah_O 11 [.null, .null, .null, .null, .null, .null, .null, .null, .null, .null, .int 0, .int 0, .int 0, .int 0, .int 0, .int 0, .int 0, .int 0, .null, .null, .null, .int 0, .null, .int 0])) : ∃ M', fX11_init M (a + 1) a = some (M', a + 15) ∧ ma M' a (fun _ _ => 0, fun _ => 0, fun _ => 0) ∧ ∀ q, q < a ∨ a + 15 ≤ q → M' q = M q := by
  obtain ⟨M1, e1, a1, b1, o1⟩ := in_up (M := M) (a := a) (z := a + 1) (k := 0) (v := .ref (a + 1)) (e := ah_I 73 (fun _ => 0)) h0 (by omega) (Nat.le_of_ble_eq_true rfl)
  obtain ⟨M2, e2, a2, b2, o2⟩ := in_up (M := M1) (a := a) (z := a + 1 + 1) (k := 1) (v := .ref (a + 1 + 1)) (e := ah_I 73 (fun _ => 0)) a1 (by omega) (Nat.le_of_ble_eq_true rfl)
  obtain ⟨M3, e3, a3, b3, o3⟩ := in_up (M := M2) (a := a) (z := a + 1 + 1 + 1) (k := 2) (v := .ref (a + 1 + 1 + 1)) (e := ah_I 73 (fun _ => 0)) a2 (by omega) (Nat.le_of_ble_eq_true rfl)
  obtain ⟨M4, e4, a4, b4, o4⟩ := in_up (M := M3) (a := a) (z := a + 1 + 1 + 1 + 1) (k := 3) (v := .ref (a + 1 + 1 + 1 + 1)) (e := ah_I 73 (fun _ => 0)) a3 (by omega) (Nat.le_of_ble_eq_true rfl)
  obtain ⟨M5, e5, a5, b5, o5⟩ := in_up (M := M4) (a := a) (z := a + 1 + 1 + 1 + 1 + 1) (k := 4) (v := .ref (a + 1 + 1 + 1 + 1 + 1)) (e := ah_I 8 (fun _ => 0)) a4 (by omega) (Nat.le_of_ble_eq_true rfl)
  obtain ⟨M6, e6, a6, b6, o6⟩ := in_up (M := M5) (a := a) (z := a + 1 + 1 + 1 + 1 + 1 + 1) (k := 5) (v := .ref (a + 1 + 1 + 1 + 1 + 1 + 1)) (e := ah_I 8 (fun _ => 0)) a5 (by omega) (Nat.le_of_ble_eq_true rfl)
  obtain ⟨M7, e7, a7, b7, o7⟩ := in_up (M := M6) (a := a) (z := a + 1 + 1 + 1 + 1 + 1 + 1 + 1) (k := 6) (v := .ref (a + 1 + 1 + 1 + 1 + 1 + 1 + 1)) (e := ah_I 8 (fun _ => 0)) a6 (by omega) (Nat.le_of_ble_eq_true rfl)
  obtain ⟨M8, e8, a8, b8, o8⟩ := in_up (M := M7) (a := a) (z := a + 1 + 1 + 1 + 1 + 1 + 1 + 1 + 1) (k := 7) (v := .ref (a + 1 + 1 + 1 + 1 + 1 + 1 + 1 + 1)) (e := ah_I 800 (fun _ => 0)) a7 (by omega) (Nat.le_of_ble_eq_true rfl)
  obtain ⟨M9, e9, a9, b9, o9⟩ := in_up (M := M8) (a := a) (z := a + 1 + 1 + 1 + 1 + 1 + 1 + 1 + 1 + 1) (k := 8) (v := .ref (a + 1 + 1 + 1 + 1 + 1 + 1 + 1 + 1 + 1)) (e := ah_I 8 (fun _ => 0)) a8 (by omega) (Nat.le_of_ble_eq_true rfl)
  obtain ⟨M10, e10, a10, b10, o10⟩ := in_up (M := M9) (a := a) (z := a + 1 + 1 + 1 + 1 + 1 + 1 + 1 + 1 + 1 + 1) (k := 9) (v := .ref (a + 1 + 1 + 1 + 1 + 1 + 1 + 1 + 1 + 1 + 1)) (e := ah_I 8 (fun _ => 0)) a9 (by omega) (Nat.le_of_ble_eq_true rfl)
  obtain ⟨M11, e11, a11, b11, o11⟩ := in_up (M := M10) (a := a) (z := a + 1 + 1 + 1 + 1 + 1 + 1 + 1 + 1 + 1 + 1 + 1) (k := 18) (v := .ref (a + 1 + 1 + 1 + 1 + 1 + 1 + 1 + 1 + 1 + 1 + 1)) (e := ah_I 3 (fun _ => 0)) a10 (by omega) (Nat.le_of_ble_eq_true rfl)
  obtain ⟨M12, e12, a12, b12, o12⟩ := in_up (M := M11) (a := a) (z := a + 1 + 1 + 1 + 1 + 1 + 1 + 1 + 1 + 1 + 1 + 1 + 1) (k := 19) (v := .ref (a + 1 + 1 + 1 + 1 + 1 + 1 + 1 + 1 + 1 + 1 + 1 + 1)) (e := ah_J 5 (fun _ => 0)) a11 (by omega) (Nat.le_of_ble_eq_true rfl)
  obtain ⟨M13, e13, a13, b13, o13⟩ := in_up (M := M12) (a := a) (z := a + 1 + 1 + 1 + 1 + 1 + 1 + 1 + 1 + 1 + 1 + 1 + 1 + 1) (k := 20) (v := .ref (a + 1 + 1 + 1 + 1 + 1 + 1 + 1 + 1 + 1 + 1 + 1 + 1 + 1)) (e := ah_I 365 (fun _ => 0)) a12 (by omega) (Nat.le_of_ble_eq_true rfl)
  obtain ⟨M14, e14, a14, b14, o14⟩ := in_up (M := M13) (a := a) (z := a + 1 + 1 + 1 + 1 + 1 + 1 + 1 + 1 + 1 + 1 + 1 + 1 + 1 + 1) (k := 22) (v := .ref (a + 1 + 1 + 1 + 1 + 1 + 1 + 1 + 1 + 1 + 1 + 1 + 1 + 1 + 1)) (e := ah_I 12 (fun _ => 0)) a13 (by omega) (Nat.le_of_ble_eq_true rfl)
  refine ⟨M14, ?_, ma_mk (fun k hk => ?_), fun q hq => ?_⟩
  · unfold fX11_init
    rw [e1, Option.bind_some, e2, Option.bind_some, e3, Option.bind_some, e4, Option.bind_some, e5, Option.bind_some, e6, Option.bind_some, e7, Option.bind_some, e8, Option.bind_some, e9, Option.bind_some, e10, Option.bind_some, e11, Option.bind_some, e12, Option.bind_some, e13, Option.bind_some, e14, Option.bind_some]
  · rcases (show k = 0 ∨ k = 1 ∨ k = 2 ∨ k = 3 ∨ k = 4 ∨ k = 5 ∨ k = 6 ∨ k = 7 ∨ k = 8 ∨ k = 9 ∨ k = 10 ∨ k = 11 ∨ k = 12 ∨ k = 13 ∨ k = 14 by omega) with rfl | rfl | rfl | rfl | rfl | rfl | rfl | rfl | rfl | rfl | rfl | rfl | rfl | rfl | rfl
    · exact a14
    · exact ((((((((((((((o14 (a + 1) (by omega) (by omega)).trans (o13 (a + 1) (by omega) (by omega))).trans (o12 (a + 1) (by omega) (by omega))).trans (o11 (a + 1) (by omega) (by omega))).trans (o10 (a + 1) (by omega) (by omega))).trans (o9 (a + 1) (by omega) (by omega))).trans (o8 (a + 1) (by omega) (by omega))).trans (o7 (a + 1) (by omega) (by omega))).trans (o6 (a + 1) (by omega) (by omega))).trans (o5 (a + 1) (by omega) (by omega))).trans (o4 (a + 1) (by omega) (by omega))).trans (o3 (a + 1) (by omega) (by omega))).trans (o2 (a + 1) (by omega) (by omega))).trans (b1))
    · exact (((((((((((((o14 (a + 2) (by omega) (by omega)).trans (o13 (a + 2) (by omega) (by omega))).trans (o12 (a + 2) (by omega) (by omega))).trans (o11 (a + 2) (by omega) (by omega))).trans (o10 (a + 2) (by omega) (by omega))).trans (o9 (a + 2) (by omega) (by omega))).trans (o8 (a + 2) (by omega) (by omega))).trans (o7 (a + 2) (by omega) (by omega))).trans (o6 (a + 2) (by omega) (by omega))).trans (o5 (a + 2) (by omega) (by omega))).trans (o4 (a + 2) (by omega) (by omega))).trans (o3 (a + 2) (by omega) (by omega))).trans (b2))
    · exact ((((((((((((o14 (a + 3) (by omega) (by omega)).trans (o13 (a + 3) (by omega) (by omega))).trans (o12 (a + 3) (by omega) (by omega))).trans (o11 (a + 3) (by omega) (by omega))).trans (o10 (a + 3) (by omega) (by omega))).trans (o9 (a + 3) (by omega) (by omega))).trans (o8 (a + 3) (by omega) (by omega))).trans (o7 (a + 3) (by omega) (by omega))).trans (o6 (a + 3) (by omega) (by omega))).trans (o5 (a + 3) (by omega) (by omega))).trans (o4 (a + 3) (by omega) (by omega))).trans (b3))
    · exact (((((((((((o14 (a + 4) (by omega) (by omega)).trans (o13 (a + 4) (by omega) (by omega))).trans (o12 (a + 4) (by omega) (by omega))).trans (o11 (a + 4) (by omega) (by omega))).trans (o10 (a + 4) (by omega) (by omega))).trans (o9 (a + 4) (by omega) (by omega))).trans (o8 (a + 4) (by omega) (by omega))).trans (o7 (a + 4) (by omega) (by omega))).trans (o6 (a + 4) (by omega) (by omega))).trans (o5 (a + 4) (by omega) (by omega))).trans (b4))
    · exact ((((((((((o14 (a + 5) (by omega) (by omega)).trans (o13 (a + 5) (by omega) (by omega))).trans (o12 (a + 5) (by omega) (by omega))).trans (o11 (a + 5) (by omega) (by omega))).trans (o10 (a + 5) (by omega) (by omega))).trans (o9 (a + 5) (by omega) (by omega))).trans (o8 (a + 5) (by omega) (by omega))).trans (o7 (a + 5) (by omega) (by omega))).trans (o6 (a + 5) (by omega) (by omega))).trans (b5))
    · exact (((((((((o14 (a + 6) (by omega) (by omega)).trans (o13 (a + 6) (by omega) (by omega))).trans (o12 (a + 6) (by omega) (by omega))).trans (o11 (a + 6) (by omega) (by omega))).trans (o10 (a + 6) (by omega) (by omega))).trans (o9 (a + 6) (by omega) (by omega))).trans (o8 (a + 6) (by omega) (by omega))).trans (o7 (a + 6) (by omega) (by omega))).trans (b6))
    · exact ((((((((o14 (a + 7) (by omega) (by omega)).trans (o13 (a + 7) (by omega) (by omega))).trans (o12 (a + 7) (by omega) (by omega))).trans (o11 (a + 7) (by omega) (by omega))).trans (o10 (a + 7) (by omega) (by omega))).trans (o9 (a + 7) (by omega) (by omega))).trans (o8 (a + 7) (by omega) (by omega))).trans (b7))
    · exact (((((((o14 (a + 8) (by omega) (by omega)).trans (o13 (a + 8) (by omega) (by omega))).trans (o12 (a + 8) (by omega) (by omega))).trans (o11 (a + 8) (by omega) (by omega))).trans (o10 (a + 8) (by omega) (by omega))).trans (o9 (a + 8) (by omega) (by omega))).trans (b8))
    · exact ((((((o14 (a + 9) (by omega) (by omega)).trans (o13 (a + 9) (by omega) (by omega))).trans (o12 (a + 9) (by omega) (by omega))).trans (o11 (a + 9) (by omega) (by omega))).trans (o10 (a + 9) (by omega) (by omega))).trans (b9))
    · exact (((((o14 (a + 10) (by omega) (by omega)).trans (o13 (a + 10) (by omega) (by omega))).trans (o12 (a + 10) (by omega) (by omega))).trans (o11 (a + 10) (by omega) (by omega))).trans (b10))
    · exact ((((o14 (a + 11) (by omega) (by omega)).trans (o13 (a + 11) (by omega) (by omega))).trans (o12 (a + 11) (by omega) (by omega))).trans (b11))
    · exact (((o14 (a + 12) (by omega) (by omega)).trans (o13 (a + 12) (by omega) (by omega))).trans (b12))
    · exact ((o14 (a + 13) (by omega) (by omega)).trans (b13))
    · exact (b14)
  · exact ((((((((((((((o14 q (by omega) (by omega)).trans (o13 q (by omega) (by omega))).trans (o12 q (by omega) (by omega))).trans (o11 q (by omega) (by omega))).trans (o10 q (by omega) (by omega))).trans (o9 q (by omega) (by omega))).trans (o8 q (by omega) (by omega))).trans (o7 q (by omega) (by omega))).trans (o6 q (by omega) (by omega))).trans (o5 q (by omega) (by omega))).trans (o4 q (by omega) (by omega))).trans (o3 q (by omega) (by omega))).trans (o2 q (by omega) (by omega))).trans (o1 q (by omega) (by omega)))
theorem p_init (b : Nat) : ∃ M1 M2, fX10_init (ah_up (fun _ => none) b (ah_O 10 [.null, .null, .null, .int 0, .null, .null, .null, .null])) (b + 1) b = some (M1, b + 53) ∧ fX11_init (ah_up M1 (b + 53) (ah_O 11 [.null, .null, .null, .null, .null, .null, .null, .null, .null, .null, .int 0, .int 0, .int 0, .int 0, .int 0, .int 0, .int 0, .int 0, .null, .null, .null, .int 0, .null, .int 0])) (b + 53 + 1) (b + 53) = some (M2, b + 53 + 15) ∧ wd b (ah_up M2 (b + 53 + 15) (ah_J 1 (fun _ => 0))) (b + 53 + 15 + 1) (fun _ _ => 0, fun _ => 0, fun _ => 0) := by
  obtain ⟨M1, e1, n1, F1, c1⟩ := in_class b
  obtain ⟨M2, e2, m2, o2⟩ := in_model (M := ah_up M1 (b + 53) (ah_O 11 [.null, .null, .null, .null, .null, .null, .null, .null, .null, .null, .int 0, .int 0, .int 0, .int 0, .int 0, .int 0, .int 0, .int 0, .null, .null, .null, .int 0, .null, .int 0])) (a := b + 53) (ah_up_self _ _ _)
  refine ⟨M1, M2, e1, e2, ⟨0, 0, F1, ?_⟩, ?_, ⟨fun _ => 0, ah_up_self _ _ _⟩, by omega, fun q hq => ?_⟩
  · refine cs_more c1 (fun q e hq => ?_)
    by_cases h : q < b + 53
    · rw [ah_up_ne _ _ (by omega), o2 q (by omega), ah_up_ne _ _ (by omega)]; exact hq
    · rw [n1 q (by omega)] at hq; cases hq
  · exact ma_of m2 (fun q h1 h2 => ah_up_ne _ _ (by omega))
  · rw [ah_up_ne _ _ (by omega), o2 q (by omega), ah_up_ne _ _ (by omega)]; exact n1 q (by omega)
end INIT
