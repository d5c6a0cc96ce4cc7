/-! PURE LEVEL, 24: the shelves: keep, row, put, copy -/
theorem ah_ob_at {M : ah_h} {a ci : Nat} {fs : List Value} (h : M a = some (ah_O ci fs)) : ah_ob M a ci = some fs := by
  unfold ah_ob
  rw [h]
  exact if_pos rfl
theorem ah_pf_at {M : ah_h} {a ci k : Nat} {fs : List Value} {v : Value} (h : M a = some (ah_O ci fs)) (hk : k < fs.length) : ah_pf M a ci k v = some (ah_up M a (ah_O ci (fs.set k v))) := by
  unfold ah_pf
  rw [ah_ob_at h, Option.bind_some, if_pos hk]
theorem ah_pf7_0 {M : ah_h} {a : Nat} {v v0 v1 v2 v3 : Value} (h : M a = some (ah_O 7 [v0, v1, v2, v3])) : ah_pf M a 7 0 v = some (ah_up M a (ah_O 7 [v, v1, v2, v3])) := ah_pf_at h (Nat.le_of_ble_eq_true rfl)
theorem ah_pf7_1 {M : ah_h} {a : Nat} {v v0 v1 v2 v3 : Value} (h : M a = some (ah_O 7 [v0, v1, v2, v3])) : ah_pf M a 7 1 v = some (ah_up M a (ah_O 7 [v0, v, v2, v3])) := ah_pf_at h (Nat.le_of_ble_eq_true rfl)
theorem ah_pf7_2 {M : ah_h} {a : Nat} {v v0 v1 v2 v3 : Value} (h : M a = some (ah_O 7 [v0, v1, v2, v3])) : ah_pf M a 7 2 v = some (ah_up M a (ah_O 7 [v0, v1, v, v3])) := ah_pf_at h (Nat.le_of_ble_eq_true rfl)
theorem ah_si_at {M : ah_h} {a n i : Nat} {f : Nat → Int32} {v : Int32} (h : M a = some (ah_I n f)) (hi : i < n) (hn : n < 2 ^ 31) : ah_si M a (nI i) v = some (ah_up M a (ah_I n (upd f i v))) := by
  unfold ah_si
  rw [h]
  show (if ah_in (nI i) n = true then some (ah_up M a (ah_I n (upd f (nI i).toNatClampNeg v))) else none) = _
  rw [if_pos (pl_in hi hn), nI_clamp (by omega)]
theorem sp_le {n : Nat} (hn : n + 1 < 2 ^ 31) (y : Int32) : (y ≤ nI n) = ¬ (nI (n + 1) ≤ y) := by
  rw [Int32.le_iff_toInt_le, Int32.le_iff_toInt_le, nI_toInt (by omega), nI_toInt (by omega)]
  apply propext
  constructor <;> intro h <;> omega
theorem md_isInN (M : ah_h) (x : Int32) {n : Nat} (hn : n < 2 ^ 31) {hi : Int32} (e : hi = nI n - 1) : fX11_isIn M x.toInt64 0 hi.toInt64 = some (sp_is n x) := by
  rw [show (0 : Int64) = (0 : Int32).toInt64 from rfl, md_isIn, e]
  unfold sp_is
  by_cases h0 : x < 0
  · rw [if_pos h0, if_pos h0]
  · rw [if_neg h0, if_neg h0]
    simp only [pl_pred_lt hn x h0]
theorem md_isIn1 (M : ah_h) (x : Int32) : fX11_isIn M x.toInt64 0 1 = some (sp_is 2 x) := by
  rw [show (1 : Int64) = (1 : Int32).toInt64 from rfl]
  exact md_isInN M x (by decide) (by decide)
theorem md_isIn2 (M : ah_h) (x : Int32) : fX11_isIn M x.toInt64 0 2 = some (sp_is 3 x) := by
  rw [show (2 : Int64) = (2 : Int32).toInt64 from rfl]
  exact md_isInN M x (by decide) (by decide)
theorem md_isIn7 (M : ah_h) (x : Int32) : fX11_isIn M x.toInt64 0 7 = some (sp_is 8 x) := by
  rw [show (7 : Int64) = (7 : Int32).toInt64 from rfl]
  exact md_isInN M x (by decide) (by decide)
theorem md_isIn9 (M : ah_h) (x : Int32) : fX11_isIn M x.toInt64 0 9 = some (sp_is 10 x) := by
  rw [show (9 : Int64) = (9 : Int32).toInt64 from rfl]
  exact md_isInN M x (by decide) (by decide)
theorem c_kf (M : ah_h) (x y : Int32) : fX10_isKindAndFigure M x y = some (if sp_is 8 x = 0 then 0 else sp_is 10 y) := by
  unfold fX10_isKindAndFigure sp_is
  rw [show (8 : Int32) = nI 8 from rfl, show (10 : Int32) = nI 10 from rfl]
  by_cases a1 : x < 0
  · rw [if_pos a1, if_pos a1, if_pos rfl]
  by_cases a2 : nI 8 ≤ x
  · rw [if_neg a1, if_pos a2, if_neg a1, if_pos a2, if_pos rfl]
  rw [if_neg a1, if_neg a2, if_neg a1, if_neg a2, if_neg (by decide : ¬ (1 : Int32) = 0)]
  by_cases a3 : y < 0
  · rw [if_pos a3, if_pos a3]
  by_cases a4 : nI 10 ≤ y
  · rw [if_neg a3, if_pos a4, if_neg a3, if_pos a4]
  · rw [if_neg a3, if_neg a4, if_neg a3, if_neg a4]
/-- a captain is made -/
theorem c_cap (M : ah_h) (z : Nat) {kd fg : Nat} (hk : kd < 8) (hf : fg < 10) : ∃ M1, fX10_captainOf M z (nI kd) (nI fg) = some (z, M1, z + 1) ∧ cp M1 z kd fg ∧ ∀ q, q ≠ z → M1 q = M q := by
  have key : ∀ (c : Nat) (x y : Int32), ah_cap c = true → ∃ M1, fX1_init (ah_up M z (ah_O c [.int 0, .int 0])) z x y = some M1 ∧ M1 z = some (ah_O c [.int x, .int y]) ∧ ∀ q, q ≠ z → M1 q = M q := by
    intro c x y hc
    have e1 : ah_pc (ah_up M z (ah_O c [.int 0, .int 0])) z 0 (.int x) = some (ah_up (ah_up M z (ah_O c [.int 0, .int 0])) z (ah_O c [.int x, .int 0])) := by
      unfold ah_pc ah_oc
      rw [ah_up_self]
      show ((if ah_cap c = true then some (c, [Value.int 0, Value.int 0]) else none).bind _) = _
      rw [if_pos hc]
      rfl
    have e2 : ah_pc (ah_up (ah_up M z (ah_O c [.int 0, .int 0])) z (ah_O c [.int x, .int 0])) z 1 (.int y) = some (ah_up (ah_up (ah_up M z (ah_O c [.int 0, .int 0])) z (ah_O c [.int x, .int 0])) z (ah_O c [.int x, .int y])) := by
      unfold ah_pc ah_oc
      rw [ah_up_self]
      show ((if ah_cap c = true then some (c, [Value.int x, Value.int 0]) else none).bind _) = _
      rw [if_pos hc]
      rfl
    unfold fX1_init
    rw [e1, Option.bind_some, e2, Option.bind_some]
    refine ⟨_, rfl, ah_up_self _ _ _, fun q hq => ?_⟩
    rw [ah_up_ne _ _ hq, ah_up_ne _ _ hq, ah_up_ne _ _ hq]
  unfold fX10_captainOf fX4_init fX3_init fX8_init fX0_init fX6_init fX5_init fX9_init
  rcases (show kd = 0 ∨ kd = 1 ∨ kd = 2 ∨ kd = 3 ∨ kd = 4 ∨ kd = 5 ∨ kd = 6 ∨ kd = 7 by omega) with rfl | rfl | rfl | rfl | rfl | rfl | rfl | rfl
  · obtain ⟨M1, e1, e2, e3⟩ := key 1 0 (nI fg) rfl
    refine ⟨M1, ?_, ⟨e2, hk, hf⟩, e3⟩
    rw [if_neg (by decide), if_neg (by decide), if_neg (by decide), if_neg (by decide), if_neg (by decide), if_neg (by decide), if_neg (by decide), e1]
    rfl
  · obtain ⟨M1, e1, e2, e3⟩ := key 4 1 (nI fg) rfl
    refine ⟨M1, ?_, ⟨e2, hk, hf⟩, e3⟩
    rw [if_pos (by decide), e1]
    rfl
  · obtain ⟨M1, e1, e2, e3⟩ := key 5 (nI 2) (nI fg) rfl
    refine ⟨M1, ?_, ⟨e2, hk, hf⟩, e3⟩
    rw [if_neg (by decide), if_pos (by decide), e1]
    rfl
  · obtain ⟨M1, e1, e2, e3⟩ := key 6 (nI 3) (nI fg) rfl
    refine ⟨M1, ?_, ⟨e2, hk, hf⟩, e3⟩
    rw [if_neg (by decide), if_neg (by decide), if_pos (by decide), e1]
    rfl
  · obtain ⟨M1, e1, e2, e3⟩ := key 9 (nI 4) (nI fg) rfl
    refine ⟨M1, ?_, ⟨e2, hk, hf⟩, e3⟩
    rw [if_neg (by decide), if_neg (by decide), if_neg (by decide), if_pos (by decide), e1]
    rfl
  · obtain ⟨M1, e1, e2, e3⟩ := key 0 5 (nI fg) rfl
    refine ⟨M1, ?_, ⟨e2, hk, hf⟩, e3⟩
    rw [if_neg (by decide), if_neg (by decide), if_neg (by decide), if_neg (by decide), if_pos (by decide), e1]
    rfl
  · obtain ⟨M1, e1, e2, e3⟩ := key 8 6 (nI fg) rfl
    refine ⟨M1, ?_, ⟨e2, hk, hf⟩, e3⟩
    rw [if_neg (by decide), if_neg (by decide), if_neg (by decide), if_neg (by decide), if_neg (by decide), if_pos (by decide), e1]
    rfl
  · obtain ⟨M1, e1, e2, e3⟩ := key 3 7 (nI fg) rfl
    refine ⟨M1, ?_, ⟨e2, hk, hf⟩, e3⟩
    rw [if_neg (by decide), if_neg (by decide), if_neg (by decide), if_neg (by decide), if_neg (by decide), if_neg (by decide), if_pos (by decide), e1]
    rfl
section KEEPS
variable {b a : Nat} {M M' : ah_h} {F F1 : fl_T} {S : Nat → Int32} {n m z : Nat} {τ τ' : md_T}
theorem rf_keepS (h : rf b M F S n m) (hM : ∀ c e, rf_a b c → M c = some e → M' c = some e) : rf b M' F S n m := by
  obtain ⟨h1, h2, h3, h4, h5, h6, h7⟩ := h
  refine ⟨h1, h2, h3, h4, fun i hi => ?_, h6, h7⟩
  obtain ⟨c, kd, fg, e1, e2, e3, e4⟩ := h5 i hi
  exact ⟨c, kd, fg, e1, e2, ⟨hM c _ e2 e3.1, e3.2⟩, e4⟩
theorem fa_ofS (h : fa M a F) (hq : ∀ q e, a ≤ q → q < a + 9 → q ≠ a + 2 → M q = some e → M' q = some e) : fa M' a F := fa_of h (fun q h1 h2 h3 => by
  have e : fl a F M q = M q := congrFun h q
  unfold fl at e
  rw [if_pos ⟨h1, h2, h3⟩] at e
  exact (hq q _ h1 h2 h3 e.symm).trans e)
/-- shelves that agree at d -/
def tq (τ τ' : md_T) (d : Nat) : Prop := τ'.1 5 d = τ.1 5 d ∧ τ'.1 6 d = τ.1 6 d ∧ τ'.1 7 d = τ.1 7 d ∧ τ'.1 9 d = τ.1 9 d ∧ τ'.1 10 d = τ.1 10 d ∧ ∀ k, k < 100 → τ'.1 8 (100 * d + k) = τ.1 8 (100 * d + k)
theorem sr_ofS {d : Nat} (h : sr b M τ d) (hq : ∀ q e, (q = b + 29 + 2 * d ∨ q = b + 29 + 2 * d + 1 ∨ rf_a b q) → M q = some e → M' q = some e) (ht : tq τ τ' d) : sr b M' τ' d := by
  obtain ⟨cap, so, si, el, H, hc⟩ := h
  obtain ⟨e5, e6, e7, e9, e10, e8⟩ := ht
  refine ⟨cap, so, si, el, ⟨hq _ _ (Or.inl rfl) H.1, hq _ _ (Or.inr (Or.inl rfl)) H.2⟩, ?_⟩
  rw [e5, e6, e7, e9, e10]
  rcases hc with hc | ⟨k1, k2, c, kd, fg, k3, k4, k5, k6⟩ | ⟨k1, k2, t, s, l1, l2, l3, l4, l5, l6, l7⟩
  · exact Or.inl hc
  · exact Or.inr (Or.inl ⟨k1, k2, c, kd, fg, k3, k4, ⟨hq c _ (Or.inr (Or.inr k4)) k5.1, k5.2⟩, k6⟩)
  · exact Or.inr (Or.inr ⟨k1, k2, t, s, l1, l2, l3, l4, l5, l6, fun k hk => (l7 k hk).trans (e8 k hk).symm⟩)
/-- a shelf changes -/
theorem cs_shelf (h : cs b M τ n m F1) {d : Nat} (hd : d < 8) (hM : ∀ q e, q ≠ b + 29 + 2 * d → q ≠ b + 29 + 2 * d + 1 → M q = some e → M' q = some e) (t1 : τ'.1 1 = τ.1 1) (t2 : τ'.1 2 = τ.1 2) (t10 : τ'.2.2 10 = τ.2.2 10) (hk : ∀ d', d' < 8 → d' ≠ d → tq τ τ' d') (hsr : sr b M' τ' d) : cs b M' τ' n m F1 := by
  have hc : ∀ c e, rf_a b c → M c = some e → M' c = some e := fun c e hc => hM c e (by unfold rf_a at hc; omega) (by unfold rf_a at hc; omega)
  obtain ⟨o1, f, o2, o3⟩ := h.o
  refine ⟨?_, fa_ofS h.f1 (fun q e _ _ _ => hM q e (by omega) (by omega)), ?_, ?_, ?_, fun d' hd' => ?_, ?_, fun i hi => ?_, ?_, ?_⟩
  · rw [t10]; exact ⟨hM _ _ (by omega) (by omega) o1, f, hM _ _ (by omega) (by omega) o2, o3⟩
  · rw [t1]; exact rf_keepS h.r1 hc
  · obtain ⟨F2, k⟩ := h.f2
    exact ⟨F2, fa_ofS k (fun q e _ _ _ => hM q e (by omega) (by omega))⟩
  · obtain ⟨F3, k1, k2⟩ := h.f3
    refine ⟨F3, fa_ofS k1 (fun q e _ _ _ => hM q e (by omega) (by omega)), ?_⟩
    rw [t10, t2]
    rcases k2 with k2 | ⟨k2, n3, m3, k3⟩
    · exact Or.inl k2
    · exact Or.inr ⟨k2, n3, m3, rf_keepS k3 hc⟩
  · by_cases e : d' = d
    · subst e; exact hsr
    · exact sr_ofS (h.sh d' hd') (fun q e' hq => hM q e' (by unfold rf_a at hq; omega) (by unfold rf_a at hq; omega)) (hk d' hd' e)
  · obtain ⟨f, g1, g2⟩ := h.g0
    exact ⟨f, hM _ _ (by omega) (by omega) g1, g2⟩
  · obtain ⟨f, g1⟩ := h.g1 i hi
    exact ⟨f, hM _ _ (by omega) (by omega) g1⟩
  · obtain ⟨f, g1⟩ := h.wa
    exact ⟨f, hM _ _ (by omega) (by omega) g1⟩
  · obtain ⟨f, g1⟩ := h.ch
    exact ⟨f, hM _ _ (by omega) (by omega) g1⟩
/-- both have done the same, and cells came -/
theorem wd_ofz {M1 : ah_h} {τ1 τ2 : md_T} {n1 m1 z' : Nat} {F2 : fl_T} (h : wd b M z τ) (hc : cs b M1 τ1 n1 m1 F2) (hf : ∀ q, b + 53 ≤ q → q < z → M1 q = M q) (hz' : z ≤ z') (hn' : ∀ q, z' ≤ q → M1 q = none) (ht : te τ1 τ2) : ma M1 (b + 53) τ ∧ wd b (md (b + 53) τ2 M1) z' τ2 := by
  obtain ⟨-, hm, ⟨f, ho⟩, hz, hn⟩ := h
  have hm1 : ma M1 (b + 53) τ := ma_of hm (fun q h1 _ => hf q h1 (by omega))
  refine ⟨hm1, ⟨n1, m1, F2, cs_md (cs_te hc ht) τ2⟩, ma_md, ⟨f, ?_⟩, by omega, fun q hq => ?_⟩
  · rw [md_out (by omega), hf _ (by omega) (by omega)]; exact ho
  · rw [md_out (by omega)]; exact hn' q hq
theorem wd_same {A : Type} (h : wd b M z τ) (r : ah_h → Option (A × ah_h)) {v : A} (e : r (md (b + 53) τ M) = some (v, md (b + 53) τ M)) : r M = some (v, M) := by
  have hm : md (b + 53) τ M = M := h.2.1
  rw [hm] at e
  exact e
theorem shA_nothing {h : Nat} {cap : Option Nat} {so si : Int32} {el : Nat → Int32} (H : shA M h cap so si el) : ∃ M3, fX7_holdNothing M h = some M3 ∧ shA M3 h none (-1) 0 el ∧ ∀ q, q ≠ h → M3 q = M q := by
  obtain ⟨h1, h2⟩ := id H
  unfold fX7_holdNothing
  rw [H.ob, Option.bind_some, ah_pf7_0 h1, Option.bind_some, ah_pf7_1 (ah_up_self _ _ _), Option.bind_some, ah_pf7_2 (ah_up_self _ _ _), Option.bind_some]
  refine ⟨_, rfl, ⟨ah_up_self _ _ _, ?_⟩, fun q hq => ?_⟩
  · rw [ah_up_ne _ _ (by omega), ah_up_ne _ _ (by omega), ah_up_ne _ _ (by omega)]; exact h2
  · rw [ah_up_ne _ _ hq, ah_up_ne _ _ hq, ah_up_ne _ _ hq]
theorem shA_captain {h c : Nat} {cap : Option Nat} {so si : Int32} {el : Nat → Int32} (H : shA M h cap so si el) : ∃ M3, fX7_holdCaptain M h c = some M3 ∧ shA M3 h (some c) (-1) 0 el ∧ ∀ q, q ≠ h → M3 q = M q := by
  obtain ⟨M1, e1, H1, o1⟩ := shA_nothing H
  unfold fX7_holdCaptain
  rw [H.ob, Option.bind_some, e1, Option.bind_some, ah_pf7_0 H1.1, Option.bind_some]
  refine ⟨_, rfl, ⟨ah_up_self _ _ _, ?_⟩, fun q hq => ?_⟩
  · rw [ah_up_ne _ _ (by omega)]; exact H1.2
  · rw [ah_up_ne _ _ hq, o1 q hq]
theorem shA_zero {h : Nat} {so si : Int32} {el : Nat → Int32} (H : shA M h none so si el) : ∃ M3, fX7_holdRow_16 ah_fu M h 0 = some M3 ∧ (∃ el', shA M3 h none so si el' ∧ ∀ j, j < 100 → el' j = 0) ∧ ∀ q, q ≠ h + 1 → M3 q = M q := by
  refine pl_run (fun w (N : ah_h) k => fX7_holdRow_16 w N h (nI k)) 100 (fun k N => (∃ el', shA N h none so si el' ∧ ∀ j, j < k → el' j = 0) ∧ ∀ q, q ≠ h + 1 → N q = M q) (fun N => (∃ el', shA N h none so si el' ∧ ∀ j, j < 100 → el' j = 0) ∧ ∀ q, q ≠ h + 1 → N q = M q) ?_ ?_ ah_fu M 0 (by decide) (by decide) ⟨⟨el, H, fun j hj => by omega⟩, fun _ _ => rfl⟩
  · rintro w N k hk ⟨⟨el', H', hz⟩, ho⟩
    refine Or.inl ⟨ah_up N (h + 1) (ah_I 100 (upd el' k 0)), ?_, ⟨upd el' k 0, ⟨?_, ah_up_self _ _ _⟩, fun j hj => ?_⟩, fun q hq => ?_⟩
    · show fX7_holdRow_16_b (fX7_holdRow_16 w) N h (nI k) = _
      unfold fX7_holdRow_16_b
      rw [if_neg (pl_nle (x := 100) 100 rfl hk (by decide)), H'.r3, Option.bind_some, ah_si_at H'.2 hk (by decide), Option.bind_some, nI_1]
    · rw [ah_up_ne _ _ (by omega)]; exact H'.1
    · by_cases e : j = k
      · subst e; exact pk_us
      · rw [pk_un e]; exact hz j (by omega)
    · rw [ah_up_ne _ _ hq]; exact ho q hq
  · rintro w N hI
    refine ⟨N, ?_, hI⟩
    show fX7_holdRow_16_b (fX7_holdRow_16 w) N h (nI 100) = _
    unfold fX7_holdRow_16_b
    rw [if_pos (by decide)]
theorem shA_row {h : Nat} {cap : Option Nat} {so si : Int32} {el : Nat → Int32} (H : shA M h cap so si el) (x y : Int32) : ∃ M3, fX7_holdRow M h x y = some M3 ∧ (∃ el', shA M3 h none x y el' ∧ ∀ j, j < 100 → el' j = 0) ∧ ∀ q, q ≠ h → q ≠ h + 1 → M3 q = M q := by
  obtain ⟨M1, e1, H1, o1⟩ := shA_nothing H
  unfold fX7_holdRow
  rw [H.ob, Option.bind_some, e1, Option.bind_some, ah_pf7_1 H1.1, Option.bind_some, ah_pf7_2 (ah_up_self _ _ _), Option.bind_some]
  have H2 : shA (ah_up (ah_up M1 h (ah_O 7 [va_rf none, .int x, .int 0, .ref (h + 1)])) h (ah_O 7 [va_rf none, .int x, .int y, .ref (h + 1)])) h none x y el := by
    refine ⟨ah_up_self _ _ _, ?_⟩
    rw [ah_up_ne _ _ (by omega), ah_up_ne _ _ (by omega)]
    exact H1.2
  obtain ⟨M3, f1, f2, f3⟩ := shA_zero H2
  refine ⟨M3, f1, f2, fun q h1 h2 => ?_⟩
  rw [f3 q h2, ah_up_ne _ _ h1, ah_up_ne _ _ h1, o1 q h1]
end KEEPS
