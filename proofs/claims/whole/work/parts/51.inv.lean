/-! PURE LEVEL, 12: the whole world: the class's object, its shelves, the reference beside it -/
theorem md_md {a : Nat} {τ τ' : md_T} {M : ah_h} : md a τ' (md a τ M) = md a τ' M := by
  funext q
  unfold md
  by_cases h : a ≤ q ∧ q < a + 15
  · rw [if_pos h, if_pos h]
  · rw [if_neg h, if_neg h, if_neg h]
/-- at a there is the reference with τ -/
def ma (M : ah_h) (a : Nat) (τ : md_T) : Prop := md a τ M = M
theorem ma_md {a : Nat} {τ : md_T} {M0 : ah_h} : ma (md a τ M0) a τ := md_md
theorem ma_of {M M' : ah_h} {a : Nat} {τ : md_T} (h : ma M a τ) (hq : ∀ q, a ≤ q → q < a + 15 → M' q = M q) : ma M' a τ := by
  unfold ma at *
  funext q
  have := congrFun h q
  unfold md at this ⊢
  by_cases hc : a ≤ q ∧ q < a + 15
  · rw [if_pos hc] at this ⊢
    rw [hq q hc.1 hc.2]
    exact this
  · rw [if_neg hc]
theorem md_out {a q : Nat} {τ : md_T} {M0 : ah_h} (h : q < a ∨ a + 15 ≤ q) : md a τ M0 q = M0 q := by
  unfold md
  rw [if_neg (by omega)]
/-- the class's object -/
def co (b : Nat) (M : ah_h) (tk : Int32) : Prop := M b = some (ah_O 10 [.ref (b + 1), .ref (b + 10), .ref (b + 19), .int tk, .ref (b + 28), .ref (b + 45), .ref (b + 51), .ref (b + 52)]) ∧ ∃ f, M (b + 28) = some (ah_R 3 8 f) ∧ ∀ d, d < 8 → f d = some (b + 29 + 2 * d)
section CO
variable {b : Nat} {M : ah_h} {tk : Int32}
theorem co.ob (h : co b M tk) : ah_ob M b 10 = some [.ref (b + 1), .ref (b + 10), .ref (b + 19), .int tk, .ref (b + 28), .ref (b + 45), .ref (b + 51), .ref (b + 52)] := by
  unfold ah_ob
  rw [h.1]
  rfl
theorem co.r0 (h : co b M tk) : ah_gr M b 10 0 = some (b + 1) := by unfold ah_gr; rw [h.ob]; rfl
theorem co.r1 (h : co b M tk) : ah_gr M b 10 1 = some (b + 10) := by unfold ah_gr; rw [h.ob]; rfl
theorem co.r2 (h : co b M tk) : ah_gr M b 10 2 = some (b + 19) := by unfold ah_gr; rw [h.ob]; rfl
theorem co.i3 (h : co b M tk) : ah_gi M b 10 3 = some tk := by unfold ah_gi; rw [h.ob]; rfl
theorem co.r4 (h : co b M tk) : ah_gr M b 10 4 = some (b + 28) := by unfold ah_gr; rw [h.ob]; rfl
theorem co.r5 (h : co b M tk) : ah_gr M b 10 5 = some (b + 45) := by unfold ah_gr; rw [h.ob]; rfl
theorem co.r6 (h : co b M tk) : ah_gr M b 10 6 = some (b + 51) := by unfold ah_gr; rw [h.ob]; rfl
theorem co.r7 (h : co b M tk) : ah_gr M b 10 7 = some (b + 52) := by unfold ah_gr; rw [h.ob]; rfl
theorem co.sh (h : co b M tk) {d : Nat} (hd : d < 8) : ah_ar M (b + 28) 3 (nI d) = some (b + 29 + 2 * d) := by
  obtain ⟨-, f, h1, h2⟩ := h
  unfold ah_ar
  rw [h1]
  show (if 3 = 3 ∧ ah_in (nI d) 8 = true then f (nI d).toNatClampNeg else none) = _
  rw [if_pos ⟨rfl, pl_in hd (by decide)⟩, nI_clamp (by omega), h2 d hd]
theorem co_of (h : co b M tk) {M' : ah_h} (h0 : M' b = M b) (h1 : M' (b + 28) = M (b + 28)) : co b M' tk := ⟨h0.trans h.1, h.2.elim fun f hf => ⟨f, h1.trans hf.1, hf.2⟩⟩
end CO
/-- a shelf at h -/
def shA (M : ah_h) (h : Nat) (cap : Option Nat) (so si : Int32) (el : Nat → Int32) : Prop := M h = some (ah_O 7 [va_rf cap, .int so, .int si, .ref (h + 1)]) ∧ M (h + 1) = some (ah_I 100 el)
section SH
variable {M : ah_h} {h : Nat} {cap : Option Nat} {so si : Int32} {el : Nat → Int32}
theorem shA.ob (H : shA M h cap so si el) : ah_ob M h 7 = some [va_rf cap, .int so, .int si, .ref (h + 1)] := by
  unfold ah_ob
  rw [H.1]
  rfl
theorem shA.q0 (H : shA M h cap so si el) : ah_gq M h 7 0 = some cap := by
  unfold ah_gq
  rw [H.ob]
  cases cap <;> rfl
theorem shA.i1 (H : shA M h cap so si el) : ah_gi M h 7 1 = some so := by unfold ah_gi; rw [H.ob]; rfl
theorem shA.i2 (H : shA M h cap so si el) : ah_gi M h 7 2 = some si := by unfold ah_gi; rw [H.ob]; rfl
theorem shA.r3 (H : shA M h cap so si el) : ah_gr M h 7 3 = some (h + 1) := by unfold ah_gr; rw [H.ob]; rfl
theorem shA.ai (H : shA M h cap so si el) {k : Nat} (hk : k < 100) : ah_ai M (h + 1) (nI k) = some (el k) := by
  unfold ah_ai
  rw [H.2]
  show (if ah_in (nI k) 100 = true then some (el (nI k).toNatClampNeg) else none) = _
  rw [if_pos (pl_in hk (by decide)), nI_clamp (by omega)]
theorem shA.hasPlace (H : shA M h cap so si el) {s : Nat} (hs : si = nI s) (x : Int32) : fX7_hasPlace M h x = some (sp_is s x) := by
  unfold fX7_hasPlace sp_is
  rw [H.ob, Option.bind_some, H.i2, Option.bind_some, hs]
  by_cases h0 : x < 0
  · rw [if_pos h0, if_pos h0]
  · rw [if_neg h0, if_neg h0]
    by_cases h1 : nI s ≤ x
    · rw [if_pos h1, if_pos h1]
    · rw [if_neg h1, if_neg h1]
theorem shA.at (H : shA M h cap so si el) {s k : Nat} (hs : si = nI s) (hs100 : s ≤ 100) (hk : k < s) : fX7_at M h (nI k) = some (el k) := by
  unfold fX7_at
  rw [H.ob, Option.bind_some, H.hasPlace hs, Option.bind_some, sp_is_in (by omega) hk, if_neg (by decide), H.r3, Option.bind_some, H.ai (by omega), Option.bind_some]
theorem shA.meetings (H : shA M h cap so si el) {s : Nat} (hs : si = nI s) (hs100 : s ≤ 100) : fX7_meetings M h = some (nI (s / 2)) := by
  unfold fX7_meetings
  rw [H.ob, Option.bind_some, H.i2, Option.bind_some, hs, show (2 : Int32) = nI 2 from rfl, pk_div (by omega) (by decide) (by decide)]
theorem shA.one (H : shA M h cap so si el) {s k : Nat} (hs : si = nI s) (hs100 : s ≤ 100) (hk : 2 * k < s) : fX7_one M h (nI k) = some (el (2 * k)) := by
  unfold fX7_one
  rw [H.ob, Option.bind_some, show (2 : Int32) = nI 2 from rfl, pk_mul, H.at hs hs100 hk, Option.bind_some]
theorem shA.other (H : shA M h cap so si el) {s k : Nat} (hs : si = nI s) (hs100 : s ≤ 100) (hk : 2 * k + 1 < s) : fX7_other M h (nI k) = some (el (2 * k + 1)) := by
  unfold fX7_other
  rw [H.ob, Option.bind_some, show (2 : Int32) = nI 2 from rfl, pk_mul, nI_1, H.at hs hs100 hk, Option.bind_some]
theorem shA_of (H : shA M h cap so si el) {M' : ah_h} (h0 : M' h = M h) (h1 : M' (h + 1) = M (h + 1)) : shA M' h cap so si el := ⟨h0.trans H.1, h1.trans H.2⟩
end SH
/-- a shelf of the class holds what the reference's shelf holds -/
def sr (b : Nat) (M : ah_h) (τ : md_T) (d : Nat) : Prop := ∃ cap so si el, shA M (b + 29 + 2 * d) cap so si el ∧
  ((τ.1 5 d = 0 ∧ cap = none ∧ so = -1) ∨
   (τ.1 5 d = 1 ∧ so = -1 ∧ ∃ c kd fg, cap = some c ∧ rf_a b c ∧ cp M c kd fg ∧ τ.1 9 d = nI kd ∧ τ.1 10 d = nI fg) ∨
   (τ.1 5 d = 2 ∧ cap = none ∧ ∃ t s, t < 3 ∧ s ≤ 100 ∧ so = nI t ∧ si = nI s ∧ τ.1 6 d = nI t ∧ τ.1 7 d = nI s ∧ ∀ k, k < 100 → el k = τ.1 8 (100 * d + k)))
/-- the refusal of a row -/
def sp_wr (τ : md_T) (x o : Int32) : Int32 := if sp_is 8 x = 0 then -1 else if τ.1 5 x.toNatClampNeg = 0 then -11 else if τ.1 5 x.toNatClampNeg = 2 then (if o < 0 then 0 else if τ.1 6 x.toNatClampNeg = o then 0 else -12) else -12
def sp_wk (τ : md_T) (x : Int32) : Int32 := if sp_is 8 x = 0 then -1 else if τ.1 5 x.toNatClampNeg = 0 then -11 else if τ.1 5 x.toNatClampNeg = 1 then 0 else -12
theorem md_k5 {a d : Nat} {τ : md_T} {M0 : ah_h} (hd : d < 8) : ah_ai (md a τ M0) (a + 5) (nI d) = some (τ.1 5 d) := md_ai (k := 5) (by decide) (by decide) (by decide) hd
theorem md_k6 {a d : Nat} {τ : md_T} {M0 : ah_h} (hd : d < 8) : ah_ai (md a τ M0) (a + 6) (nI d) = some (τ.1 6 d) := md_ai (k := 6) (by decide) (by decide) (by decide) hd
theorem md_k7 {a d : Nat} {τ : md_T} {M0 : ah_h} (hd : d < 8) : ah_ai (md a τ M0) (a + 7) (nI d) = some (τ.1 7 d) := md_ai (k := 7) (by decide) (by decide) (by decide) hd
theorem md_k8 {a d : Nat} {τ : md_T} {M0 : ah_h} (hd : d < 800) : ah_ai (md a τ M0) (a + 8) (nI d) = some (τ.1 8 d) := md_ai (k := 8) (by decide) (by decide) (by decide) hd
theorem md_k9 {a d : Nat} {τ : md_T} {M0 : ah_h} (hd : d < 8) : ah_ai (md a τ M0) (a + 9) (nI d) = some (τ.1 9 d) := md_ai (k := 9) (by decide) (by decide) (by decide) hd
theorem md_k10 {a d : Nat} {τ : md_T} {M0 : ah_h} (hd : d < 8) : ah_ai (md a τ M0) (a + 10) (nI d) = some (τ.1 10 d) := md_ai (k := 10) (by decide) (by decide) (by decide) hd
theorem md_wrongRow {a : Nat} {τ : md_T} {M0 : ah_h} (x o : Int32) : fX11_wrongRow (md a τ M0) a x o = some (sp_wr τ x o) := by
  unfold fX11_wrongRow sp_wr
  rw [md_ob, Option.bind_some, md_isShelf, Option.bind_some, md_r4, Option.bind_some, Option.bind_some, md_r5, Option.bind_some]
  rcases sp_is_cases (n := 8) (by decide) x with hx | ⟨d, hd, rfl, hx⟩
  · rw [hx, if_pos rfl, if_pos rfl]
  · rw [hx, nI_clamp (by omega)]
    have e10 : ¬ (1 : Int32) = 0 := by decide
    simp only [e10, if_false, md_k5 hd, md_k6 hd, Option.bind_some]
    split
    · rfl
    split
    · split
      · rfl
      split <;> rfl
    · rfl
theorem md_wrongKept {a : Nat} {τ : md_T} {M0 : ah_h} (x : Int32) : fX11_wrongKept (md a τ M0) a x = some (sp_wk τ x) := by
  unfold fX11_wrongKept sp_wk
  rw [md_ob, Option.bind_some, md_isShelf, Option.bind_some, md_r4, Option.bind_some, Option.bind_some]
  rcases sp_is_cases (n := 8) (by decide) x with hx | ⟨d, hd, rfl, hx⟩
  · rw [hx, if_pos rfl, if_pos rfl]
  · rw [hx, nI_clamp (by omega)]
    have e10 : ¬ (1 : Int32) = 0 := by decide
    simp only [e10, if_false, md_k5 hd, Option.bind_some]
    split
    · rfl
    split <;> rfl
theorem co_isShelf (M : ah_h) (x : Int32) : fX10_isShelf M x = some (sp_is 8 x) := by
  unfold fX10_isShelf sp_is
  by_cases h0 : x < 0
  · rw [if_pos h0, if_pos h0]
  · rw [if_neg h0, if_neg h0]
    show (if nI 8 ≤ x then _ else _) = _
    by_cases h1 : nI 8 ≤ x
    · rw [if_pos h1, if_pos h1]
    · rw [if_neg h1, if_neg h1]
section REF
variable {b : Nat} {M : ah_h} {tk : Int32} {τ : md_T}
theorem co_refRow (h : co b M tk) (hs : ∀ d, d < 8 → sr b M τ d) (x : Int32) : fX10_refusalOfRow M b x = some (sp_wr τ x (-1)) := by
  unfold fX10_refusalOfRow sp_wr
  rw [h.ob, Option.bind_some, co_isShelf, Option.bind_some, h.r4, Option.bind_some, Option.bind_some]
  rcases sp_is_cases (n := 8) (by decide) x with hx | ⟨d, hd, rfl, hx⟩
  · rw [hx, if_pos rfl, if_pos rfl]
  · rw [hx, nI_clamp (by omega)]
    have e10 : ¬ (1 : Int32) = 0 := by decide
    obtain ⟨cap, so, si, el, H, hc⟩ := hs d hd
    simp only [e10, if_false, h.sh hd, Option.bind_some]
    unfold fX7_holdsNothing fX7_holdsRow
    rw [H.ob, Option.bind_some, H.q0, Option.bind_some, H.i1, Option.bind_some, Option.bind_some, Option.bind_some]
    rcases hc with ⟨k1, rfl, rfl⟩ | ⟨k1, rfl, c, kd, fg, rfl, -⟩ | ⟨k1, rfl, t, s, ht, -, rfl, -⟩
    · rw [k1]; rfl
    · rw [k1]; rfl
    · rw [k1, if_pos rfl, if_pos (nI_pos' (by omega)), Option.bind_some, if_pos rfl, if_neg (nI_pos (by omega)), Option.bind_some]; rfl
theorem co_refBytes (h : co b M tk) (hs : ∀ d, d < 8 → sr b M τ d) (x : Int32) : fX10_refusalOfBytes M b x = some (sp_wr τ x 0) := by
  unfold fX10_refusalOfBytes
  rw [h.ob, Option.bind_some, co_refRow h hs, Option.bind_some, h.r4, Option.bind_some]
  unfold sp_wr
  rcases sp_is_cases (n := 8) (by decide) x with hx | ⟨d, hd, rfl, hx⟩
  · rw [hx]; rfl
  · rw [hx, nI_clamp (by omega)]
    have e10 : ¬ (1 : Int32) = 0 := by decide
    obtain ⟨cap, so, si, el, H, hc⟩ := hs d hd
    simp only [e10, if_false, h.sh hd, Option.bind_some, H.i1]
    rcases hc with ⟨k1, rfl, rfl⟩ | ⟨k1, rfl, c, kd, fg, rfl, -⟩ | ⟨k1, rfl, t, s, ht, -, rfl, -, k6, -⟩
    · rw [k1]; rfl
    · rw [k1]; rfl
    · rw [k1, k6]
      rcases (show t = 0 ∨ t = 1 ∨ t = 2 by omega) with rfl | rfl | rfl <;> rfl
theorem co_refCap (h : co b M tk) (hs : ∀ d, d < 8 → sr b M τ d) (x : Int32) : fX10_refusalOfCaptain M b x = some (sp_wk τ x) := by
  unfold fX10_refusalOfCaptain sp_wk
  rw [h.ob, Option.bind_some, co_isShelf, Option.bind_some, h.r4, Option.bind_some, Option.bind_some]
  rcases sp_is_cases (n := 8) (by decide) x with hx | ⟨d, hd, rfl, hx⟩
  · rw [hx, if_pos rfl, if_pos rfl]
  · rw [hx, nI_clamp (by omega)]
    have e10 : ¬ (1 : Int32) = 0 := by decide
    obtain ⟨cap, so, si, el, H, hc⟩ := hs d hd
    simp only [e10, if_false, h.sh hd, Option.bind_some]
    unfold fX7_holdsNothing
    rw [H.ob, Option.bind_some, H.q0, Option.bind_some, H.i1, Option.bind_some, Option.bind_some]
    rcases hc with ⟨k1, rfl, rfl⟩ | ⟨k1, rfl, c, kd, fg, rfl, -⟩ | ⟨k1, rfl, t, s, ht, -, rfl, -⟩
    · rw [k1]; rfl
    · rw [k1]; rfl
    · rw [k1, if_pos rfl, if_pos (nI_pos' (by omega)), Option.bind_some, if_pos rfl]; rfl
end REF
