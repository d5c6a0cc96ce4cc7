/-! PURE LEVEL, 35: the form of a fleet's text -/
/-- how many signs a statement has behind its letter -/
def sp_sg (c : Int32) : Nat := if c = 109 then 4 else if c = 115 then 3 else if c = 120 then 3 else 0
theorem sp_sg_cases (c : Int32) : sp_sg c = 0 ∧ ¬ c = 109 ∧ ¬ c = 115 ∧ ¬ c = 120 ∨ sp_sg c = 4 ∧ c = 109 ∨ sp_sg c = 3 ∧ (c = 115 ∨ c = 120) ∧ ¬ c = 109 := by
  unfold sp_sg
  by_cases h1 : c = 109
  · rw [if_pos h1]; exact Or.inr (Or.inl ⟨rfl, h1⟩)
  rw [if_neg h1]
  by_cases h2 : c = 115
  · rw [if_pos h2]; exact Or.inr (Or.inr ⟨rfl, Or.inl h2, h1⟩)
  rw [if_neg h2]
  by_cases h3 : c = 120
  · rw [if_pos h3]; exact Or.inr (Or.inr ⟨rfl, Or.inr h3, h1⟩)
  · rw [if_neg h3]; exact Or.inl ⟨rfl, h1, h2, h3⟩
theorem c_signs (M : ah_h) (c : Int32) : fX10_signsBehind M c = some (nI (sp_sg c)) := by
  unfold fX10_signsBehind sp_sg
  split
  · rfl
  split
  · rfl
  split <;> rfl
/-- r signs from place p on: none, or where it goes wrong -/
def sp_scn (E : Nat → Int32) (s : Nat) : Nat → Nat → Option Nat
  | 0, _ => none
  | r + 1, p => if s ≤ p then some s else if (if r = 0 then E p = 59 else ¬ E p < 48 ∧ ¬ 57 < E p) then sp_scn E s r (p + 1) else some p
/-- a statement at p: none, or where it goes wrong -/
def sp_sta (E : Nat → Int32) (s p : Nat) : Option Nat := if s ≤ p then some s else if sp_sg (E p) = 0 then some p else sp_scn E s (sp_sg (E p)) (p + 1)
/-- statements from p on: where it goes wrong, or how many they are -/
def sp_fm (E : Nat → Int32) (s : Nat) : Nat → Nat → Nat → Nat ⊕ Nat
  | 0, _, N => .inr N
  | v + 1, p, N => match sp_sta E s p with
    | some f => .inl f
    | none => if s ≤ p + sp_sg (E p) + 1 then .inr (N + 1) else sp_fm E s v (p + sp_sg (E p) + 1) (N + 1)
theorem sp_scn_le {E : Nat → Int32} {s : Nat} : ∀ (r p : Nat), p ≤ s → (sp_scn E s r p = none → p + r ≤ s) ∧ ∀ f, sp_scn E s r p = some f → f ≤ s
  | 0, p, h => ⟨fun _ => h, fun f hf => by cases hf⟩
  | r + 1, p, h => by
    unfold sp_scn
    by_cases c : s ≤ p
    · rw [if_pos c]
      exact ⟨fun q => by (cases q), fun f hf => by cases hf; exact Nat.le_refl _⟩
    · rw [if_neg c]
      by_cases c2 : (if r = 0 then E p = 59 else ¬ E p < 48 ∧ ¬ 57 < E p)
      · rw [if_pos c2]
        have := sp_scn_le (E := E) r (p + 1) (show p + 1 ≤ s by omega)
        exact ⟨fun q => by have := this.1 q; omega, this.2⟩
      · rw [if_neg c2]
        exact ⟨fun q => by (cases q), fun f hf => by cases hf; omega⟩
theorem sp_sta_none {E : Nat → Int32} {s p : Nat} (h : sp_sta E s p = none) : p + sp_sg (E p) + 1 ≤ s ∧ ¬ sp_sg (E p) = 0 ∧ p < s := by
  unfold sp_sta at h
  by_cases c : s ≤ p
  · rw [if_pos c] at h; cases h
  rw [if_neg c] at h
  by_cases c2 : sp_sg (E p) = 0
  · rw [if_pos c2] at h; cases h
  rw [if_neg c2] at h
  have := (sp_scn_le (E := E) (sp_sg (E p)) (p + 1) (show p + 1 ≤ s by omega)).1 h
  exact ⟨by omega, c2, by omega⟩
section FORMC
variable {M : ah_h} {h s : Nat} {el : Nat → Int32}
theorem c_scan (H : shA M h none (nI 0) (nI s) el) (hs : s ≤ 100) : ∀ (r p v : Nat), p ≤ s → r ≤ 4 → s - p < v → (∃ f, sp_scn el s r p = some f ∧ (0 < r → fX10_faultOfForm_4 M v h (nI r) (nI p) = some (nI f))) ∨ (sp_scn el s r p = none ∧ ∃ v', s - (p + r) < v' ∧ fX10_faultOfForm_4 M v h (nI r) (nI p) = fX10_faultOfForm_4 M v' h 0 (nI (p + r)))
  | 0, p, v, hp, _, hv => Or.inr ⟨rfl, v, hv, rfl⟩
  | r + 1, p, v, hp, hr, hv => by
    obtain ⟨v, rfl⟩ : ∃ v', v = v' + 1 := ⟨v - 1, by omega⟩
    have unf : fX10_faultOfForm_4 M (v + 1) h (nI (r + 1)) (nI p) = fX10_faultOfForm_4_b (fX10_faultOfForm_4 M v) M h (nI (r + 1)) (nI p) := rfl
    have ne0 : ¬ nI (r + 1) = 0 := nI_ne0 (by omega) (by omega)
    unfold sp_scn
    by_cases c : s ≤ p
    · rw [if_pos c]
      refine Or.inl ⟨s, rfl, fun _ => ?_⟩
      rw [unf]
      unfold fX10_faultOfForm_4_b fX10_faultOfForm_103
      rw [H.i2, Option.bind_some, if_pos (nI_le c (by omega)), if_neg ne0, Option.bind_some]
    rw [if_neg c]
    have hat : fX7_at M h (nI p) = some (el p) := H.at rfl hs (by omega)
    have step : fX10_faultOfForm_4 M (v + 1) h (nI (r + 1)) (nI p) = if (if r = 0 then el p = 59 else ¬ el p < 48 ∧ ¬ 57 < el p) then fX10_faultOfForm_4 M v h (nI r) (nI (p + 1)) else some (nI p) := by
      rw [unf]
      unfold fX10_faultOfForm_4_b fX10_faultOfForm_69 fX10_faultOfForm_68 fX10_faultOfForm_69 fX10_faultOfForm_81
      rw [H.i2, Option.bind_some, if_neg (nI_ge (by omega) (by omega)), hat, Option.bind_some, if_neg ne0, pk_m1, nI_1, if_pos rfl, if_neg (show ¬ (1 : Int32) = 0 by decide)]
      by_cases c1 : r = 0
      · subst c1
        rw [if_pos (by decide)]
        simp only [eq_self, if_true]
      · rw [if_neg (fun q => c1 (by have := (nI_eq (a := r + 1) (b := 1) (by omega) (by decide)).mp q; omega))]
        simp only [c1, if_false]
        by_cases c2 : el p < 48
        · rw [if_pos c2, if_neg (fun q => q.1 c2)]
        · rw [if_neg c2]
          by_cases c3 : 57 < el p
          · rw [if_pos c3, if_neg (fun q => q.2 c3)]
          · rw [if_neg c3, if_pos ⟨c2, c3⟩]
    rw [step]
    by_cases c2 : (if r = 0 then el p = 59 else ¬ el p < 48 ∧ ¬ 57 < el p)
    · rw [if_pos c2, if_pos c2]
      by_cases c3 : r = 0
      · subst c3
        exact Or.inr ⟨rfl, v, by omega, rfl⟩
      · rcases c_scan H hs r (p + 1) v (by omega) (by omega) (by omega) with ⟨f, q1, q2⟩ | ⟨q1, v', q2, q3⟩
        · exact Or.inl ⟨f, q1, fun _ => q2 (by omega)⟩
        · exact Or.inr ⟨q1, v', by omega, by rw [q3, show p + 1 + r = p + (r + 1) by omega]⟩
    · rw [if_neg c2, if_neg c2]
      exact Or.inl ⟨p, rfl, fun _ => rfl⟩
theorem c_form (H : shA M h none (nI 0) (nI s) el) (hs : s ≤ 100) : ∀ (u p v N : Nat), p < s → s - p < u → s - p < v → fX10_faultOfForm_4 M v h 0 (nI p) = (match sp_fm el s u p N with | .inl f => some (nI f) | .inr _ => some (-4)) := by
  intro u
  induction u with
  | zero => intro p v N _ h; omega
  | succ u ih =>
    intro p v N hp hu hv
    obtain ⟨v, rfl⟩ : ∃ v', v = v' + 1 := ⟨v - 1, by omega⟩
    have hat : fX7_at M h (nI p) = some (el p) := H.at rfl hs (by omega)
    have hq := sp_sg_cases (el p)
    have hq4 : sp_sg (el p) ≤ 4 := by omega
    have step : fX10_faultOfForm_4 M (v + 1) h 0 (nI p) = if sp_sg (el p) = 0 then some (nI p) else fX10_faultOfForm_4 M v h (nI (sp_sg (el p))) (nI (p + 1)) := by
      show fX10_faultOfForm_4_b _ _ _ _ _ = _
      unfold fX10_faultOfForm_4_b fX10_faultOfForm_81
      rw [H.i2, Option.bind_some, if_neg (nI_ge hp (by omega)), hat, Option.bind_some, if_pos rfl, c_signs, Option.bind_some, nI_1]
      by_cases c : sp_sg (el p) = 0
      · rw [if_pos c, c, if_pos nI_0]
      · rw [if_neg c, if_neg (nI_ne0 (by omega) (by omega))]
    rw [step]
    have efm : sp_fm el s (u + 1) p N = match sp_sta el s p with | some f => .inl f | none => if s ≤ p + sp_sg (el p) + 1 then .inr (N + 1) else sp_fm el s u (p + sp_sg (el p) + 1) (N + 1) := rfl
    rw [efm]
    have esta : sp_sta el s p = if sp_sg (el p) = 0 then some p else sp_scn el s (sp_sg (el p)) (p + 1) := by unfold sp_sta; rw [if_neg (by omega)]
    rw [esta]
    by_cases c : sp_sg (el p) = 0
    · rw [if_pos c, if_pos c]
    rw [if_neg c, if_neg c]
    rcases c_scan H hs (sp_sg (el p)) (p + 1) v (by omega) hq4 (by omega) with ⟨f, q1, q2⟩ | ⟨q1, v', q2, q3⟩
    · rw [q1, q2 (by omega)]
    · rw [q1, q3]
      have hle := (sp_scn_le (E := el) (sp_sg (el p)) (p + 1) (show p + 1 ≤ s by omega)).1 q1
      dsimp only
      by_cases c2 : s ≤ p + sp_sg (el p) + 1
      · rw [if_pos c2]
        have e : p + 1 + sp_sg (el p) = s := by omega
        rw [e]
        obtain ⟨v', rfl⟩ : ∃ v2, v' = v2 + 1 := ⟨v' - 1, by omega⟩
        show fX10_faultOfForm_4_b _ _ _ _ _ = _
        unfold fX10_faultOfForm_4_b
        rw [H.i2, Option.bind_some, if_pos (nI_le (Nat.le_refl _) (by omega)), if_pos rfl, Option.bind_some, if_neg (nI_nle (by omega) (by omega))]
      · rw [if_neg c2, show p + 1 + sp_sg (el p) = p + sp_sg (el p) + 1 by omega]
        exact ih (p + sp_sg (el p) + 1) v' (N + 1) (by omega) (by omega) (by omega)
theorem c_fault (H : shA M h none (nI 0) (nI s) el) (hs : s ≤ 100) : fX10_faultOfForm M h = (match sp_fm el s 101 0 0 with | .inl f => some (nI f) | .inr _ => some (-4)) := by
  unfold fX10_faultOfForm
  by_cases c : 0 < s
  · exact c_form H hs 101 0 ah_fu 0 c (by omega) (by unfold ah_fu; omega)
  · have : s = 0 := by omega
    subst this
    show fX10_faultOfForm_4_b _ _ _ _ _ = _
    unfold fX10_faultOfForm_4_b fX10_faultOfForm_103
    rw [H.i2, Option.bind_some, if_pos (by decide), if_pos rfl, Option.bind_some, if_pos (by decide), Option.bind_some]
    rfl
end FORMC
/-! .. by the reference -/
/-- what reading changes: the place, the numbers -/
def tn (τ τ' : md_T) : Prop := (∀ k, k ≠ 11 → τ'.1 k = τ.1 k) ∧ τ'.2.1 = τ.2.1 ∧ ∀ k, k ≠ 14 → τ'.2.2 k = τ.2.2 k
theorem tn.rfl' {τ : md_T} : tn τ τ := ⟨fun _ _ => rfl, rfl, fun _ _ => rfl⟩
theorem tn.trans {τ τ' τ'' : md_T} (h : tn τ τ') (h' : tn τ' τ'') : tn τ τ'' := ⟨fun k hk => (h'.1 k hk).trans (h.1 k hk), h'.2.1.trans h.2.1, fun k hk => (h'.2.2 k hk).trans (h.2.2 k hk)⟩
theorem tn_V (τ : md_T) (v : Int32) : tn τ (md_V τ 14 v) := ⟨fun _ _ => rfl, rfl, fun k hk => md_Vn _ _ hk⟩
theorem tn_A (τ : md_T) (f : Nat → Int32) : tn τ (md_A τ 11 f) := ⟨fun k hk => by simp [md_A, hk], rfl, fun _ _ => rfl⟩
/-- it reads shelf d, of size s, at place p -/
def tp (τ : md_T) (d s p : Nat) : Prop := τ.2.2 14 = nI p ∧ τ.2.2 15 = nI (100 * d) ∧ τ.2.2 16 = nI s
section FORMM
variable {a : Nat} {M0 : ah_h} {τ : md_T} {d s p : Nat}
theorem tp.to {τ' : md_T} {p' : Nat} (h : tp τ d s p) (ht : tn τ τ') (e : τ'.2.2 14 = nI p') : tp τ' d s p' := ⟨e, (ht.2.2 15 (by decide)).trans h.2.1, (ht.2.2 16 (by decide)).trans h.2.2⟩
theorem md_here (h : tp τ d s p) (hd : d < 8) (hs : s ≤ 100) (hp : p ≤ s) : fX11_here (md a τ M0) a = some (if s ≤ p then -1000 else τ.1 8 (100 * d + p)) := by
  unfold fX11_here
  rw [md_ob, Option.bind_some, md_i14, Option.bind_some, md_i16, Option.bind_some, h.1, h.2.2]
  by_cases c : s ≤ p
  · rw [if_pos (nI_le c (by omega)), if_pos c]
  · rw [if_neg (nI_ge (by omega) (by omega)), if_neg c, md_r7, Option.bind_some, md_i15, Option.bind_some, Option.bind_some, h.2.1, nI_add, md_k8 (by omega), Option.bind_some]
theorem md_isIn48 (M : ah_h) (x : Int32) : fX11_isIn M x.toInt64 48 57 = some (if x < 48 then 0 else if 57 < x then 0 else 1) := by
  rw [show (48 : Int64) = (48 : Int32).toInt64 from rfl, show (57 : Int64) = (57 : Int32).toInt64 from rfl, md_isIn]
theorem md_digits (hd : d < 8) (hs : s ≤ 100) {N : Nat} (hN : N ≤ 3) : ∀ (c k v : Nat) (τ : md_T) (p : Nat), k + c = N → c < v → tp τ d s p → p ≤ s → ∃ r τ', fX11_readsDigits_2 v (md a τ M0) a (nI N) (nI k) = some (r, md a τ' M0) ∧ tn τ τ' ∧ (∀ j, j < k → τ'.1 11 j = τ.1 11 j) ∧ ((r = 0 ∧ ∃ f, f ≤ s ∧ sp_scn (fun j => τ.1 8 (100 * d + j)) s (c + 1) p = some f ∧ τ'.2.2 14 = nI f) ∨ (r = 1 ∧ p + c ≤ s ∧ τ'.2.2 14 = nI (p + c) ∧ sp_scn (fun j => τ.1 8 (100 * d + j)) s (c + 1) p = sp_scn (fun j => τ.1 8 (100 * d + j)) s 1 (p + c) ∧ ∀ j, j < c → τ'.1 11 (k + j) = τ.1 8 (100 * d + (p + j)) - 48 ∧ ¬ τ.1 8 (100 * d + (p + j)) < 48 ∧ ¬ 57 < τ.1 8 (100 * d + (p + j)))) := by
  intro c
  induction c with
  | zero =>
    intro k v τ p hk hv h hp
    obtain ⟨v, rfl⟩ : ∃ v', v = v' + 1 := ⟨v - 1, by omega⟩
    refine ⟨1, τ, ?_, tn.rfl', fun _ _ => rfl, Or.inr ⟨rfl, hp, h.1, rfl, fun j hj => by omega⟩⟩
    show fX11_readsDigits_2_b _ _ _ _ _ = _
    unfold fX11_readsDigits_2_b
    rw [if_pos (nI_le (by omega) (by omega))]
  | succ c ih =>
    intro k v τ p hk hv h hp
    obtain ⟨v, rfl⟩ : ∃ v', v = v' + 1 := ⟨v - 1, by omega⟩
    have step : fX11_readsDigits_2 (v + 1) (md a τ M0) a (nI N) (nI k) = if (if s ≤ p then (-1000 : Int32) else τ.1 8 (100 * d + p)) < 48 then some (0, md a τ M0) else if 57 < (if s ≤ p then (-1000 : Int32) else τ.1 8 (100 * d + p)) then some (0, md a τ M0) else fX11_readsDigits_2 v (md a (md_V (md_A τ 11 (upd (τ.1 11) k ((if s ≤ p then (-1000 : Int32) else τ.1 8 (100 * d + p)) - 48))) 14 (nI (p + 1))) M0) a (nI N) (nI (k + 1)) := by
      show fX11_readsDigits_2_b _ _ _ _ _ = _
      unfold fX11_readsDigits_2_b
      rw [if_neg (nI_ge (by omega) (by omega)), md_here h hd hs hp, Option.bind_some, md_isIn48, Option.bind_some, md_r18, Option.bind_some, Option.bind_some, md_si (k := 11) (by decide) (by decide) (by decide) (show k < 3 by omega), Option.bind_some, md_i14, Option.bind_some, md_p14, Option.bind_some, nI_1, show (md_A τ 11 _).2.2 14 = nI p from h.1, nI_1]
      generalize (if s ≤ p then (-1000 : Int32) else τ.1 8 (100 * d + p)) = x
      by_cases c1 : x < 48
      · rw [if_pos c1, if_pos c1, if_pos rfl]
      · rw [if_neg c1, if_neg c1]
        by_cases c2 : 57 < x
        · rw [if_pos c2, if_pos c2, if_pos rfl]
        · rw [if_neg c2, if_neg c2, if_neg (by decide)]
    have esc : sp_scn (fun j => τ.1 8 (100 * d + j)) s (c + 1 + 1) p = if s ≤ p then some s else if ¬ τ.1 8 (100 * d + p) < 48 ∧ ¬ 57 < τ.1 8 (100 * d + p) then sp_scn (fun j => τ.1 8 (100 * d + j)) s (c + 1) (p + 1) else some p := by
      show (if s ≤ p then some s else if (if c + 1 = 0 then _ else _) then _ else some p) = _
      simp only [Nat.add_one_ne_zero, if_false]
    rw [step, esc]
    by_cases cs : s ≤ p
    · rw [if_pos cs, if_pos (by decide), if_pos cs]
      refine ⟨0, τ, rfl, tn.rfl', fun _ _ => rfl, Or.inl ⟨rfl, s, Nat.le_refl _, rfl, ?_⟩⟩
      rw [h.1, show p = s by omega]
    rw [if_neg cs, if_neg cs]
    by_cases c1 : τ.1 8 (100 * d + p) < 48
    · rw [if_pos c1, if_neg (fun q => q.1 c1)]
      exact ⟨0, τ, rfl, tn.rfl', fun _ _ => rfl, Or.inl ⟨rfl, p, hp, rfl, h.1⟩⟩
    rw [if_neg c1]
    by_cases c2 : 57 < τ.1 8 (100 * d + p)
    · rw [if_pos c2, if_neg (fun q => q.2 c2)]
      exact ⟨0, τ, rfl, tn.rfl', fun _ _ => rfl, Or.inl ⟨rfl, p, hp, rfl, h.1⟩⟩
    rw [if_neg c2, if_pos ⟨c1, c2⟩]
    have t1 : tn τ (md_V (md_A τ 11 (upd (τ.1 11) k (τ.1 8 (100 * d + p) - 48))) 14 (nI (p + 1))) := (tn_A τ _).trans (tn_V _ _)
    obtain ⟨r, τ', e1, e2, e3, e4⟩ := ih (k + 1) v (md_V (md_A τ 11 (upd (τ.1 11) k (τ.1 8 (100 * d + p) - 48))) 14 (nI (p + 1))) (p + 1) (by omega) (by omega) (h.to t1 (md_V1 _ _ _)) (by omega)
    have k8 : (md_V (md_A τ 11 (upd (τ.1 11) k (τ.1 8 (100 * d + p) - 48))) 14 (nI (p + 1))).1 8 = τ.1 8 := rfl
    rw [k8] at e4
    refine ⟨r, τ', e1, t1.trans e2, fun j hj => ?_, ?_⟩
    · rw [e3 j (by omega)]
      show upd (τ.1 11) k _ j = _
      rw [pk_un (by omega)]
    · rcases e4 with ⟨q1, f, q2, q3, q4⟩ | ⟨q1, q2, q3, q4, q5⟩
      · exact Or.inl ⟨q1, f, q2, q3, q4⟩
      · refine Or.inr ⟨q1, by omega, by rw [q3, show p + 1 + c = p + (c + 1) by omega], by rw [q4, show p + 1 + c = p + (c + 1) by omega], fun j hj => ?_⟩
        cases j with
        | zero =>
          refine ⟨?_, c1, c2⟩
          rw [Nat.add_zero, Nat.add_zero, e3 k (by omega)]
          exact pk_us
        | succ j =>
          have := q5 j (by omega)
          rw [show k + 1 + j = k + (j + 1) by omega, show p + 1 + j = p + (j + 1) by omega] at this
          exact this
/-- the reference reads a statement -/
theorem md_stat (h : tp τ d s p) (hd : d < 8) (hs : s ≤ 100) (hp : p ≤ s) : ∃ r τ', fX11_readsStatement (md a τ M0) a = some (r, md a τ' M0) ∧ tn τ τ' ∧ ((r = 0 ∧ ∃ f, sp_sta (fun j => τ.1 8 (100 * d + j)) s p = some f ∧ τ'.2.2 14 = nI f) ∨ (r = 1 ∧ sp_sta (fun j => τ.1 8 (100 * d + j)) s p = none ∧ τ'.2.2 14 = nI (p + sp_sg (τ.1 8 (100 * d + p)) + 1) ∧ ∀ j, j + 1 < sp_sg (τ.1 8 (100 * d + p)) → τ'.1 11 j = τ.1 8 (100 * d + (p + 1 + j)) - 48 ∧ ¬ τ.1 8 (100 * d + (p + 1 + j)) < 48 ∧ ¬ 57 < τ.1 8 (100 * d + (p + 1 + j)))) := by
  unfold fX11_readsStatement
  rw [md_ob, Option.bind_some, md_here h hd hs hp, Option.bind_some]
  unfold sp_sta
  by_cases cs : s ≤ p
  · rw [if_pos cs, if_neg (by decide), if_neg (by decide), if_neg (by decide), if_pos cs]
    exact ⟨0, τ, rfl, tn.rfl', Or.inl ⟨rfl, s, rfl, by rw [h.1, show p = s by omega]⟩⟩
  rw [if_neg cs, if_neg cs]
  have t25 : ∀ x N, N ≤ 3 → (sp_sg (τ.1 8 (100 * d + p)) = N + 1) → (if x = 109 then (3 : Int32) else 2) = nI N → ∃ r τ', fX11_readsStatement_25 (md a τ M0) a x = some (r, md a τ' M0) ∧ tn τ τ' ∧ ((r = 0 ∧ ∃ f, sp_scn (fun j => τ.1 8 (100 * d + j)) s (N + 1) (p + 1) = some f ∧ τ'.2.2 14 = nI f) ∨ (r = 1 ∧ sp_scn (fun j => τ.1 8 (100 * d + j)) s (N + 1) (p + 1) = none ∧ τ'.2.2 14 = nI (p + (N + 1) + 1) ∧ ∀ j, j + 1 < N + 1 → τ'.1 11 j = τ.1 8 (100 * d + (p + 1 + j)) - 48 ∧ ¬ τ.1 8 (100 * d + (p + 1 + j)) < 48 ∧ ¬ 57 < τ.1 8 (100 * d + (p + 1 + j)))) := by
    intro x N hN _ hx
    have e25 : fX11_readsStatement_25 (md a τ M0) a x = fX11_readsStatement_47 (md a (md_V τ 14 (nI (p + 1))) M0) a a (nI N) := by
      unfold fX11_readsStatement_25
      rw [md_i14, Option.bind_some, md_p14, Option.bind_some, h.1, nI_1, ← hx]
      split <;> rfl
    rw [e25]
    have t1 := tn_V τ (nI (p + 1))
    have h1 : tp (md_V τ 14 (nI (p + 1))) d s (p + 1) := h.to t1 (md_V1 _ _ _)
    obtain ⟨r, τ', e1, e2, -, e4⟩ := md_digits (a := a) (M0 := M0) hd hs hN N 0 ah_fu (md_V τ 14 (nI (p + 1))) (p + 1) (by omega) (by unfold ah_fu; omega) h1 (by omega)
    have e47 : fX11_readsDigits (md a (md_V τ 14 (nI (p + 1))) M0) a (nI N) = some (r, md a τ' M0) := by
      unfold fX11_readsDigits
      rw [md_ob, Option.bind_some]
      exact e1
    unfold fX11_readsStatement_47
    rw [e47, Option.bind_some]
    dsimp only
    have k8 : (md_V τ 14 (nI (p + 1))).1 8 = τ.1 8 := rfl
    rw [k8] at e4
    rcases e4 with ⟨rfl, f, -, q3, q4⟩ | ⟨rfl, q2, q3, q4, q5⟩
    · rw [if_pos rfl]
      exact ⟨0, τ', rfl, t1.trans e2, Or.inl ⟨rfl, f, q3, q4⟩⟩
    · rw [if_neg (by decide)]
      have h2 : tp τ' d s (p + 1 + N) := h1.to e2 q3
      have t8 : τ'.1 8 = τ.1 8 := (t1.trans e2).1 8 (by decide)
      have es : sp_scn (fun j => τ.1 8 (100 * d + j)) s (N + 1) (p + 1) = if s ≤ p + 1 + N then some s else if τ.1 8 (100 * d + (p + 1 + N)) = 59 then none else some (p + 1 + N) := by
        rw [q4]
        show (if s ≤ p + 1 + N then some s else if (if 0 = 0 then _ else _) then none else _) = _
        simp only [if_true]
      rw [md_here h2 hd hs q2, Option.bind_some, t8, es]
      by_cases c1 : s ≤ p + 1 + N
      · rw [if_pos c1, if_pos c1, if_neg (by decide)]
        exact ⟨0, τ', rfl, t1.trans e2, Or.inl ⟨rfl, s, rfl, by rw [q3, show p + 1 + N = s by omega]⟩⟩
      rw [if_neg c1, if_neg c1]
      by_cases c2 : τ.1 8 (100 * d + (p + 1 + N)) = 59
      · rw [if_pos c2, if_pos c2, md_i14, Option.bind_some, md_p14, Option.bind_some, q3, nI_1]
        refine ⟨1, _, rfl, (t1.trans e2).trans (tn_V _ _), Or.inr ⟨rfl, rfl, by rw [md_V1, show p + 1 + N + 1 = p + (N + 1) + 1 by omega], fun j hj => ?_⟩⟩
        have := q5 j (by omega)
        rw [Nat.zero_add] at this
        exact this
      · rw [if_neg c2, if_neg c2]
        exact ⟨0, τ', rfl, t1.trans e2, Or.inl ⟨rfl, _, rfl, q3⟩⟩
  rcases sp_sg_cases (τ.1 8 (100 * d + p)) with ⟨g1, g2, g3, g4⟩ | ⟨g1, g2⟩ | ⟨g1, g2, g3⟩
  · rw [if_neg g3, if_neg g2, if_neg g4, if_pos g1]
    exact ⟨0, τ, rfl, tn.rfl', Or.inl ⟨rfl, p, rfl, h.1⟩⟩
  · rw [if_neg (show ¬ sp_sg (τ.1 8 (100 * d + p)) = 0 by rw [g1]; decide), g1]
    have := t25 (τ.1 8 (100 * d + p)) 3 (by decide) g1 (by rw [if_pos g2]; rfl)
    rw [if_neg (by rw [g2]; decide), if_pos g2]
    exact this
  · rw [if_neg (show ¬ sp_sg (τ.1 8 (100 * d + p)) = 0 by rw [g1]; decide), g1]
    have := t25 (τ.1 8 (100 * d + p)) 2 (by decide) g1 (by rw [if_neg g3]; rfl)
    rcases g2 with g2 | g2
    · rw [if_pos g2]; exact this
    · rw [if_neg (by rw [g2]; decide), if_neg g3, if_pos g2]
      exact this
end FORMM
