/-! PURE LEVEL, 37: fleet -/
/-- c statements from p on, and no more -/
def sp_wf (E : Nat → Int32) (s : Nat) : Nat → Nat → Prop
  | 0, p => s ≤ p
  | c + 1, p => p < s ∧ sp_sta E s p = none ∧ sp_wf E s c (p + sp_sg (E p) + 1)
theorem sp_fm_wf {E : Nat → Int32} {s : Nat} : ∀ (u p N N' : Nat), sp_fm E s u p N = .inr N' → s - p < u → p < s → ∃ c, N' = N + c ∧ c ≤ s - p ∧ sp_wf E s c p := by
  intro u
  induction u with
  | zero => intro p N N' _ h; omega
  | succ u ih =>
    intro p N N' h hu hp
    have e : sp_fm E s (u + 1) p N = match sp_sta E s p with | some f => .inl f | none => if s ≤ p + sp_sg (E p) + 1 then .inr (N + 1) else sp_fm E s u (p + sp_sg (E p) + 1) (N + 1) := rfl
    rw [e] at h
    cases hst : sp_sta E s p with
    | some f => rw [hst] at h; cases h
    | none =>
      rw [hst] at h
      dsimp only at h
      by_cases c : s ≤ p + sp_sg (E p) + 1
      · rw [if_pos c] at h
        cases h
        exact ⟨1, rfl, by omega, hp, hst, c⟩
      · rw [if_neg c] at h
        obtain ⟨c', e1, e2, e3⟩ := ih _ _ _ h (by omega) (by omega)
        exact ⟨c' + 1, by omega, by omega, hp, hst, e3⟩
theorem sp_scn_congr {E E' : Nat → Int32} {s : Nat} (h : ∀ k, k < s → E k = E' k) : ∀ (r p : Nat), sp_scn E s r p = sp_scn E' s r p
  | 0, _ => rfl
  | r + 1, p => by
    unfold sp_scn
    by_cases c : s ≤ p
    · rw [if_pos c, if_pos c]
    · rw [if_neg c, if_neg c, h p (by omega), sp_scn_congr h r (p + 1)]
theorem sp_sta_congr {E E' : Nat → Int32} {s : Nat} (h : ∀ k, k < s → E k = E' k) (p : Nat) : sp_sta E s p = sp_sta E' s p := by
  unfold sp_sta
  by_cases c : s ≤ p
  · rw [if_pos c, if_pos c]
  · rw [if_neg c, if_neg c, h p (by omega), sp_scn_congr h]
theorem sp_fm_congr {E E' : Nat → Int32} {s : Nat} (h : ∀ k, k < s → E k = E' k) : ∀ (u p N : Nat), sp_fm E s u p N = sp_fm E' s u p N := by
  intro u
  induction u with
  | zero => intro p N; rfl
  | succ u ih =>
    intro p N
    show (match sp_sta E s p with | some f => .inl f | none => if s ≤ p + sp_sg (E p) + 1 then .inr (N + 1) else sp_fm E s u (p + sp_sg (E p) + 1) (N + 1)) = (match sp_sta E' s p with | some f => .inl f | none => if s ≤ p + sp_sg (E' p) + 1 then .inr (N + 1) else sp_fm E' s u (p + sp_sg (E' p) + 1) (N + 1) : Nat ⊕ Nat)
    rw [sp_sta_congr h p]
    cases hst : sp_sta E' s p with
    | some f => rfl
    | none =>
      dsimp only
      rw [h p (sp_sta_none hst).2.2, ih]
theorem sp_sta_le {E : Nat → Int32} {s p f : Nat} (hp : p ≤ s) (h : sp_sta E s p = some f) : f ≤ s := by
  unfold sp_sta at h
  by_cases c : s ≤ p
  · rw [if_pos c] at h; cases h; exact Nat.le_refl _
  rw [if_neg c] at h
  by_cases c2 : sp_sg (E p) = 0
  · rw [if_pos c2] at h; cases h; exact hp
  rw [if_neg c2] at h
  exact (sp_scn_le (E := E) (sp_sg (E p)) (p + 1) (by omega)).2 f h
theorem sp_fm_le {E : Nat → Int32} {s : Nat} : ∀ (u p N f : Nat), p ≤ s → sp_fm E s u p N = .inl f → f ≤ s := by
  intro u
  induction u with
  | zero => intro p N f _ h; cases h
  | succ u ih =>
    intro p N f hp h
    have e : sp_fm E s (u + 1) p N = match sp_sta E s p with | some f => .inl f | none => if s ≤ p + sp_sg (E p) + 1 then .inr (N + 1) else sp_fm E s u (p + sp_sg (E p) + 1) (N + 1) := rfl
    rw [e] at h
    cases hst : sp_sta E s p with
    | some g => rw [hst] at h; cases h; exact sp_sta_le hp hst
    | none =>
      rw [hst] at h
      dsimp only at h
      by_cases c : s ≤ p + sp_sg (E p) + 1
      · rw [if_pos c] at h; cases h
      · rw [if_neg c] at h
        exact ih _ _ _ (by omega) h
/-- c statements are carried out -/
def sp_rn (E : Nat → Int32) : Nat → (Nat → Int32) → Nat → Nat → Nat → Nat ⊕ ((Nat → Int32) × Nat × Nat)
  | 0, S, n, m, _ => .inr (S, n, m)
  | c + 1, S, n, m, p => match sp_ca S n m (E p) (E (p + 1) - 48) (E (p + 2) - 48) (E (p + 3) - 48) with
    | none => .inl p
    | some q => sp_rn E c q.1 q.2.1 q.2.2 (p + sp_sg (E p) + 1)
theorem sp_rn_n {E : Nat → Int32} {c : Nat} {S : Nat → Int32} {n m p : Nat} (h : sp_ca S n m (E p) (E (p + 1) - 48) (E (p + 2) - 48) (E (p + 3) - 48) = none) : sp_rn E (c + 1) S n m p = .inl p := by
  show (match sp_ca S n m (E p) (E (p + 1) - 48) (E (p + 2) - 48) (E (p + 3) - 48) with | none => _ | some q => _) = _
  rw [h]
theorem sp_rn_s {E : Nat → Int32} {c : Nat} {S S' : Nat → Int32} {n m n' m' p : Nat} (h : sp_ca S n m (E p) (E (p + 1) - 48) (E (p + 2) - 48) (E (p + 3) - 48) = some (S', n', m')) : sp_rn E (c + 1) S n m p = sp_rn E c S' n' m' (p + sp_sg (E p) + 1) := by
  show (match sp_ca S n m (E p) (E (p + 1) - 48) (E (p + 2) - 48) (E (p + 3) - 48) with | none => _ | some q => _) = _
  rw [h]
theorem rf_S_nsh {S : Nat → Int32} {n m kd fg : Nat} (h : rf_S S n m) (hn : n < 5) (hk : kd < 8) (hf : fg < 10) : rf_S (sp_nsh S n (nI kd) (nI fg)) (n + 1) m := by
  obtain ⟨-, hm, h0, h1, h2, h3⟩ := h
  refine ⟨by omega, hm, pk_us, by rw [sp_nsh_out (by omega) (by omega) (by omega)]; exact h1, fun k hk => ?_, fun j hj => ?_⟩
  · by_cases e : k = n
    · subst e
      refine ⟨kd, fg, by omega, hf, ?_, ?_⟩
      · unfold sp_nsh
        rw [pk_un (by omega), pk_un (by omega), pk_us]
      · unfold sp_nsh
        rw [pk_un (by omega), pk_us]
    · rw [sp_nsh_out (by omega) (by omega) (by omega), sp_nsh_out (by omega) (by omega) (by omega)]; exact h2 k (by omega)
  · obtain ⟨i, q1, q2⟩ := h3 j hj
    exact ⟨i, by omega, by rw [sp_nsh_out (by omega) (by omega) (by omega)]; exact q2⟩
theorem sp_ca_S {S S' : Nat → Int32} {n m n' m' i j : Nat} {c w : Int32} (h : rf_S S n m) (hi : i < 10) (hj : j < 10) (e : sp_ca S n m c (nI i) (nI j) w = some (S', n', m')) : rf_S S' n' m' := by
  have hn := h.1
  have hm := h.2.1
  unfold sp_ca at e
  by_cases c1 : c = 109
  · rw [if_pos c1] at e
    rcases sp_is_cases (n := n) (by omega) (nI i) with hx | ⟨k, hk, ek, hx⟩
    · rw [if_pos hx] at e; cases e
    rw [if_neg (by rw [hx]; decide)] at e
    by_cases c2 : 3 < nI j
    · rw [if_pos c2] at e; cases e
    rw [if_neg c2] at e
    by_cases c3 : 3 < w
    · rw [if_pos c3] at e; cases e
    rw [if_neg c3] at e
    by_cases c4 : m = 12
    · rw [if_pos c4] at e; cases e
    rw [if_neg c4] at e
    cases e
    obtain ⟨M, F, hr⟩ := rf_ex h
    rw [ek]
    exact (rf_sails (rf_nm hr (by omega) hk (nI j) w) (i := k) (by omega)).1
  rw [if_neg c1] at e
  by_cases c5 : c = 115
  · rw [if_pos c5] at e
    by_cases c2 : 7 < nI i
    · rw [if_pos c2] at e; cases e
    rw [if_neg c2] at e
    by_cases c4 : n = 5
    · rw [if_pos c4] at e; cases e
    rw [if_neg c4] at e
    cases e
    have : i < 8 := by
      apply Classical.byContradiction
      intro q
      exact c2 (nI_lt (a := 7) (by omega) (by omega))
    exact rf_S_nsh h (by omega) this hj
  rw [if_neg c5] at e
  by_cases c2 : sp_mm S n m (nI i) (nI j) = 0
  · rw [if_pos c2] at e; cases e
  rw [if_neg c2] at e
  cases e
  exact rf_S_go h _ _
section FLEET
variable {b a : Nat} {M M0 : ah_h} {τ : md_T} {n m z n0 m0 d s : Nat} {F1 : fl_T}
theorem c_fl54 (hd : d < 8) (hs : s ≤ 100) (k5 : τ.1 5 d = 2) (k6 : τ.1 6 d = nI 0) (k7 : τ.1 7 d = nI s) : ∀ (c p w N : Nat) (F : fl_T) (S : Nat → Int32) (n m : Nat) (M : ah_h) (z : Nat), cs b M τ n0 m0 F1 → rf b M F S n m → b + 69 ≤ z → (∀ q, z ≤ q → M q = none) → sp_wf (fun j => τ.1 8 (100 * d + j)) s c p → c < w → p ≤ s →
    (∃ p' F' M' z', sp_rn (fun j => τ.1 8 (100 * d + j)) c S n m p = .inl p' ∧ fX10_fleet_54 w (fl (b + 10) F M) z b (b + 29 + 2 * d) (nI N) (nI p) = some (-2000 - nI p', fl (b + 10) F' M', z') ∧ cs b M' τ n0 m0 F1 ∧ (∀ q, q < z → M' q = M q) ∧ z ≤ z' ∧ z' ≤ z + c ∧ ∀ q, z' ≤ q → M' q = none) ∨
    (∃ S' n' m' X F' M' z', sp_rn (fun j => τ.1 8 (100 * d + j)) c S n m p = .inr (S', n', m') ∧ fX10_fleet_54 w (fl (b + 10) F M) z b (b + 29 + 2 * d) (nI N) (nI p) = some (nI (N + c), fl (b + 1) X (fl (b + 10) F' M'), z') ∧ cs b M' τ n0 m0 F1 ∧ rf b M' X S' n' m' ∧ (∀ q, q < z → M' q = M q) ∧ z ≤ z' ∧ z' ≤ z + c ∧ ∀ q, z' ≤ q → M' q = none) := by
  intro c
  induction c with
  | zero =>
    intro p w N F S n m M z h hr hz hN hw hc hp
    obtain ⟨w, rfl⟩ : ∃ w', w = w' + 1 := ⟨w - 1, by omega⟩
    have hsp : s ≤ p := hw
    have hc := cs_mind h F
    obtain ⟨el, H, hel⟩ := cs_row hc hd k5 (by decide) k6 k7 hs
    have hr' : rf b (fl (b + 10) F M) F S n m := rf_keep hr (fun c hc => rf_fl (Or.inr (Or.inl rfl)) hc)
    have eB := fl_become (a := b + 1) (a' := b + 10) (F := F1) (G := F) (M0 := fl (b + 10) F M) (Or.inl (by omega)) fa_fl (fun i hi => by
      obtain ⟨c, kd, fg, e1, e2, e3, -⟩ := hr'.2.2.2.2.1 i hi
      exact ⟨c, _, e1, by unfold rf_a at e2; omega, cp_oc e3⟩)
    rw [hc.f1] at eB
    refine Or.inr ⟨S, n, m, fl_be F F1, F, M, z, rfl, ?_, h, rf_eq hr (fl_be_eq F F1), fun _ _ => rfl, Nat.le_refl _, Nat.le_refl _, hN⟩
    show fX10_fleet_54_b (fX10_fleet_54 w) _ _ _ _ _ _ = _
    unfold fX10_fleet_54_b
    rw [H.i2, Option.bind_some, if_pos (nI_le hsp (by omega)), hc.o.r0, Option.bind_some, hc.o.r1, Option.bind_some, eB, Option.bind_some]
    rfl
  | succ c ih =>
    intro p w N F S n m M z h hr hz hN hw hcw hp
    obtain ⟨w, rfl⟩ : ∃ w', w = w' + 1 := ⟨w - 1, by omega⟩
    obtain ⟨w1, w2, w3⟩ := hw
    have hc := cs_mind h F
    obtain ⟨el, H, hel⟩ := cs_row hc hd k5 (by decide) k6 k7 hs
    have hE : ∀ k, k < s → el k = (fun j => τ.1 8 (100 * d + j)) k := fun k hk => hel k (by omega)
    obtain ⟨t1, t2, t3⟩ := sp_sta_none w2
    have tsg : 3 ≤ sp_sg (τ.1 8 (100 * d + p)) := by
      rcases sp_sg_cases (τ.1 8 (100 * d + p)) with ⟨q, -⟩ | ⟨q, -⟩ | ⟨q, -⟩
      · exact absurd q t2
      · omega
      · omega
    have t1' : p + sp_sg (τ.1 8 (100 * d + p)) + 1 ≤ s := t1
    have st : fX10_fleet_54 (w + 1) (fl (b + 10) F M) z b (b + 29 + 2 * d) (nI N) (nI p) = (fX10_isCarriedOut (fl (b + 10) F M) z (b + 10) (b + 29 + 2 * d) (nI p)).bind fun v8 => if v8.1 = 0 then (some ((-2000) - nI p, v8.2.1, v8.2.2)) else ((fX7_at v8.2.1 (b + 29 + 2 * d) (nI p)).bind fun v10 => (fX10_signsBehind v8.2.1 v10).bind fun v12 => fX10_fleet_54 w v8.2.1 v8.2.2 b (b + 29 + 2 * d) (nI N + 1) (nI p + (1 + v12))) := by
      show fX10_fleet_54_b (fX10_fleet_54 w) _ _ _ _ _ _ = _
      unfold fX10_fleet_54_b
      rw [H.i2, Option.bind_some, if_neg (nI_ge w1 (by omega)), hc.o.r1, Option.bind_some]
    have e0 : el p = τ.1 8 (100 * d + p) := hE p w1
    have e1 : el (p + 1) = τ.1 8 (100 * d + (p + 1)) := hE (p + 1) (by omega)
    have e2 : el (p + 2) = τ.1 8 (100 * d + (p + 2)) := hE (p + 2) (by omega)
    have e3 : el (p + 3) = τ.1 8 (100 * d + (p + 3)) := hE (p + 3) (by omega)
    have cc := c_carry hr hz hN H hs (by rw [sp_sta_congr hE]; exact w2)
    rw [e0, e1, e2, e3] at cc
    rw [st]
    rcases cc with ⟨M1, z', g1, g2, g4, g5, g6, g7⟩ | ⟨S', n', m', F', M1, z', g1, g2, g3, g4, g5, g6, g7⟩
    · rw [g2, Option.bind_some]
      dsimp only
      rw [if_pos rfl]
      have mono : ∀ q e, M q = some e → M1 q = some e := fun q e hq => by
        by_cases hqz : q < z
        · rw [g4 q hqz]; exact hq
        · rw [hN q (by omega)] at hq; cases hq
      exact Or.inl ⟨p, F, M1, z', sp_rn_n g1, rfl, cs_more h mono, g4, g5, by omega, g7⟩
    · rw [g2, Option.bind_some]
      dsimp only
      rw [if_neg (by decide)]
      have mono : ∀ q e, M q = some e → M1 q = some e := fun q e hq => by
        by_cases hqz : q < z
        · rw [g4 q hqz]; exact hq
        · rw [hN q (by omega)] at hq; cases hq
      have h' : cs b M1 τ n0 m0 F1 := cs_more h mono
      have hc' := cs_mind h' F'
      obtain ⟨el', H', hel'⟩ := cs_row hc' hd k5 (by decide) k6 k7 hs
      rw [H'.at rfl hs w1, Option.bind_some, c_signs, Option.bind_some, hel' p (by omega), nI_1, show (1 : Int32) + nI (sp_sg (τ.1 8 (100 * d + p))) = nI (1 + sp_sg (τ.1 8 (100 * d + p))) from nI_add 1 _, nI_add, show p + (1 + sp_sg (τ.1 8 (100 * d + p))) = p + sp_sg (τ.1 8 (100 * d + p)) + 1 by omega]
      rcases ih (p + sp_sg (τ.1 8 (100 * d + p)) + 1) w (N + 1) F' S' n' m' M1 z' h' g3 (by omega) g7 w3 (by omega) t1' with ⟨p', F2, M2, z2, q1, q2, q3, q4, q5, q6, q7⟩ | ⟨S2, n2, m2, X, F2, M2, z2, q1, q2, q3, q4, q5, q6, q7, q8⟩
      · exact Or.inl ⟨p', F2, M2, z2, (sp_rn_s (E := fun j => τ.1 8 (100 * d + j)) (p := p) g1).trans q1, q2, q3, fun q hq => (q4 q (by omega)).trans (g4 q hq), by omega, by omega, q7⟩
      · exact Or.inr ⟨S2, n2, m2, X, F2, M2, z2, (sp_rn_s (E := fun j => τ.1 8 (100 * d + j)) (p := p) g1).trans q1, by rw [q2, show N + 1 + c = N + (c + 1) by omega], q3, q4, fun q hq => (q5 q (by omega)).trans (g4 q hq), by omega, by omega, q8⟩
theorem m_fl84 (hd : d < 8) (hs : s ≤ 100) {e8 : Nat → Int32} (x3 : Int32) : ∀ (c p w : Nat) (τ : md_T) (n m : Nat), τ.1 8 = e8 → tp τ d s p → rf_S (τ.1 1) n m → sp_wf (fun j => e8 (100 * d + j)) s c p → c < w → p ≤ s →
    (∃ p' τ', sp_rn (fun j => e8 (100 * d + j)) c (τ.1 1) n m p = .inl p' ∧ fX11_fleet_84 w (md a τ M0) a x3 = some (-2000 - nI p', md a τ' M0) ∧ sq (τ.1 3) (τ'.1 1) ∧ tg τ τ') ∨
    (∃ S' n' m' τ', sp_rn (fun j => e8 (100 * d + j)) c (τ.1 1) n m p = .inr (S', n', m') ∧ fX11_fleet_84 w (md a τ M0) a x3 = some (x3, md a τ' M0) ∧ τ'.1 1 = S' ∧ tg τ τ') := by
  intro c
  induction c with
  | zero =>
    intro p w τ n m h8 ht hS hw hcw hp
    obtain ⟨w, rfl⟩ : ∃ w', w = w' + 1 := ⟨w - 1, by omega⟩
    have hsp : s ≤ p := hw
    refine Or.inr ⟨τ.1 1, n, m, τ, rfl, ?_, rfl, tg.rfl'⟩
    show fX11_fleet_84_b _ _ _ _ = _
    unfold fX11_fleet_84_b
    rw [md_i14, Option.bind_some, md_i16, Option.bind_some, ht.1, ht.2.2, if_pos (nI_le hsp (by omega))]
  | succ c ih =>
    intro p w τ n m h8 ht hS hw hcw hp
    obtain ⟨w, rfl⟩ : ∃ w', w = w' + 1 := ⟨w - 1, by omega⟩
    obtain ⟨w1, w2, w3⟩ := hw
    obtain ⟨t1, t2, t3⟩ := sp_sta_none w2
    have td := sp_sta_dig w2
    subst h8
    have t1' : p + sp_sg (τ.1 8 (100 * d + p)) + 1 ≤ s := t1
    have td' : ∀ j, j + 1 < sp_sg (τ.1 8 (100 * d + p)) → ¬ τ.1 8 (100 * d + (p + 1 + j)) < 48 ∧ ¬ 57 < τ.1 8 (100 * d + (p + 1 + j)) := td
    have t2' : ¬ sp_sg (τ.1 8 (100 * d + p)) = 0 := t2
    have hsg := sp_sg_cases (τ.1 8 (100 * d + p))
    obtain ⟨r, τ1, f1, f2, f3⟩ := md_stat (a := a) (M0 := M0) ht hd hs hp
    rcases f3 with ⟨-, f, f4, -⟩ | ⟨rfl, f4, f5, f6⟩
    · rw [w2] at f4; cases f4
    have st : fX11_fleet_84 (w + 1) (md a τ M0) a x3 = (fX11_comes (md a τ1 M0) a (τ.1 8 (100 * d + p))).bind fun v9 => if v9.1 = 0 then ((ah_gr v9.2 a 11 2).bind fun v12 => (ah_gr v9.2 a 11 0).bind fun v13 => (fX11_copies v9.2 v12 v13).bind fun v14 => some ((-2000) - nI p, v14)) else (fX11_fleet_84 w v9.2 a x3) := by
      show fX11_fleet_84_b _ _ _ _ = _
      unfold fX11_fleet_84_b
      rw [md_i14, Option.bind_some, md_i16, Option.bind_some, ht.1, ht.2.2, if_neg (nI_ge w1 (by omega)), Option.bind_some, md_here ht hd hs hp, Option.bind_some, if_neg (by omega), f1, Option.bind_some]
    rw [st]
    have s1 : τ1.1 1 = τ.1 1 := f2.1 1 (by decide)
    have n0 : τ1.1 11 0 = τ.1 8 (100 * d + (p + 1)) - 48 := (f6 0 (by omega)).1
    have n1 : τ1.1 11 1 = τ.1 8 (100 * d + (p + 2)) - 48 := (f6 1 (by omega)).1
    obtain ⟨i1, hi1, x1⟩ := sp_dig (td' 0 (by omega)).1 (td' 0 (by omega)).2
    obtain ⟨i2, hi2, x2⟩ := sp_dig (td' 1 (by omega)).1 (td' 1 (by omega)).2
    have cc := m_comes (a := a) (M0 := M0) (τ := τ1) (n := n) (m := m) (c := τ.1 8 (100 * d + p)) (by rw [s1]; exact hS) (by
      rcases hsg with ⟨q, -⟩ | ⟨-, q⟩ | ⟨-, q, q'⟩
      · exact absurd q t2'
      · exact Or.inl q
      · exact Or.inr ⟨q, q'⟩) (τ.1 8 (100 * d + (p + 3)) - 48) (fun q => (f6 2 (by
        rcases hsg with ⟨q1, -⟩ | ⟨q1, -⟩ | ⟨-, -, q1⟩
        · exact absurd q1 t2'
        · omega
        · exact absurd q q1)).1)
    rw [s1, n0, n1] at cc
    rcases cc with ⟨g1, g2⟩ | ⟨S', n', m', τ2, g1, g2, g3, g4, g5⟩
    · rw [g2, Option.bind_some]
      dsimp only
      obtain ⟨g, f7, f8⟩ := md_copies (a := a) (τ := τ1) (M0 := M0) (k := 3) (k' := 1) (by decide) (by decide) (by decide) (by decide) (by decide)
      rw [if_pos rfl, md_r2, Option.bind_some, md_r0, Option.bind_some, f7, Option.bind_some]
      refine Or.inl ⟨p, md_A τ1 1 g, sp_rn_n g1, rfl, ?_, f2.tg.trans (tg_A g)⟩
      rw [md_A1, ← f2.1 3 (by decide)]
      exact f8
    · rw [g2, Option.bind_some]
      dsimp only
      rw [if_neg (by decide)]
      have tg2 : tg τ τ2 := f2.tg.trans g4
      have x1' : τ.1 8 (100 * d + (p + 1)) - 48 = nI i1 := x1
      have x2' : τ.1 8 (100 * d + (p + 2)) - 48 = nI i2 := x2
      have hS2 : rf_S (τ2.1 1) n' m' := by
        rw [g3]
        rw [x1', x2'] at g1
        exact sp_ca_S hS hi1 hi2 g1
      rcases ih (p + sp_sg (τ.1 8 (100 * d + p)) + 1) w τ2 n' m' (tg2.1 8 (by decide) (by decide)) ⟨g5.trans f5, (tg2.2 15 (by decide) (by decide) (by decide)).trans ht.2.1, (tg2.2 16 (by decide) (by decide) (by decide)).trans ht.2.2⟩ hS2 w3 (by omega) t1' with ⟨p', τ3, q1, q2, q3, q4⟩ | ⟨S3, n3, m3, τ3, q1, q2, q3, q4⟩
      · refine Or.inl ⟨p', τ3, ?_, q2, ?_, tg2.trans q4⟩
        · rw [g3] at q1
          exact (sp_rn_s (E := fun j => τ.1 8 (100 * d + j)) (p := p) g1).trans q1
        · rw [tg2.1 3 (by decide) (by decide)] at q3
          exact q3
      · refine Or.inr ⟨S3, n3, m3, τ3, ?_, q2, q3, tg2.trans q4⟩
        rw [g3] at q1
        exact (sp_rn_s (E := fun j => τ.1 8 (100 * d + j)) (p := p) g1).trans q1
theorem m_fl38 (hd : d < 8) (hs : s ≤ 100) {e8 : Nat → Int32} : ∀ (u w : Nat) (τ : md_T) (p N : Nat), τ.1 8 = e8 → tp τ d s p → p ≤ s → s - p < u → s - p < w →
    (∃ f τ', sp_fm (fun j => e8 (100 * d + j)) s u p N = .inl f ∧ fX11_fleet_38 w (md a τ M0) a (nI N) = some (-1000 - nI f, md a τ' M0) ∧ tn τ τ') ∨
    (∃ N' τ', sp_fm (fun j => e8 (100 * d + j)) s u p N = .inr N' ∧ fX11_fleet_38 w (md a τ M0) a (nI N) = fX11_fleet_84 ah_fu (md a τ' M0) a (nI N') ∧ tp τ' d s 0 ∧ (∀ k, k ≠ 3 → k ≠ 11 → τ'.1 k = τ.1 k) ∧ sq (τ.1 1) (τ'.1 3) ∧ ∀ k, k ≠ 14 → τ'.2.2 k = τ.2.2 k) := by
  intro u
  induction u with
  | zero => intro w τ p N _ _ _ h; omega
  | succ u ih =>
    intro w τ p N h8 ht hp hu hw
    obtain ⟨w, rfl⟩ : ∃ w', w = w' + 1 := ⟨w - 1, by omega⟩
    subst h8
    have e : sp_fm (fun j => τ.1 8 (100 * d + j)) s (u + 1) p N = match sp_sta (fun j => τ.1 8 (100 * d + j)) s p with | some f => .inl f | none => if s ≤ p + sp_sg (τ.1 8 (100 * d + p)) + 1 then .inr (N + 1) else sp_fm (fun j => τ.1 8 (100 * d + j)) s u (p + sp_sg (τ.1 8 (100 * d + p)) + 1) (N + 1) := rfl
    rw [e]
    obtain ⟨r, τ1, f1, f2, f3⟩ := md_stat (a := a) (M0 := M0) ht hd hs hp
    have st : fX11_fleet_38 (w + 1) (md a τ M0) a (nI N) = if r = 0 then ((ah_gi (md a τ1 M0) a 11 14).bind fun v11 => some ((-1000) - v11, md a τ1 M0)) else ((ah_gi (md a τ1 M0) a 11 14).bind fun v4 => (ah_gi (md a τ1 M0) a 11 16).bind fun v5 => if v4 < v5 then (fX11_fleet_38 w (md a τ1 M0) a (nI N + 1)) else ((ah_gr (md a τ1 M0) a 11 0).bind fun v7 => (ah_gr (md a τ1 M0) a 11 2).bind fun v8 => (fX11_copies (md a τ1 M0) v7 v8).bind fun v9 => (ah_pf v9 a 11 14 (.int 0)).bind fun M10 => fX11_fleet_84 ah_fu M10 a (nI N + 1))) := by
      show fX11_fleet_38_b _ _ _ _ = _
      unfold fX11_fleet_38_b
      rw [f1, Option.bind_some]
    rw [st]
    rcases f3 with ⟨rfl, f, f4, f5⟩ | ⟨rfl, f4, f5, f6⟩
    · rw [if_pos rfl, md_i14, Option.bind_some, f5, f4]
      exact Or.inl ⟨f, τ1, rfl, rfl, f2⟩
    · have h1 : tp τ1 d s (p + sp_sg (τ.1 8 (100 * d + p)) + 1) := ht.to f2 f5
      obtain ⟨t1, t2, t3⟩ := sp_sta_none f4
      have t1' : p + sp_sg (τ.1 8 (100 * d + p)) + 1 ≤ s := t1
      rw [if_neg (show ¬ (1 : Int32) = 0 by decide), md_i14, Option.bind_some, md_i16, Option.bind_some, f5, h1.2.2, f4]
      dsimp only
      by_cases c : s ≤ p + sp_sg (τ.1 8 (100 * d + p)) + 1
      · rw [if_pos c, if_neg (nI_nlt c (by omega))]
        obtain ⟨g, f7, f8⟩ := md_copies (a := a) (τ := τ1) (M0 := M0) (k := 1) (k' := 3) (by decide) (by decide) (by decide) (by decide) (by decide)
        rw [md_r0, Option.bind_some, md_r2, Option.bind_some, f7, Option.bind_some, md_p14, Option.bind_some, nI_1]
        refine Or.inr ⟨N + 1, _, rfl, rfl, ⟨md_V1 _ _ _, (md_Vn _ _ (by decide)).trans h1.2.1, (md_Vn _ _ (by decide)).trans h1.2.2⟩, fun k h3 h11 => ?_, ?_, fun k hk => ?_⟩
        · rw [md_Vf]
          show (if k = 3 then g else τ1.1 k) = _
          rw [if_neg h3, f2.1 k h11]
        · rw [md_Vf, md_A1, ← f2.1 1 (by decide)]
          exact f8
        · rw [md_Vn _ _ hk]
          exact f2.2.2 k hk
      · rw [if_neg c, if_pos (nI_lt (by omega) (by omega)), nI_1]
        rcases ih w τ1 (p + sp_sg (τ.1 8 (100 * d + p)) + 1) (N + 1) (f2.1 8 (by decide)) h1 t1' (by omega) (by omega) with ⟨f, τ', q1, q2, q3⟩ | ⟨N', τ', q1, q2, q3, q4, q5, q6⟩
        · exact Or.inl ⟨f, τ', q1, q2, f2.trans q3⟩
        · refine Or.inr ⟨N', τ', q1, q2, q3, fun k h3 h11 => (q4 k h3 h11).trans (f2.1 k h11), ?_, fun k hk => (q6 k hk).trans (f2.2.2 k hk)⟩
          rw [f2.1 1 (by decide)] at q5
          exact q5
theorem p_fleet (h : wd b M z τ) (x : Int32) : ∃ v M1 M2 τ' z', fX10_fleet M z b x = some (v, M1, z') ∧ fX11_fleet M1 (b + 53) x = some (v, M2) ∧ wd b M2 z' τ' ∧ z ≤ z' ∧ z' ≤ z + 300 := by
  obtain ⟨⟨n, m, F1, hc⟩, hma, ho, hz, hn⟩ := id h
  have ec : fX10_fleet M z b x = if 0 ≤ sp_wr τ x 0 then ((ah_ar M (b + 28) 3 x).bind fun v5 => (fX10_faultOfForm M v5).bind fun v6 => if v6 < 0 then ((fX2_become M (b + 10) (b + 1)).bind fun v10 => fX10_fleet_54 ah_fu v10 z b v5 0 0) else (some ((-1000) - v6, M, z))) else (some (sp_wr τ x 0, M, z)) := by
    unfold fX10_fleet
    rw [hc.o.ob, Option.bind_some, co_refBytes hc.o hc.sh, Option.bind_some, hc.o.r4, Option.bind_some, hc.o.r1, hc.o.r0]
    rfl
  rcases sp_wr_cases (cs_ts hc) x 0 with ⟨l1, l2, l3⟩ | ⟨l1, d, t, s, hd, rfl, k5, ht, hs, k6, k7, k8⟩
  · refine ⟨sp_wr τ x 0, M, M, τ, z, by rw [ec, if_neg l3], ?_, h, Nat.le_refl _, by omega⟩
    rw [← hma]
    unfold fX11_fleet
    rw [md_ob, Option.bind_some, md_wrongRow, Option.bind_some, if_neg l2]
  have ht0 : t = 0 := by
    rcases k8 with q | q
    · exact absurd q (by decide)
    · exact (nI_eq (b := 0) (by omega) (by decide)).mp q
  subst ht0
  obtain ⟨el, H, hel⟩ := cs_row hc hd k5 ht k6 k7 hs
  have hE : ∀ k, k < s → el k = (fun j => τ.1 8 (100 * d + j)) k := fun k hk => hel k (by omega)
  have ef : fX10_faultOfForm M (b + 29 + 2 * d) = (match sp_fm (fun j => τ.1 8 (100 * d + j)) s 101 0 0 with | .inl f => some (nI f) | .inr _ => some (-4)) := by
    rw [c_fault H hs, sp_fm_congr hE]
    cases sp_fm (fun j => τ.1 8 (100 * d + j)) s 101 0 0 <;> rfl
  have ec' : fX10_fleet M z b (nI d) = (fX10_faultOfForm M (b + 29 + 2 * d)).bind fun v6 => if v6 < 0 then ((fX2_become M (b + 10) (b + 1)).bind fun v10 => fX10_fleet_54 ah_fu v10 z b (b + 29 + 2 * d) 0 0) else (some ((-1000) - v6, M, z)) := by
    rw [ec, l1, if_pos (by decide), hc.o.sh hd, Option.bind_some]
  obtain ⟨σ, hσ⟩ : ∃ σ, σ = md_V (md_V (md_V τ 15 (nI (100 * d))) 16 (nI s)) 14 0 := ⟨_, rfl⟩
  have σ1 : σ.1 = τ.1 := by rw [hσ]; rfl
  have σ2 : ∀ k, k ≠ 14 → k ≠ 15 → k ≠ 16 → σ.2.2 k = τ.2.2 k := fun k h1 h2 h3 => by rw [hσ, md_Vn _ _ h1, md_Vn _ _ h3, md_Vn _ _ h2]
  have tp0 : tp σ d s 0 := by rw [hσ]; exact ⟨rfl, rfl, rfl⟩
  have eM : ∀ N, fX11_fleet (md (b + 53) τ N) (b + 53) (nI d) = fX11_fleet_38 ah_fu (md (b + 53) σ N) (b + 53) (nI 0) := fun N => by
    unfold fX11_fleet
    rw [md_ob, Option.bind_some, md_wrongRow, Option.bind_some, if_pos l1, show (100 : Int32) * nI d = nI (100 * d) from pk_mul 100 d, md_p15, Option.bind_some, md_r6, Option.bind_some, md_k7 hd, Option.bind_some, show (md_V τ 15 (nI (100 * d))).1 7 d = nI s from k7, md_p16, Option.bind_some, md_p14, Option.bind_some, hσ]
    rfl
  have tf0 : ∀ {τ' : md_T}, (∀ k, k = 2 ∨ 5 ≤ k ∧ k ≤ 10 → τ'.1 k = σ.1 k) → τ'.2.2 10 = σ.2.2 10 → tf τ τ' := fun {τ'} h1 h2 => ⟨fun q _ => by rw [h1 2 (Or.inl rfl), σ1], fun k h5 h10 => by rw [h1 k (Or.inr ⟨h5, h10⟩), σ1], by rw [h2, σ2 10 (by decide) (by decide) (by decide)]⟩
  cases efm : sp_fm (fun j => τ.1 8 (100 * d + j)) s 101 0 0 with
  | inl f =>
    have hf : f ≤ s := sp_fm_le 101 0 0 f (by omega) efm
    rcases m_fl38 (a := b + 53) (M0 := M) (d := d) (s := s) (e8 := τ.1 8) hd hs 101 ah_fu σ 0 0 (by rw [σ1]) tp0 (by omega) (by omega) (by unfold ah_fu; omega) with ⟨f', τ', q1, q2, q3⟩ | ⟨N', τ', q1, -⟩
    · rw [efm] at q1
      cases q1
      have te' : te τ τ' := ⟨fun q _ => by rw [q3.1 1 (by decide), σ1], tf0 (fun k hk => q3.1 k (by omega)) (q3.2.2 10 (by decide))⟩
      obtain ⟨g1, g2⟩ := wd_of h hc fr.rfl' te'
      refine ⟨-1000 - nI f, M, _, τ', z, ?_, ?_, g2, Nat.le_refl _, by omega⟩
      · rw [ec', ef, efm]
        dsimp only
        rw [Option.bind_some, if_neg (nI_pos (by omega))]
      · conv => lhs; rw [← g1]
        rw [eM, q2]
    · rw [efm] at q1; cases q1
  | inr N =>
    have hs0 : 0 < s := by
      apply Classical.byContradiction
      intro q
      have : s = 0 := by omega
      subst this
      have e : sp_fm (fun j => τ.1 8 (100 * d + j)) 0 101 0 0 = .inl 0 := rfl
      rw [e] at efm; cases efm
    obtain ⟨c, c1, c2, c3⟩ := sp_fm_wf 101 0 0 N efm (by omega) hs0
    rw [Nat.zero_add] at c1
    subst c1
    obtain ⟨X, eX, rX⟩ := cs_become hc
    have e1 : fX10_fleet M z b (nI d) = fX10_fleet_54 ah_fu (fl (b + 10) X M) z b (b + 29 + 2 * d) (nI 0) (nI 0) := by
      rw [ec', ef, efm]
      dsimp only
      rw [Option.bind_some, if_pos (by decide), eX, Option.bind_some]
      rfl
    rcases c_fl54 hd hs k5 k6 k7 N 0 ah_fu 0 X (τ.1 1) n m M z hc rX hz hn c3 (by unfold ah_fu; omega) (by omega) with ⟨p', F', M', z', q1, q2, q3, q4, q5, q6, q7⟩ | ⟨S', n', m', Y, F', M', z', q1, q2, q3, q4, q5, q6, q7, q8⟩
    · have hc1 := cs_mind q3 F'
      rcases m_fl38 (a := b + 53) (M0 := fl (b + 10) F' M') (d := d) (s := s) (e8 := τ.1 8) hd hs 101 ah_fu σ 0 0 (by rw [σ1]) tp0 (by omega) (by omega) (by unfold ah_fu; omega) with ⟨f', τ', r1, -⟩ | ⟨N', τ1, r1, r2, r3, r4, r5, r6⟩
      · rw [efm] at r1; cases r1
      rw [efm] at r1
      cases r1
      have s1 : τ1.1 1 = τ.1 1 := by rw [r4 1 (by decide) (by decide), σ1]
      rcases m_fl84 (a := b + 53) (M0 := fl (b + 10) F' M') (d := d) (s := s) (e8 := τ.1 8) hd hs (nI N) N 0 ah_fu τ1 n m (by rw [r4 8 (by decide) (by decide), σ1]) r3 (by rw [s1]; exact hc.r1.1) c3 (by unfold ah_fu; omega) (by omega) with ⟨p2, τ2, u1, u2, u3, u4⟩ | ⟨S2, n2, m2, τ2, u1, -⟩
      · rw [s1, q1] at u1
        cases u1
        have te' : te τ τ2 := by
          refine ⟨fun q hq => ?_, tf0 (fun k hk => (u4.1 k (by omega) (by omega)).trans (r4 k (by omega) (by omega))) ((u4.2 10 (by decide) (by decide) (by decide)).trans (r6 10 (by decide)))⟩
          rw [u3 q hq, r5 q hq, σ1]
        obtain ⟨g1, g2⟩ := wd_ofz h hc1 (fun q h1 h2 => by rw [fl_out (by omega)]; exact q4 q h2) q5 (fun q hq => by rw [fl_out (by omega)]; exact q7 q hq) te'
        refine ⟨-2000 - nI p', _, _, τ2, z', by rw [e1, q2], ?_, g2, q5, by omega⟩
        conv => lhs; rw [← g1]
        rw [eM, r2, u2]
      · rw [s1, q1] at u1; cases u1
    · have hc0 := cs_mind q3 F'
      have hr0 : rf b (fl (b + 10) F' M') Y S' n' m' := rf_keep q4 (fun c hc => rf_fl (Or.inr (Or.inl rfl)) hc)
      have hc1 := cs_real (τ' := md_A τ 1 S') hc0 (by rw [md_A1]; exact hr0) (tf_A τ _)
      rcases m_fl38 (a := b + 53) (M0 := fl (b + 1) Y (fl (b + 10) F' M')) (d := d) (s := s) (e8 := τ.1 8) hd hs 101 ah_fu σ 0 0 (by rw [σ1]) tp0 (by omega) (by omega) (by unfold ah_fu; omega) with ⟨f', τ', r1, -⟩ | ⟨N', τ1, r1, r2, r3, r4, r5, r6⟩
      · rw [efm] at r1; cases r1
      rw [efm] at r1
      cases r1
      have s1 : τ1.1 1 = τ.1 1 := by rw [r4 1 (by decide) (by decide), σ1]
      rcases m_fl84 (a := b + 53) (M0 := fl (b + 1) Y (fl (b + 10) F' M')) (d := d) (s := s) (e8 := τ.1 8) hd hs (nI N) N 0 ah_fu τ1 n m (by rw [r4 8 (by decide) (by decide), σ1]) r3 (by rw [s1]; exact hc.r1.1) c3 (by unfold ah_fu; omega) (by omega) with ⟨p2, τ2, u1, -⟩ | ⟨S2, n2, m2, τ2, u1, u2, u3, u4⟩
      · rw [s1, q1] at u1; cases u1
      · rw [s1, q1] at u1
        cases u1
        have tf' : tf τ τ2 := tf0 (fun k hk => (u4.1 k (by omega) (by omega)).trans (r4 k (by omega) (by omega))) ((u4.2 10 (by decide) (by decide) (by decide)).trans (r6 10 (by decide)))
        have te' : te (md_A τ 1 S') τ2 := by
          refine ⟨fun q hq => by rw [md_A1, u3], ?_⟩
          obtain ⟨v1, v2, v3⟩ := tf'
          exact ⟨v1, fun k h5 h10 => by rw [v2 k h5 h10]; simp [md_A, show k ≠ 1 by omega], v3⟩
        obtain ⟨g1, g2⟩ := wd_ofz h hc1 (fun q h1 h2 => by rw [fl_out (by omega), fl_out (by omega)]; exact q5 q h2) q6 (fun q hq => by rw [fl_out (by omega), fl_out (by omega)]; exact q8 q hq) te'
        refine ⟨nI N, _, _, τ2, z', by rw [e1, q2, Nat.zero_add], ?_, g2, q6, by omega⟩
        conv => lhs; rw [← g1]
        rw [eM, r2, u2]
end FLEET
