/-! PURE LEVEL, 23: the world of both; calls that change it: commands, meet, image, restore -/
/-- the world: the class's half, the reference's, the law's own cell, nothing from z on -/
def wd (b : Nat) (M : ah_h) (z : Nat) (τ : md_T) : Prop := (∃ n m F1, cs b M τ n m F1) ∧ ma M (b + 53) τ ∧ (∃ f, M (b + 68) = some (ah_J 1 f)) ∧ b + 69 ≤ z ∧ ∀ q, z ≤ q → M q = none
section MUT
variable {b a : Nat} {M M0 : ah_h} {τ : md_T} {n m z : Nat} {F1 : fl_T}
/-- both have done the same -/
theorem wd_of {M1 : ah_h} {τ1 τ2 : md_T} {n1 m1 : Nat} {F2 : fl_T} (h : wd b M z τ) (hc : cs b M1 τ1 n1 m1 F2) (hf : fr b M M1) (ht : te τ1 τ2) : ma M1 (b + 53) τ ∧ wd b (md (b + 53) τ2 M1) z τ2 := by
  obtain ⟨-, hm, ⟨f, ho⟩, hz, hn⟩ := h
  have hm1 : ma M1 (b + 53) τ := ma_of hm (fun q h1 _ => hf q h1)
  refine ⟨hm1, ⟨n1, m1, F2, cs_md (cs_te hc ht) τ2⟩, ma_md, ⟨f, ?_⟩, hz, fun q hq => ?_⟩
  · rw [md_out (by omega), hf _ (by omega)]; exact ho
  · rw [md_out (by omega), hf _ (by omega)]; exact hn q hq
/-- a pair of calls that write -/
theorem wd_w {A : Type} {o : Option (A × ah_h)} {v : A} {r : ah_h → Option (A × ah_h)} {τ1 τ2 : md_T} {n1 m1 : Nat} {F2 : fl_T} (h : wd b M z τ) (hc : ∃ M1, o = some (v, M1) ∧ cs b M1 τ1 n1 m1 F2 ∧ fr b M M1) (hm : ∀ M0, r (md (b + 53) τ M0) = some (v, md (b + 53) τ2 M0)) (ht : te τ1 τ2) : ∃ v M1 M2 τ', o = some (v, M1) ∧ r M1 = some (v, M2) ∧ wd b M2 z τ' := by
  obtain ⟨M1, e1, e2, e3⟩ := hc
  obtain ⟨h1, h2⟩ := wd_of h e2 e3 ht
  refine ⟨v, M1, md (b + 53) τ2 M1, τ2, e1, ?_, h2⟩
  have := hm M1
  rw [h1] at this
  exact this
/-- two questions -/
theorem wd_q {A : Type} {o : Option (A × ah_h)} {v : A} {r : ah_h → Option (A × ah_h)} (h : wd b M z τ) (hc : cs b M τ n m F1 → ∃ M1, o = some (v, M1) ∧ cs b M1 τ n m F1 ∧ fr b M M1) (hcs : cs b M τ n m F1) (hm : ∀ M0, ∃ τ', r (md (b + 53) τ M0) = some (v, md (b + 53) τ' M0) ∧ te τ τ') : ∃ v M1 M2 τ', o = some (v, M1) ∧ r M1 = some (v, M2) ∧ wd b M2 z τ' := by
  obtain ⟨M1, e1, e2, e3⟩ := hc hcs
  obtain ⟨τ2, e4, e5⟩ := hm M1
  obtain ⟨h1, h2⟩ := wd_of h e2 e3 e5
  rw [h1] at e4
  exact ⟨v, M1, md (b + 53) τ2 M1, τ2, e1, e4, h2⟩
/-- the real fleet changes -/
theorem cs_real {τ' : md_T} {X : fl_T} {n' m' : Nat} (h : cs b M τ n m F1) (hr : rf b M X (τ'.1 1) n' m') (ht : tf τ τ') : cs b (fl (b + 1) X M) τ' n' m' X := by
  have ho : ∀ q, q < b + 1 ∨ b + 10 ≤ q ∨ q = b + 3 → fl (b + 1) X M q = M q := fun q hq => fl_out (by omega)
  have hc : ∀ c, rf_a b c → fl (b + 1) X M c = M c := fun c hc => ho c (by unfold rf_a at hc; omega)
  obtain ⟨t1, t2, t3⟩ := ht
  refine ⟨?_, fa_fl, rf_keep hr hc, ?_, ?_, fun d hd => sr_te hd (sr_of (h.sh d hd) (ho _ (by omega)) (ho _ (by omega)) hc) t2, ?_, fun i hi => ?_, ?_, ?_⟩
  · rw [t3]; exact co_of h.o (ho _ (by omega)) (ho _ (by omega))
  · obtain ⟨F2, k⟩ := h.f2
    exact ⟨F2, fa_of k (fun q _ _ _ => ho q (by omega))⟩
  · obtain ⟨F3, k1, k2⟩ := h.f3
    refine ⟨F3, fa_of k1 (fun q _ _ _ => ho q (by omega)), ?_⟩
    rw [t3]
    rcases k2 with k2 | ⟨k2, n3, m3, k3⟩
    · exact Or.inl k2
    · exact Or.inr ⟨k2, n3, m3, rf_sq (rf_keep k3 hc) t1⟩
  · rw [ho _ (by omega)]; exact h.g0
  · rw [ho _ (by omega)]; exact h.g1 i hi
  · rw [ho _ (by omega)]; exact h.wa
  · rw [ho _ (by omega)]; exact h.ch
theorem fr_real (X : fl_T) : fr b M (fl (b + 1) X M) := fun q hq => fl_out (by omega)
theorem tf_A (τ : md_T) (f : Nat → Int32) : tf τ (md_A τ 1 f) := ⟨fun _ _ => rfl, fun k h1 h2 => by simp [md_A, show k ≠ 1 by omega], rfl⟩
theorem tf_V {τ τ' : md_T} (h : tf τ τ') {k : Nat} (hk : k ≠ 10) (v : Int32) : tf τ (md_V τ' k v) := ⟨h.1, h.2.1, by
  rw [md_Vn _ _ (Ne.symm hk)]; exact h.2.2⟩
/-! meet -/
def sp_meet (S : Nat → Int32) (n m : Nat) (x y : Int32) : Int32 := if sp_un n x y = 0 then -1 else if sp_mm S n m x y = 0 then -3 else nI (100 * sp_g S m x + sp_g S m y)
theorem cs_giver (h : cs b M τ n m F1) {i : Nat} (hi : i < n) : fX2_giver M (b + 1) (nI i) = some (sp_I (sp_gv (τ.1 1) m i)) := by
  have e := rf_giver (a := b + 1) h.r1 (Or.inl rfl) hi
  rw [h.f1] at e
  exact e
theorem c_meet (h : cs b M τ n m F1) (x y : Int32) : ∃ M1 F', fX10_meet M b x y = some (sp_meet (τ.1 1) n m x y, M1) ∧ cs b M1 (md_A τ 1 (sp_go (τ.1 1) n m x y)) n m F' ∧ fr b M M1 := by
  have hS := h.r1.1
  have keep : sp_go (τ.1 1) n m x y = τ.1 1 → ∃ M1 F', some (sp_meet (τ.1 1) n m x y, M) = some (sp_meet (τ.1 1) n m x y, M1) ∧ cs b M1 (md_A τ 1 (sp_go (τ.1 1) n m x y)) n m F' ∧ fr b M M1 := fun e => by
    rw [e, md_Aself]
    exact ⟨M, F1, rfl, h, fr.rfl'⟩
  have hk := keep
  unfold fX10_meet sp_meet at *
  rw [h.o.ob, Option.bind_some, h.o.r0, Option.bind_some, fa_un h.f1 h.r1.2.1, Option.bind_some]
  by_cases c0 : sp_un n x y = 0
  · have c1 : sp_mm (τ.1 1) n m x y = 0 := by
      unfold sp_un at c0
      unfold sp_mm
      split
      · rfl
      split
      · rfl
      split
      · rfl
      · next a1 a2 a3 => rw [if_neg a1, if_neg a2, if_neg a3] at c0; exact absurd c0 (by decide)
    rw [if_pos c0] at hk ⊢
    rw [if_pos c0]
    exact hk (by unfold sp_go; rw [if_pos c1])
  rw [if_neg c0] at hk ⊢
  rw [if_neg c0, Option.bind_some, cs_can h, Option.bind_some]
  rcases sp_mm_cases hS x y with ⟨e, eg⟩ | ⟨i, j, g1, g2, rfl, rfl, hi, hj, hij, hwi, hwj, e1, e2, l1, l2, -, -, em, q1, q2, eg⟩
  · rw [if_pos e] at hk ⊢
    rw [if_pos e]
    exact hk eg
  · have em' : ¬ sp_mm (τ.1 1) n m (nI i) (nI j) = 0 := by rw [em]; decide
    obtain ⟨F', f1, f2⟩ := fl_step (a := b + 1) h.r1 (Or.inl rfl) (nI i) (nI j)
    rw [h.f1] at f1
    rw [if_neg em', if_neg em', Option.bind_some, cs_giver h hi, Option.bind_some, Option.bind_some, cs_giver h hj, Option.bind_some, Option.bind_some, f1, Option.bind_some, e1, e2, q1, q2]
    refine ⟨fl (b + 1) F' M, F', ?_, cs_real h (by rw [md_A1]; exact f2) (tf_A τ _), fr_real F'⟩
    show some (100 * nI g1 + nI g2, _) = _
    rw [show (100 : Int32) = nI 100 from rfl, pk_mul, nI_add]
theorem m_meet (hS : rf_S (τ.1 1) n m) (x y : Int32) : ∃ τ', fX11_meet (md a τ M0) a x y = some (sp_meet (τ.1 1) n m x y, md a τ' M0) ∧ te (md_A τ 1 (sp_go (τ.1 1) n m x y)) τ' := by
  have hn := hS.1
  unfold fX11_meet sp_meet sp_un
  rw [md_ob, Option.bind_some, md_isShip hS.2.2.1 (by omega), Option.bind_some, md_isShip hS.2.2.1 (by omega), Option.bind_some, md_may hS, Option.bind_some]
  have keep : ∀ v : Int32, sp_mm (τ.1 1) n m x y = 0 → ∃ τ', some (v, md a τ M0) = some (v, md a τ' M0) ∧ te (md_A τ 1 (sp_go (τ.1 1) n m x y)) τ' := fun v e => by
    have eg : sp_go (τ.1 1) n m x y = τ.1 1 := by unfold sp_go; rw [if_pos e]
    rw [eg, md_Aself]
    exact ⟨τ, rfl, te.rfl'⟩
  by_cases a1 : sp_is n x = 0
  · rw [if_pos a1, if_pos a1, if_pos rfl]
    exact keep _ (by unfold sp_mm; rw [if_pos a1])
  rw [if_neg a1, if_neg a1]
  by_cases a2 : sp_is n y = 0
  · rw [if_pos a2, if_pos a2, if_pos rfl]
    exact keep _ (by unfold sp_mm; rw [if_neg a1, if_pos a2])
  rw [if_neg a2, if_neg a2]
  by_cases a3 : x = y
  · rw [if_pos a3, if_pos a3, if_pos rfl]
    exact keep _ (by unfold sp_mm; rw [if_neg a1, if_neg a2, if_pos a3])
  rw [if_neg a3, if_neg a3, if_neg (show ¬ (1 : Int32) = 0 by decide)]
  by_cases c0 : sp_mm (τ.1 1) n m x y = 0
  · rw [if_pos c0, if_pos c0]
    exact keep _ c0
  · have em : sp_mm (τ.1 1) n m x y = 1 := (sp_mm_01 (τ.1 1) n m x y).resolve_left c0
    rw [if_neg c0, if_neg c0, md_step hS em, Option.bind_some, md_i12, Option.bind_some, md_i13, Option.bind_some]
    refine ⟨md_V (md_V (md_A τ 1 (sp_go (τ.1 1) n m x y)) 12 (nI (sp_g (τ.1 1) m x))) 13 (nI (sp_g (τ.1 1) m y)), ?_, ?_⟩
    · rw [md_V1, md_Vn _ _ (by decide), md_V1, show (100 : Int32) = nI 100 from rfl, pk_mul, nI_add]
    · refine ⟨fun q hq => ?_, tf_V (tf_V tf.rfl' (by decide) _) (by decide) _⟩
      rw [md_Vf, md_Vf]
theorem p_meet (h : wd b M z τ) (x y : Int32) : ∃ v M1 M2 τ', fX10_meet M b x y = some (v, M1) ∧ fX11_meet M1 (b + 53) x y = some (v, M2) ∧ wd b M2 z τ' := by
  obtain ⟨⟨n, m, F1, hc⟩, -⟩ := id h
  obtain ⟨M1, F', e1, e2, e3⟩ := c_meet hc x y
  obtain ⟨τ2, f1, f2⟩ := m_meet (a := b + 53) (M0 := M1) hc.r1.1 x y
  obtain ⟨h1, h2⟩ := wd_of h e2 e3 f2
  rw [h1] at f1
  exact ⟨_, M1, _, τ2, e1, f1, h2⟩
/-! commands -/
theorem p_commands (h : wd b M z τ) (x y : Int32) : ∃ v M1 M2 τ', fX10_commands M b x y = some (v, M1) ∧ fX11_commands M1 (b + 53) x y = some (v, M2) ∧ wd b M2 z τ' := by
  obtain ⟨⟨n, m, F1, hc⟩, -⟩ := id h
  obtain ⟨hn, hm, h0, h1, h2, h3⟩ := hc.r1.1
  have eM : ∀ N τ, fX11_commands (md (b + 53) τ N) (b + 53) x y = fX11_commands (md (b + 53) τ N) (b + 53) x y := fun _ _ => rfl
  have bad : ∀ v : Int32, ¬ v = 0 → (sp_is n y = 0 ∧ v = -1 ∨ ¬ sp_is n y = 0 ∧ sp_wk τ x = v) → fX10_commands M b x y = some (v, M) → ∃ v M1 M2 τ', fX10_commands M b x y = some (v, M1) ∧ fX11_commands M1 (b + 53) x y = some (v, M2) ∧ wd b M2 z τ' := fun v hv hh e => by
    obtain ⟨-, hma, -⟩ := id h
    refine ⟨v, M, M, τ, e, ?_, h⟩
    rw [← hma]
    unfold fX11_commands fX11_commands_17
    rw [md_ob, Option.bind_some, md_isShip h0 (by omega), Option.bind_some, md_wrongKept, Option.bind_some]
    rcases hh with ⟨c1, c2⟩ | ⟨c1, c2⟩
    · rw [if_pos c1, if_neg (by decide), c2]
    · rw [if_neg c1, c2, if_neg hv]
  have ec : fX10_commands M b x y = if sp_is n y = 0 then some (-1, M) else (if 0 ≤ sp_wk τ x then ((ah_gr M (b + 1) 2 3).bind fun v9 => (ah_ar M (b + 28) 3 x).bind fun v11 => (ah_gq M v11 7 0).bind fun v12 => v12.bind fun c14 => (ah_oc M c14).bind fun y15 => (ah_sr M v9 2 y c14).bind fun M13 => some (0, M13)) else some (sp_wk τ x, M)) := by
    unfold fX10_commands
    rw [hc.o.ob, Option.bind_some, hc.o.r0, Option.bind_some, fa_isShip hc.f1 hc.r1.2.1, Option.bind_some, co_refCap hc.o hc.sh, Option.bind_some, Option.bind_some, hc.o.r4]
    rfl
  rcases sp_is_cases (n := n) (by omega) y with hy | ⟨i, hi, rfl, hy⟩
  · exact bad (-1) (by decide) (Or.inl ⟨hy, rfl⟩) (by rw [ec, if_pos hy])
  have hy' : ¬ sp_is n (nI i) = 0 := by rw [hy]; decide
  rcases sp_wk_cases (cs_ts hc) x with ⟨l1, l2, l3⟩ | ⟨l1, d, kd, fg, hd, rfl, k5, hk, hf, k9, k10⟩
  · exact bad (sp_wk τ x) l2 (Or.inr ⟨hy', rfl⟩) (by rw [ec, if_neg hy', if_neg l3])
  obtain ⟨c, si, el, H, hca, hcp⟩ := cs_cap hc hd k5 k9 k10 hk hf
  have hF := hc.f1
  have esr : ah_sr M (b + 1 + 1) 2 (nI i) c = some (fl (b + 1) (fl_C F1 (va_up F1.2.1 i (some c))) M) := by
    have e := fl_sr (a := b + 1) (F := F1) (M0 := M) (i := i) (v := c) (by omega)
    rw [hF] at e
    exact e
  have e1 : fX10_commands M b (nI d) (nI i) = some (0, fl (b + 1) (fl_C F1 (va_up F1.2.1 i (some c))) M) := by
    rw [ec, if_neg hy', l1, if_pos (by decide), hF.r3, Option.bind_some, hc.o.sh hd, Option.bind_some, H.q0, Option.bind_some, Option.bind_some, cp_oc hcp, Option.bind_some, esr, Option.bind_some]
  have hr : rf b M (fl_C F1 (va_up F1.2.1 i (some c))) (upd (upd (τ.1 1) (3 + 2 * i) (nI kd)) (3 + 2 * i + 1) (nI fg)) n m := by
    obtain ⟨-, r1, r2, r3, r5, r6, r7⟩ := hc.r1
    have out : ∀ q, q ≠ 3 + 2 * i → q ≠ 3 + 2 * i + 1 → upd (upd (τ.1 1) (3 + 2 * i) (nI kd)) (3 + 2 * i + 1) (nI fg) q = τ.1 1 q := fun q u v => by rw [pk_un v, pk_un u]
    have kk : ∀ j, upd (upd (τ.1 1) (3 + 2 * i) (nI kd)) (3 + 2 * i + 1) (nI fg) (3 + 2 * j) = if j = i then nI kd else τ.1 1 (3 + 2 * j) := fun j => by
      by_cases e : j = i
      · subst e; rw [pk_un (by omega), pk_us, if_pos rfl]
      · rw [if_neg e, out _ (by omega) (by omega)]
    have kf : ∀ j, upd (upd (τ.1 1) (3 + 2 * i) (nI kd)) (3 + 2 * i + 1) (nI fg) (3 + 2 * j + 1) = if j = i then nI fg else τ.1 1 (3 + 2 * j + 1) := fun j => by
      by_cases e : j = i
      · subst e; rw [pk_us, if_pos rfl]
      · rw [if_neg e, out _ (by omega) (by omega)]
    refine ⟨⟨hn, hm, by rw [out _ (by omega) (by omega)]; exact h0, by rw [out _ (by omega) (by omega)]; exact h1, fun j hj => ?_, fun j hj => ?_⟩, r1, r2, by rw [out _ (by omega) (by omega)]; exact r3, fun j hj => ?_, fun j hj => ?_, fun j hj => ?_⟩
    · rw [kk j, kf j]
      by_cases e : j = i
      · exact ⟨kd, fg, hk, hf, by rw [if_pos e], by rw [if_pos e]⟩
      · rw [if_neg e, if_neg e]; exact h2 j hj
    · rw [out _ (by omega) (by omega)]; exact h3 j hj
    · rw [kk j, kf j]
      show ∃ c' kd' fg', va_up F1.2.1 i (some c) j = some c' ∧ _
      by_cases e : j = i
      · rw [if_pos e, if_pos e]
        exact ⟨c, kd, fg, by unfold va_up; rw [if_pos e], hca, hcp, fun _ => ⟨rfl, rfl⟩⟩
      · rw [if_neg e, if_neg e]
        obtain ⟨c', kd', fg', q1, q2⟩ := r5 j hj
        exact ⟨c', kd', fg', by unfold va_up; rw [if_neg e]; exact q1, q2⟩
    · rw [out _ (by omega) (by omega), out _ (by omega) (by omega), out _ (by omega) (by omega), out _ (by omega) (by omega), out _ (by omega) (by omega)]
      exact r6 j hj
    · show F1.2.2 3 j = _
      rw [r7 j hj, sp_cw_congr (fun k => out _ (by omega) (by omega))]
  have hcs : cs b (fl (b + 1) (fl_C F1 (va_up F1.2.1 i (some c))) M) (md_A τ 1 (upd (upd (τ.1 1) (3 + 2 * i) (nI kd)) (3 + 2 * i + 1) (nI fg))) n m (fl_C F1 (va_up F1.2.1 i (some c))) := cs_real hc (by rw [md_A1]; exact hr) (tf_A τ _)
  obtain ⟨g1, g2⟩ := wd_of h hcs (fr_real _) te.rfl'
  refine ⟨0, _, _, _, e1, ?_, g2⟩
  conv => lhs; rw [← g1]
  unfold fX11_commands fX11_commands_17
  rw [md_ob, Option.bind_some, md_isShip h0 (by omega), Option.bind_some, md_wrongKept, Option.bind_some, if_neg hy', if_pos l1, md_r0, Option.bind_some, md_r8, Option.bind_some, md_k9 hd, Option.bind_some, k9]
  rw [show (3 + 2 * nI i : Int32) = nI (3 + 2 * i) by rw [show (3 : Int32) = nI 3 from rfl, show (2 : Int32) = nI 2 from rfl, pk_mul, nI_add], md_si (k := 1) (by decide) (by decide) (by decide) (show 3 + 2 * i < 73 by omega), Option.bind_some, md_r0, Option.bind_some, md_r9, Option.bind_some, md_k10 hd, Option.bind_some, nI_1]
  rw [show (md_A τ 1 (upd (τ.1 1) (3 + 2 * i) (nI kd))).1 10 = τ.1 10 from rfl, k10, md_si (k := 1) (by decide) (by decide) (by decide) (show 3 + 2 * i + 1 < 73 by omega), Option.bind_some, md_A1, md_AA]
/-! image, restore -/
theorem p_image (h : wd b M z τ) : ∃ v M1 M2 τ', fX10_image M b = some (v, M1) ∧ fX11_image M1 (b + 53) = some (v, M2) ∧ wd b M2 z τ' := by
  obtain ⟨⟨n, m, F1, hc⟩, -⟩ := id h
  obtain ⟨F3, k1, k2⟩ := hc.f3
  have eB := fl_become (a := b + 19) (a' := b + 1) (F := F3) (G := F1) (M0 := M) (Or.inr (by omega)) hc.f1 (fun i hi => by
    obtain ⟨c, kd, fg, e1, e2, e3, -⟩ := hc.r1.2.2.2.2.1 i hi
    exact ⟨c, _, e1, by unfold rf_a at e2; omega, cp_oc e3⟩)
  rw [k1] at eB
  have rX : rf b M (fl_be F1 F3) (τ.1 1) n m := rf_eq hc.r1 (fl_be_eq F1 F3)
  generalize fl_be F1 F3 = X at eB rX
  have ho : ∀ q, q < b + 19 ∨ b + 28 ≤ q ∨ q = b + 21 → fl (b + 19) X M q = M q := fun q hq => fl_out (by omega)
  have hob : fl (b + 19) X M b = some (ah_O 10 [.ref (b + 1), .ref (b + 10), .ref (b + 19), .int (τ.2.2 10), .ref (b + 28), .ref (b + 45), .ref (b + 51), .ref (b + 52)]) := by rw [ho _ (by omega)]; exact hc.o.1
  have epf : ah_pf (fl (b + 19) X M) b 10 3 (.int 1) = some (ah_up (fl (b + 19) X M) b (ah_O 10 [.ref (b + 1), .ref (b + 10), .ref (b + 19), .int 1, .ref (b + 28), .ref (b + 45), .ref (b + 51), .ref (b + 52)])) := by
    unfold ah_pf ah_ob
    rw [hob]
    rfl
  generalize hM1 : ah_up (fl (b + 19) X M) b (ah_O 10 [.ref (b + 1), .ref (b + 10), .ref (b + 19), .int 1, .ref (b + 28), .ref (b + 45), .ref (b + 51), .ref (b + 52)]) = M1 at epf
  have o1 : M1 b = some (ah_O 10 [.ref (b + 1), .ref (b + 10), .ref (b + 19), .int 1, .ref (b + 28), .ref (b + 45), .ref (b + 51), .ref (b + 52)]) := by rw [← hM1]; exact ah_up_self _ _ _
  have o2 : ∀ q, (q < b + 19 ∧ q ≠ b) ∨ b + 28 ≤ q ∨ q = b + 21 → M1 q = M q := fun q hq => by rw [← hM1, ah_up_ne _ _ (by omega), ho _ (by omega)]
  have o3 : fa M1 (b + 19) X := fa_of fa_fl (fun q h1 h2 _ => by rw [← hM1, ah_up_ne _ _ (by omega)])
  have hcc : ∀ c, rf_a b c → M1 c = M c := fun c hc => o2 c (by unfold rf_a at hc; omega)
  obtain ⟨τ2, hτ2⟩ : ∃ σ, σ = md_A τ 2 (τ.1 1) := ⟨_, rfl⟩
  have hcs : cs b M1 (md_V (md_A τ 2 (τ.1 1)) 10 1) n m F1 := by
    refine ⟨?_, fa_of hc.f1 (fun q _ _ _ => o2 q (by omega)), rf_keep hc.r1 hcc, ?_, ⟨X, o3, Or.inr ⟨rfl, n, m, rf_keep rX hcc⟩⟩, fun d hd => ?_, ?_, fun i hi => ?_, ?_, ?_⟩
    · obtain ⟨-, f, g1, g2⟩ := hc.o
      exact ⟨o1, f, by rw [o2 _ (by omega)]; exact g1, g2⟩
    · obtain ⟨F2, k⟩ := hc.f2
      exact ⟨F2, fa_of k (fun q _ _ _ => o2 q (by omega))⟩
    · refine sr_te (τ := τ) hd (sr_of (hc.sh d hd) (o2 _ (by omega)) (o2 _ (by omega)) hcc) (fun k h5 h10 => ?_)
      rw [md_Vf]; simp [md_A, show k ≠ 2 by omega]
    · rw [o2 _ (by omega)]; exact hc.g0
    · rw [o2 _ (by omega)]; exact hc.g1 i hi
    · rw [o2 _ (by omega)]; exact hc.wa
    · rw [o2 _ (by omega)]; exact hc.ch
  have hfr : fr b M M1 := fun q hq => o2 q (by omega)
  obtain ⟨g, f1, f2⟩ := md_copies (a := b + 53) (τ := τ) (M0 := M1) (k := 1) (k' := 2) (by decide) (by decide) (by decide) (by decide) (by decide)
  have ht : te (md_V (md_A τ 2 (τ.1 1)) 10 1) (md_V (md_A τ 2 g) 10 1) := by
    refine ⟨fun _ _ => rfl, fun q hq => ?_, fun k h5 h10 => ?_, rfl⟩
    · rw [md_Vf, md_Vf, md_A1, md_A1]; exact f2 q hq
    · rw [md_Vf, md_Vf]; simp [md_A, show k ≠ 2 by omega]
  obtain ⟨g1, g2⟩ := wd_of h hcs hfr ht
  refine ⟨F1.1 2, M1, _, _, ?_, ?_, g2⟩
  · unfold fX10_image
    rw [hc.o.ob, Option.bind_some, hc.o.r2, Option.bind_some, hc.o.r0, Option.bind_some, eB, Option.bind_some, epf, Option.bind_some, hcs.o.r0, Option.bind_some, hcs.f1.i2, Option.bind_some]
  · conv => lhs; rw [← g1]
    unfold fX11_image
    rw [md_ob, Option.bind_some, md_r0, Option.bind_some, md_r1, Option.bind_some, f1, Option.bind_some, md_p10, Option.bind_some, md_r0, Option.bind_some, md_s2, Option.bind_some, hc.r1.2.2.2.1]
    rfl
theorem p_restore (h : wd b M z τ) : ∃ v M1 M2 τ', fX10_restore M b = some (v, M1) ∧ fX11_restore M1 (b + 53) = some (v, M2) ∧ wd b M2 z τ' := by
  obtain ⟨⟨n, m, F1, hc⟩, hma, -⟩ := id h
  obtain ⟨F3, k1, k2⟩ := hc.f3
  rcases k2 with k2 | ⟨k2, n3, m3, k3⟩
  · refine ⟨-3, M, M, τ, ?_, ?_, h⟩
    · unfold fX10_restore
      rw [hc.o.ob, Option.bind_some, hc.o.i3, Option.bind_some, if_pos k2]
    · rw [← hma]
      unfold fX11_restore
      rw [md_ob, Option.bind_some, md_i10, Option.bind_some, if_pos k2]
  · have eB := fl_become (a := b + 1) (a' := b + 19) (F := F1) (G := F3) (M0 := M) (Or.inl (by omega)) k1 (fun i hi => by
      obtain ⟨c, kd, fg, e1, e2, e3, -⟩ := k3.2.2.2.2.1 i hi
      exact ⟨c, _, e1, by unfold rf_a at e2; omega, cp_oc e3⟩)
    rw [hc.f1] at eB
    have rX : rf b M (fl_be F3 F1) (τ.1 2) n3 m3 := rf_eq k3 (fl_be_eq F3 F1)
    generalize fl_be F3 F1 = X at eB rX
    obtain ⟨g, f1, f2⟩ := md_copies (a := b + 53) (τ := τ) (M0 := fl (b + 1) X M) (k := 2) (k' := 1) (by decide) (by decide) (by decide) (by decide) (by decide)
    have hcs : cs b (fl (b + 1) X M) (md_A τ 1 g) n3 m3 X := cs_real hc (by rw [md_A1]; exact rf_sq rX f2) (tf_A τ _)
    obtain ⟨g1, g2⟩ := wd_of h hcs (fr_real X) te.rfl'
    have k2' : ¬ τ.2.2 10 = 0 := by rw [k2]; decide
    refine ⟨X.1 2, fl (b + 1) X M, _, _, ?_, ?_, g2⟩
    · unfold fX10_restore
      rw [hc.o.ob, Option.bind_some, hc.o.i3, Option.bind_some, if_neg k2', hc.o.r0, Option.bind_some, hc.o.r2, Option.bind_some, eB, Option.bind_some, hcs.o.r0, Option.bind_some, hcs.f1.i2, Option.bind_some]
    · conv => lhs; rw [← g1]
      unfold fX11_restore
      rw [md_ob, Option.bind_some, md_i10, Option.bind_some, if_neg k2', md_r1, Option.bind_some, md_r0, Option.bind_some, f1, Option.bind_some, md_r0, Option.bind_some, md_s2, Option.bind_some, md_A1, f2 2 (by decide), rX.2.2.2.1]
end MUT
