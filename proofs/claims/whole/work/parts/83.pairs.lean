/-! PURE LEVEL, 39: the calls in pairs (printed by gen/p83.py, but for toss and element) -/
section PAIRS
variable {b a : Nat} {M M0 : ah_h} {τ : md_T} {n m z : Nat} {F1 : fl_T}
theorem p_ship (h : wd b M z τ) (x y : Int32) : ∃ v, fX10_ship M b x y = some v ∧ fX11_ship M (b + 53) x y = some v := by
  obtain ⟨⟨n, m, F1, hc⟩, hma, -⟩ := id h
  have e := m_ship (a := b + 53) (M0 := M) hc.r1.1 x y
  rw [hma] at e
  exact ⟨_, c_ship hc x y, e⟩
theorem p_man (h : wd b M z τ) (x y : Int32) : ∃ v, fX10_man M b x y = some v ∧ fX11_man M (b + 53) x y = some v := by
  obtain ⟨⟨n, m, F1, hc⟩, hma, -⟩ := id h
  have e := m_man (a := b + 53) (M0 := M) hc.r1.1 x y
  rw [hma] at e
  exact ⟨_, c_man hc x y, e⟩
theorem p_can (h : wd b M z τ) (x y : Int32) : ∃ v, fX10_can M b x y = some v ∧ fX11_can M (b + 53) x y = some v := by
  obtain ⟨⟨n, m, F1, hc⟩, hma, -⟩ := id h
  have e := m_can (a := b + 53) (M0 := M) hc.r1.1 (cs_ts hc) x y
  rw [hma] at e
  exact ⟨_, c_can hc x y, e⟩
theorem p_soonest (h : wd b M z τ) (x y u : Int32) : ∃ v, fX10_soonest M b x y u = some v ∧ fX11_soonest M (b + 53) x y u = some v := by
  obtain ⟨⟨n, m, F1, hc⟩, hma, -⟩ := id h
  have e := m_soonest (a := b + 53) (M0 := M) hc.r1.1 (cs_ts hc) x y u
  rw [hma] at e
  exact ⟨_, c_soonest hc x y u, e⟩
theorem p_sailed (h : wd b M z τ) (x : Int32) : ∃ v, fX10_sailed M b x = some v ∧ fX11_sailed M (b + 53) x = some v := by
  obtain ⟨⟨n, m, F1, hc⟩, hma, -⟩ := id h
  have e := m_sailed (a := b + 53) (M0 := M) hc.r1.1 x
  rw [hma] at e
  exact ⟨_, c_sailed hc x, e⟩
theorem p_never (h : wd b M z τ) : ∃ v, fX10_never M b  = some v ∧ fX11_never M (b + 53)  = some v := by
  obtain ⟨⟨n, m, F1, hc⟩, hma, -⟩ := id h
  have e := m_never (a := b + 53) (M0 := M) hc.r1.1 
  rw [hma] at e
  exact ⟨_, c_never hc , e⟩
theorem p_mixed (h : wd b M z τ) : ∃ v, fX10_mixed M b  = some v ∧ fX11_mixed M (b + 53)  = some v := by
  obtain ⟨⟨n, m, F1, hc⟩, hma, -⟩ := id h
  have e := m_mixed (a := b + 53) (M0 := M) hc.r1.1 
  rw [hma] at e
  exact ⟨_, c_mixed hc , e⟩
theorem p_count (h : wd b M z τ) (x : Int32) : ∃ v, fX10_count M b x = some v ∧ fX11_count M (b + 53) x = some v := by
  obtain ⟨⟨n, m, F1, hc⟩, hma, -⟩ := id h
  have e := m_count (a := b + 53) (M0 := M) hc.r1.1 x
  rw [hma] at e
  exact ⟨_, c_count hc x, e⟩
theorem p_pay (h : wd b M z τ) (x : Int32) : ∃ v, fX10_pay M b x = some v ∧ fX11_pay M (b + 53) x = some v := by
  obtain ⟨⟨n, m, F1, hc⟩, hma, -⟩ := id h
  have e := m_pay (a := b + 53) (M0 := M) (cs_ts hc) x
  rw [hma] at e
  exact ⟨_, c_pay hc x, e⟩
theorem p_where (h : wd b M z τ) (x y : Int32) : ∃ v M1 M2 τ', fX10_where M b x y = some (v, M1) ∧ fX11_where M1 (b + 53) x y = some (v, M2) ∧ wd b M2 z τ' := by
  obtain ⟨⟨n, m, F1, hc⟩, -⟩ := id h
  obtain ⟨M1, e1, e2, e3⟩ := c_where hc x y
  obtain ⟨τ2, f1, f2⟩ := m_where (a := b + 53) (M0 := M1) hc.r1.1 (cs_ts hc) x y
  obtain ⟨h1, h2⟩ := wd_of h e2 e3 f2
  rw [h1] at f1
  exact ⟨_, M1, _, τ2, e1, f1, h2⟩
theorem p_letter (h : wd b M z τ) (x y : Int32) : ∃ v M1 M2 τ', fX10_letter M b x y = some (v, M1) ∧ fX11_letter M1 (b + 53) x y = some (v, M2) ∧ wd b M2 z τ' := by
  obtain ⟨⟨n, m, F1, hc⟩, -⟩ := id h
  obtain ⟨M1, e1, e2, e3⟩ := c_letter hc x y
  obtain ⟨τ2, f1, f2⟩ := m_letter (a := b + 53) (M0 := M1) hc.r1.1 (cs_ts hc) x y
  obtain ⟨h1, h2⟩ := wd_of h e2 e3 f2
  rw [h1] at f1
  exact ⟨_, M1, _, τ2, e1, f1, h2⟩
theorem p_moved (h : wd b M z τ) (x y : Int32) : ∃ v M1 M2 τ', fX10_moved M b x y = some (v, M1) ∧ fX11_moved M1 (b + 53) x y = some (v, M2) ∧ wd b M2 z τ' := by
  obtain ⟨⟨n, m, F1, hc⟩, -⟩ := id h
  obtain ⟨M1, e1, e2, e3⟩ := c_moved hc x y
  obtain ⟨τ2, f1, f2⟩ := m_moved (a := b + 53) (M0 := M1) hc.r1.1 (cs_ts hc) x y
  obtain ⟨h1, h2⟩ := wd_of h e2 e3 f2
  rw [h1] at f1
  exact ⟨_, M1, _, τ2, e1, f1, h2⟩
theorem p_together (h : wd b M z τ) (x y u : Int32) : ∃ v M1 M2 τ', fX10_together M b x y u = some (v, M1) ∧ fX11_together M1 (b + 53) x y u = some (v, M2) ∧ wd b M2 z τ' := by
  obtain ⟨⟨n, m, F1, hc⟩, -⟩ := id h
  obtain ⟨M1, e1, e2, e3⟩ := c_together hc x y u
  obtain ⟨τ2, f1, f2⟩ := m_together (a := b + 53) (M0 := M1) hc.r1.1 (cs_ts hc) x y u
  obtain ⟨h1, h2⟩ := wd_of h e2 e3 f2
  rw [h1] at f1
  exact ⟨_, M1, _, τ2, e1, f1, h2⟩
theorem p_seeded (h : wd b M z τ) (x y u : Int32) : ∃ v M1 M2 τ', fX10_seeded M b x y u = some (v, M1) ∧ fX11_seeded M1 (b + 53) x y u = some (v, M2) ∧ wd b M2 z τ' := by
  obtain ⟨⟨n, m, F1, hc⟩, -⟩ := id h
  obtain ⟨M1, e1, e2, e3⟩ := c_seeded hc x y u
  obtain ⟨τ2, f1, f2⟩ := m_seeded (a := b + 53) (M0 := M1) hc.r1.1 (cs_ts hc) x y u
  obtain ⟨h1, h2⟩ := wd_of h e2 e3 f2
  rw [h1] at f1
  exact ⟨_, M1, _, τ2, e1, f1, h2⟩
theorem p_judge (h : wd b M z τ) (x : Int32) : ∃ v M1 M2 τ', fX10_judge M b x = some (v, M1) ∧ fX11_judge M1 (b + 53) x = some (v, M2) ∧ wd b M2 z τ' := by
  obtain ⟨⟨n, m, F1, hc⟩, -⟩ := id h
  obtain ⟨M1, e1, e2, e3⟩ := c_judge hc x
  obtain ⟨τ2, f1, f2⟩ := m_judge (a := b + 53) (M0 := M1) hc.r1.1 (cs_ts hc) x
  obtain ⟨h1, h2⟩ := wd_of h e2 e3 f2
  rw [h1] at f1
  exact ⟨_, M1, _, τ2, e1, f1, h2⟩
theorem p_mixesMost (h : wd b M z τ) : ∃ v M1 M2 τ', fX10_mixesMost M b  = some (v, M1) ∧ fX11_mixesMost M1 (b + 53)  = some (v, M2) ∧ wd b M2 z τ' := by
  obtain ⟨⟨n, m, F1, hc⟩, -⟩ := id h
  obtain ⟨M1, e1, e2, e3⟩ := c_mixesMost hc 
  obtain ⟨τ2, f1, f2⟩ := m_mixesMost (a := b + 53) (M0 := M1) hc.r1.1 
  obtain ⟨h1, h2⟩ := wd_of h e2 e3 f2
  rw [h1] at f1
  exact ⟨_, M1, _, τ2, e1, f1, h2⟩
theorem p_likely (h : wd b M z τ) (x y u w : Int32) : ∃ v M1 M2 τ', fX10_likely M b x y u w = some (v, M1) ∧ fX11_likely M1 (b + 53) x y u w = some (v, M2) ∧ wd b M2 z τ' := by
  obtain ⟨⟨n, m, F1, hc⟩, -⟩ := id h
  obtain ⟨M1, e1, e2, e3⟩ := c_likely hc x y u w
  obtain ⟨τ2, f1, f2⟩ := m_likely (a := b + 53) (M0 := M1) hc.r1.1 (cs_ts hc) x y u w
  obtain ⟨h1, h2⟩ := wd_of h e2 e3 f2
  rw [h1] at f1
  exact ⟨_, M1, _, τ2, e1, f1, h2⟩
theorem p_lacks (h : wd b M z τ) (x : Int32) : ∃ v, fX10_lacks M b x = some v ∧ fX11_lacks M (b + 53) x = some v := by
  obtain ⟨⟨n, m, F1, hc⟩, hma, -⟩ := id h
  have e := m_lacks (a := b + 53) (M0 := M) hc.r1.1 x
  rw [hma] at e
  rcases c_lacks hc x with ⟨c1, c2⟩ | ⟨c1, w, c2, c3⟩
  · rcases e with ⟨d1, d2⟩ | ⟨d1, -⟩
    · exact ⟨_, c2, d2⟩
    · rw [c1] at d1; exact absurd d1 (by decide)
  · rcases e with ⟨d1, -⟩ | ⟨d1, w', d2, d3⟩
    · rw [c1] at d1; exact absurd d1 (by decide)
    · rw [sp_lk_eq d3 c3] at d2
      exact ⟨_, c2, d2⟩
/-! toss -/
def sp_worth (kd fg : Nat) : Int32 := if kd = 5 then 100 + nI fg else if kd = 7 then 200 + sp_pay 7 fg else nI fg
theorem cp_worth {c kd fg : Nat} (h : cp M c kd fg) : dv_worthOfFailure M c = some (sp_worth kd fg) := by
  have hk := h.2.1
  have hf := h.2.2
  unfold dv_worthOfFailure
  rcases (show kd = 0 ∨ kd = 1 ∨ kd = 2 ∨ kd = 3 ∨ kd = 4 ∨ kd = 5 ∨ kd = 6 ∨ kd = 7 by omega) with rfl | rfl | rfl | rfl | rfl | rfl | rfl | rfl
  all_goals
    have hb := cp_ob h
    simp only [cp_c] at hb
    simp only [fX0_worthOfFailure, fX3_worthOfFailure, fX1_worthOfFailure, fX3_wages, fX6_wages, fX5_wages, fX1_wages, cp_oc h, cp_fg h, hb, Option.bind_some, cp_c]
  · rfl
  · rfl
  · rfl
  · rfl
  · rfl
  · show some (nI fg + 100) = some (sp_worth 5 fg)
    exact congrArg some (Int32.add_comm _ _)
  · rfl
  · show some (200 + (2 * (6 - 1) + nI fg)) = some (sp_worth 7 fg)
    clear hb h
    revert fg
    decide +kernel
theorem p_toss (h : wd b M z τ) (x : Int32) : ∃ v, fX10_toss M b x = some v ∧ fX11_toss M (b + 53) x = some v := by
  obtain ⟨⟨n, m, F1, hc⟩, hma, -⟩ := id h
  have ec : fX10_toss M b x = if 0 ≤ sp_wk τ x then ((ah_ar M (b + 28) 3 x).bind fun v3 => (ah_gq M v3 7 0).bind fun v4 => v4.bind fun c5 => (ah_oc M c5).bind fun y => (ah_gc M c5 1).bind fun f => if y.1 = 8 ∨ f = 0 then some (-15) else dv_worthOfFailure M c5) else some (sp_wk τ x) := by
    unfold fX10_toss
    rw [hc.o.ob, Option.bind_some, co_refCap hc.o hc.sh, Option.bind_some, hc.o.r4, Option.bind_some]
  have em : fX11_toss (md (b + 53) τ M) (b + 53) x = if sp_wk τ x = 0 then ((ah_ai (md (b + 53) τ M) (b + 53 + 9) x).bind fun v5 => (ah_ai (md (b + 53) τ M) (b + 53 + 10) x).bind fun v7 => if v5 = 6 then (some (-15)) else (if v7 = 0 then (some (-15)) else (if v5 = 5 then (some (100 + v7)) else (if v5 = 7 then ((fX11_payBy (md (b + 53) τ M) v5 v7).bind fun v12 => some (200 + v12)) else (some v7))))) else (some (sp_wk τ x)) := by
    unfold fX11_toss
    rw [md_ob, Option.bind_some, md_wrongKept, Option.bind_some, md_r8, md_r9]
    rfl
  rw [hma] at em
  rcases sp_wk_cases (cs_ts hc) x with ⟨h1, h2, h3⟩ | ⟨h1, d, kd, fg, hd, rfl, k5, hk, hf, k9, k10⟩
  · exact ⟨sp_wk τ x, by rw [ec, if_neg h3], by rw [em, if_neg h2]⟩
  · obtain ⟨c, si, el, H, -, hp⟩ := cs_cap hc hd k5 k9 k10 hk hf
    have e9 := md_k9 (a := b + 53) (τ := τ) (M0 := M) hd
    have e10 := md_k10 (a := b + 53) (τ := τ) (M0 := M) hd
    rw [hma, k9] at e9
    rw [hma, k10] at e10
    rw [ec, em, h1, if_pos (by decide), if_pos rfl, hc.o.sh hd, Option.bind_some, H.q0, Option.bind_some, Option.bind_some, cp_oc hp, Option.bind_some, cp_fg hp, Option.bind_some, e9, Option.bind_some, e10, Option.bind_some, cp_worth hp, m_payBy _ hk hf, Option.bind_some]
    have key : ∀ kd, kd < 8 → ∀ fg, fg < 10 → (if cp_c kd = 8 ∨ nI fg = 0 then some (-15) else some (sp_worth kd fg)) = some (if cp_c kd = 8 ∨ nI fg = 0 then (-15) else sp_worth kd fg) ∧ (if nI kd = 6 then (some (-15)) else (if nI fg = 0 then (some (-15)) else (if nI kd = 5 then (some (100 + nI fg)) else (if nI kd = 7 then some (200 + sp_pay kd fg) else (some (nI fg)))))) = some (if cp_c kd = 8 ∨ nI fg = 0 then (-15) else sp_worth kd fg) := by decide +kernel
    exact ⟨_, (key kd hk fg hf).1, (key kd hk fg hf).2⟩
/-! element -/
/-- what the law's element answers -/
def fEl (M : ah_h) (a0 : Nat) (x1 x2 : Int32) (a3 : Nat) : Option (Int32 × ah_h) := (fX10_isShelf M x1).bind fun v1 => if v1 = 0 then some (1, M) else (ah_gr M a0 10 4).bind fun v2 => (ah_ar M v2 3 x1).bind fun v3 => (fX7_holdsRow M v3).bind fun v4 => if v4 = 0 then some (2, M) else (fX7_hasPlace M v3 x2).bind fun v5 => if v5 = 0 then some (2, M) else (fX7_at M v3 x2).bind fun v6 => (ah_sj M a3 0 v6.toInt64).bind fun M' => some (0, M')
theorem shA.holds {h : Nat} {cap : Option Nat} {so si : Int32} {el : Nat → Int32} (H : shA M h cap so si el) : fX7_holdsRow M h = some (if so < 0 then 0 else 1) := by
  unfold fX7_holdsRow
  rw [H.ob, Option.bind_some, H.i1, Option.bind_some]
  split <;> rfl
theorem md_isInS {s : Nat} (hs : s < 2 ^ 31) (M : ah_h) (y : Int32) : fX11_isIn M y.toInt64 0 ((nI s - 1).toInt64) = some (sp_is s y) := by
  rw [show (0 : Int64) = (0 : Int32).toInt64 from rfl, md_isIn]
  unfold sp_is
  by_cases c : y < 0
  · rw [if_pos c, if_pos c]
  · rw [if_neg c, if_neg c]
    simp only [pl_pred_lt hs y c]
theorem p_element (h : wd b M z τ) (x y : Int32) : ∃ k M1 v M2 τ', fEl M b x y (b + 68) = some (k, M1) ∧ fX11_element M1 (b + 53) x y = some (v, M2) ∧ fX11_thrown M2 (b + 53) = some k ∧ (k = 0 → ah_aj M2 (b + 68) 0 = some v) ∧ wd b M2 z τ' := by
  obtain ⟨⟨n, m, F1, hc⟩, hma, ⟨fo, ho⟩, hz, hn⟩ := id h
  have thr : ∀ k N, fX11_thrown (md (b + 53) (md_V τ 11 k) N) (b + 53) = some k := fun k N => by
    unfold fX11_thrown
    rw [md_ob, Option.bind_some, md_i11, Option.bind_some, md_V1]
  have te1 : ∀ k, te τ (md_V τ 11 k) := fun k => ⟨fun _ _ => rfl, tf_V tf.rfl' (by decide) k⟩
  have thrown : ∀ k : Int32, ¬ k = 0 → fEl M b x y (b + 68) = some (k, M) → fX11_element (md (b + 53) τ M) (b + 53) x y = fX11_element_45 (md (b + 53) τ M) (b + 53) x y (b + 53) k → ∃ k M1 v M2 τ', fEl M b x y (b + 68) = some (k, M1) ∧ fX11_element M1 (b + 53) x y = some (v, M2) ∧ fX11_thrown M2 (b + 53) = some k ∧ (k = 0 → ah_aj M2 (b + 68) 0 = some v) ∧ wd b M2 z τ' := fun k hk e1 e2 => by
    obtain ⟨g1, g2⟩ := wd_of h hc fr.rfl' (te1 k)
    refine ⟨k, M, 0, md (b + 53) (md_V τ 11 k) M, _, e1, ?_, thr k M, fun q => absurd q hk, g2⟩
    rw [hma] at e2
    rw [e2]
    conv => lhs; rw [← hma]
    unfold fX11_element_45
    rw [md_p11, Option.bind_some, md_i11, Option.bind_some, md_V1, if_neg hk]
  have em : ∀ N, fX11_element (md (b + 53) τ N) (b + 53) x y = if sp_is 8 x = 0 then fX11_element_45 (md (b + 53) τ N) (b + 53) x y (b + 53) 1 else ((ah_ai (md (b + 53) τ N) (b + 53 + 5) x).bind fun v4 => if v4 = 2 then ((ah_ai (md (b + 53) τ N) (b + 53 + 7) x).bind fun v7 => (fX11_isIn (md (b + 53) τ N) y.toInt64 0 ((v7 - 1).toInt64)).bind fun v8 => if v8 = 0 then (fX11_element_45 (md (b + 53) τ N) (b + 53) x y (b + 53) 2) else (fX11_element_45 (md (b + 53) τ N) (b + 53) x y (b + 53) 0)) else (fX11_element_45 (md (b + 53) τ N) (b + 53) x y (b + 53) 2)) := fun N => by
    unfold fX11_element fX11_element_40
    rw [md_ob, Option.bind_some, md_isShelf, Option.bind_some, md_r4, Option.bind_some, md_r6]
    rfl
  have ec : fEl M b x y (b + 68) = if sp_is 8 x = 0 then some (1, M) else (ah_ar M (b + 28) 3 x).bind fun v3 => (fX7_holdsRow M v3).bind fun v4 => if v4 = 0 then some (2, M) else (fX7_hasPlace M v3 y).bind fun v5 => if v5 = 0 then some (2, M) else (fX7_at M v3 y).bind fun v6 => (ah_sj M (b + 68) 0 v6.toInt64).bind fun M' => some (0, M') := by
    unfold fEl
    rw [co_isShelf, Option.bind_some, hc.o.r4, Option.bind_some]
  rcases sp_is_cases (n := 8) (by decide) x with hx | ⟨d, hd, rfl, hx⟩
  · exact thrown 1 (by decide) (by rw [ec, if_pos hx]) (by rw [em, if_pos hx])
  have hx' : ¬ sp_is 8 (nI d) = 0 := by rw [hx]; decide
  obtain ⟨cap, so, si, el, H, hk⟩ := hc.sh d hd
  have no : so = -1 → ¬ τ.1 5 d = 2 → ∃ k M1 v M2 τ', fEl M b (nI d) y (b + 68) = some (k, M1) ∧ fX11_element M1 (b + 53) (nI d) y = some (v, M2) ∧ fX11_thrown M2 (b + 53) = some k ∧ (k = 0 → ah_aj M2 (b + 68) 0 = some v) ∧ wd b M2 z τ' := fun e1 e2 => by
    refine thrown 2 (by decide) ?_ ?_
    · rw [ec, if_neg hx', hc.o.sh hd, Option.bind_some, H.holds, Option.bind_some, e1, if_pos (by decide)]
    · rw [em, if_neg hx', md_k5 hd, Option.bind_some, if_neg e2]
  rcases hk with ⟨k5, -, k1⟩ | ⟨k5, k1, -⟩ | ⟨k5, -, t, s, ht, hs, k1, k2, k6, k7, k8⟩
  · exact no k1 (by rw [k5]; decide)
  · exact no k1 (by rw [k5]; decide)
  have hrow : fX7_holdsRow M (b + 29 + 2 * d) = some 1 := by rw [H.holds, k1, if_neg (nI_pos (by omega))]
  have ec' : fEl M b (nI d) y (b + 68) = if sp_is s y = 0 then some (2, M) else (fX7_at M (b + 29 + 2 * d) y).bind fun v6 => (ah_sj M (b + 68) 0 v6.toInt64).bind fun M' => some (0, M') := by
    rw [ec, if_neg hx', hc.o.sh hd, Option.bind_some, hrow, Option.bind_some, if_neg (by decide), H.hasPlace k2, Option.bind_some]
  have em' : ∀ N, fX11_element (md (b + 53) τ N) (b + 53) (nI d) y = if sp_is s y = 0 then (fX11_element_45 (md (b + 53) τ N) (b + 53) (nI d) y (b + 53) 2) else (fX11_element_45 (md (b + 53) τ N) (b + 53) (nI d) y (b + 53) 0) := fun N => by
    rw [em, if_neg hx', md_k5 hd, Option.bind_some, if_pos k5, md_k7 hd, Option.bind_some, k7, md_isInS (by omega), Option.bind_some]
  rcases sp_is_cases (n := s) (by omega) y with hy | ⟨j, hj, rfl, hy⟩
  · exact thrown 2 (by decide) (by rw [ec', if_pos hy]) (by rw [em', if_pos hy])
  have hy' : ¬ sp_is s (nI j) = 0 := by rw [hy]; decide
  have hsj : ah_sj M (b + 68) 0 (el j).toInt64 = some (ah_up M (b + 68) (ah_J 1 (vp_updL fo 0 (el j).toInt64))) := by
    unfold ah_sj
    rw [ho]
    rfl
  generalize hM1 : ah_up M (b + 68) (ah_J 1 (vp_updL fo 0 (el j).toInt64)) = M1 at hsj
  have o1 : ∀ q, q ≠ b + 68 → M1 q = M q := fun q hq => by rw [← hM1]; exact ah_up_ne _ _ hq
  have o2 : M1 (b + 68) = some (ah_J 1 (vp_updL fo 0 (el j).toInt64)) := by rw [← hM1]; exact ah_up_self _ _ _
  have hma1 : ma M1 (b + 53) τ := ma_of hma (fun q h1 h2 => o1 q (by omega))
  have hc1 : cs b M1 τ n m F1 := cs_of hc (fun q hq => o1 q (by omega)) (by
    obtain ⟨F2, k⟩ := hc.f2
    exact ⟨F2, fa_of k (fun q _ _ _ => o1 q (by omega))⟩) (o1 _ (by omega)) (fun i hi => by rw [o1 _ (by omega)]; exact hc.g1 i hi) (by rw [o1 _ (by omega)]; exact hc.wa) (by rw [o1 _ (by omega)]; exact hc.ch)
  refine ⟨0, M1, (el j).toInt64, md (b + 53) (md_V τ 11 0) M1, md_V τ 11 0, ?_, ?_, thr 0 M1, fun _ => ?_, ⟨n, m, F1, cs_md (cs_te hc1 (te1 0)) _⟩, ma_md, ⟨_, (md_out (by omega)).trans o2⟩, hz, fun q hq => by rw [md_out (by omega), o1 q (by omega)]; exact hn q hq⟩
  · rw [ec', if_neg hy', H.at k2 hs hj, Option.bind_some, hsj, Option.bind_some]
  · have e := em' M1
    rw [hma1] at e
    rw [e, if_neg hy']
    conv => lhs; rw [← hma1]
    unfold fX11_element_45
    rw [md_p11, Option.bind_some, md_i11, Option.bind_some, md_V1, if_pos rfl, md_r7, Option.bind_some, show (100 : Int32) * nI d + nI j = nI (100 * d + j) by rw [show (100 : Int32) = nI 100 from rfl, pk_mul, nI_add], md_k8 (by omega), Option.bind_some, md_Vf, ← k8 j (by omega)]
  · unfold ah_aj
    rw [md_out (by omega), o2]
    show (if ah_in 0 1 = true then some (vp_updL fo 0 (el j).toInt64 (0 : Int32).toNatClampNeg) else none) = _
    rw [if_pos (by decide)]
    exact congrArg some pk_uLs
end PAIRS
/-- the law's element, at the machine -/
theorem hxL_el (l : Launch) (hl9 : l.stackTraces = false) (H0 : Heap) (D : va_G) (ca : Nat → ClassId) (M : ah_h) (z : Nat) (a0 : Nat) (x1 x2 : Int32) (a3 : Nat) (Z : Int32 × ah_h) {fs : List Value} (hO : M a0 = some (ah_O 10 fs)) (hf : fEl M a0 x1 x2 a3 = some Z) : ax_H l H0 D ca yL_element cL_element 5 (some .int) [(0, 9, 12, 13), (0, 9, 16, 15)] 8 130 1 6 [.ref a0, .int x1, .int x2, .ref a3] M z (some (.int Z.1)) Z.2 := by
  unfold fEl at hf
  obtain ⟨v1, e1, hf⟩ := Option.bind_eq_some_iff.mp hf
  by_cases h1 : v1 = 0
  · rw [if_pos h1] at hf
    cases hf
    exact hxL_elementA l H0 D ca M z a0 x1 x2 a3 hO (txX10_elementA l hl9 H0 D ca M z a0 x1 x2 e1 h1)
  rw [if_neg h1] at hf
  obtain ⟨v2, e2, hf⟩ := Option.bind_eq_some_iff.mp hf
  obtain ⟨v3, e3, hf⟩ := Option.bind_eq_some_iff.mp hf
  obtain ⟨v4, e4, hf⟩ := Option.bind_eq_some_iff.mp hf
  by_cases h4 : v4 = 0
  · rw [if_pos h4] at hf
    cases hf
    exact hxL_elementS l H0 D ca M z a0 x1 x2 a3 hO (txX10_elementB l hl9 H0 D ca M z a0 x1 x2 e1 h1 e2 e3 e4 h4)
  rw [if_neg h4] at hf
  obtain ⟨v5, e5, hf⟩ := Option.bind_eq_some_iff.mp hf
  by_cases h5 : v5 = 0
  · rw [if_pos h5] at hf
    cases hf
    exact hxL_elementS l H0 D ca M z a0 x1 x2 a3 hO (txX10_elementC l hl9 H0 D ca M z a0 x1 x2 e1 h1 e2 e3 e4 h4 e5 h5)
  rw [if_neg h5] at hf
  obtain ⟨v6, e6, hf⟩ := Option.bind_eq_some_iff.mp hf
  obtain ⟨M', e7, hf⟩ := Option.bind_eq_some_iff.mp hf
  cases hf
  exact hxL_element0 l H0 D ca M z a0 x1 x2 a3 hO (ctX10_element l H0 D ca M z a0 x1 x2 e1 h1 e2 e3 e4 h4 e5 h5 e6) e7
