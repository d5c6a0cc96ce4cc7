/-! PURE LEVEL, 34: crews, both -/
section CRW
variable {b a : Nat} {M M0 : ah_h} {τ : md_T} {n m z : Nat} {F1 : fl_T}
theorem c_tells (h : cs b M τ n m F1) {d s : Nat} {el : Nat → Int32} (H : shA M (b + 29 + 2 * d) none (nI 0) (nI s) el) (hs : s ≤ 100) : ∃ r, fX10_tellsOfEachMan M b (b + 29 + 2 * d) = some r ∧ (r = 0 ∧ ¬ (s = m ∧ ∀ k, k < m → sp_is n (el k) = 1) ∨ r = 1 ∧ s = m ∧ ∀ k, k < m → sp_is n (el k) = 1) := by
  have hm := h.r1.1.2.1
  have i1 := h.f1.i1
  rw [h.r1.2.2.1] at i1
  unfold fX10_tellsOfEachMan
  rw [h.o.ob, Option.bind_some, H.i2, Option.bind_some, h.o.r0, Option.bind_some, i1, Option.bind_some]
  by_cases c : s = m
  case neg =>
    rw [if_neg (fun q => c ((nI_eq (by omega) (by omega)).mp q))]
    exact ⟨0, rfl, Or.inl ⟨rfl, fun q => c q.1⟩⟩
  subst c
  rw [if_pos rfl]
  refine pl_run (fun f (_ : Unit) k => fX10_tellsOfEachMan_18 M f b (b + 29 + 2 * d) (nI k)) s (fun k _ => ∀ j, j < k → sp_is n (el j) = 1) (fun r => r = 0 ∧ ¬ (s = s ∧ ∀ k, k < s → sp_is n (el k) = 1) ∨ r = 1 ∧ s = s ∧ ∀ k, k < s → sp_is n (el k) = 1) ?_ ?_ ah_fu () 0 (by omega) (by unfold ah_fu; omega) (fun j hj => by omega)
  · intro f _ k hk hI
    have step : fX10_tellsOfEachMan_18 M (f + 1) b (b + 29 + 2 * d) (nI k) = if sp_is n (el k) = 0 then some 0 else fX10_tellsOfEachMan_18 M f b (b + 29 + 2 * d) (nI (k + 1)) := by
      show fX10_tellsOfEachMan_18_b _ _ _ _ _ = _
      unfold fX10_tellsOfEachMan_18_b
      rw [H.i2, Option.bind_some, if_neg (nI_ge hk (by omega)), h.o.r0, Option.bind_some, H.at rfl hs hk, Option.bind_some, fa_isShip h.f1 h.r1.2.1, Option.bind_some, nI_1]
    show (∃ s' : Unit, fX10_tellsOfEachMan_18 M (f + 1) b (b + 29 + 2 * d) (nI k) = _ ∧ _) ∨ ∃ r, fX10_tellsOfEachMan_18 M (f + 1) b (b + 29 + 2 * d) (nI k) = some r ∧ _
    rw [step]
    rcases sp_is_01 n (el k) with c | c
    · rw [if_pos c]
      refine Or.inr ⟨0, rfl, Or.inl ⟨rfl, fun q => ?_⟩⟩
      have := q.2 k hk
      rw [c] at this
      exact absurd this (by decide)
    · rw [if_neg (by rw [c]; decide)]
      refine Or.inl ⟨(), rfl, fun j hj => ?_⟩
      by_cases e : j = k
      · subst e; exact c
      · exact hI j (by omega)
  · intro f _ hI
    refine ⟨1, ?_, Or.inr ⟨rfl, rfl, hI⟩⟩
    show fX10_tellsOfEachMan_18_b _ _ _ _ _ = _
    unfold fX10_tellsOfEachMan_18_b
    rw [H.i2, Option.bind_some, if_pos (nI_le (Nat.le_refl _) (by omega))]
/-- each man is wanted where the row tells -/
def sp_wE (m : Nat) (E : Nat → Int32) (j : Nat) : Option Nat := if j < m then some (E j).toNatClampNeg else none
theorem sp_wE_in {E : Nat → Int32} (hn : n ≤ 5) (hE : ∀ k, k < m → sp_is n (E k) = 1) {j : Nat} (hj : j < m) : ∃ i, i < n ∧ E j = nI i ∧ sp_wE m E j = some i := by
  rcases sp_is_cases (n := n) (by omega) (E j) with c | ⟨i, hi, e, -⟩
  · rw [hE j hj] at c; exact absurd c (by decide)
  · refine ⟨i, hi, e, ?_⟩
    unfold sp_wE
    rw [if_pos hj, e, nI_clamp (by omega)]
theorem c_crews33 (h : cs b M τ n m F1) {d : Nat} (hd : d < 8) {el : Nat → Int32} (H : shA M (b + 29 + 2 * d) none (nI 0) (nI m) el) (hE : ∀ k, k < m → sp_is n (el k) = 1) : ∃ r f M1, fX10_crews_33 ah_fu M b (b + 29 + 2 * d) 0 = some (r, M1) ∧ sp_few n m (sp_wE m el) (τ.1 1) 3 r f ∧ cs b M1 τ n m F1 ∧ fr b M M1 := by
  have hm := h.r1.1.2.1
  have hn := h.r1.1.1
  obtain ⟨W0, hW0⟩ := h.wa
  have key := pl_runK (fun v (W : Nat → Int32) k => fX10_crews_33 v (ah_up M (b + 51) (ah_I 12 W)) b (b + 29 + 2 * d) (nI k)) 12 (fun k W => ∀ j, j < k → W j = sp_W (sp_wE m el j)) (fun W => (fX10_fewestMeetings (ah_up M (b + 51) (ah_I 12 W)) b 3).bind fun v2 => some (v2.1, v2.2)) ?_ ?_ ah_fu W0 0 (by omega) (by decide) (fun j hj => by omega)
  · obtain ⟨W, e1, hW⟩ := key
    have e2 : fX10_crews_33 ah_fu M b (b + 29 + 2 * d) 0 = fX10_crews_33 ah_fu (ah_up M (b + 51) (ah_I 12 W0)) b (b + 29 + 2 * d) (nI 0) := by
      rw [ah_up_at hW0]
      rfl
    rw [e2, e1]
    have h' := cs_wanted h W
    have hw : gw b n (ah_up M (b + 51) (ah_I 12 W)) (sp_wE m el) := gw_of h hW (fun j i hj => by
      by_cases c : j < m
      · obtain ⟨i', q1, q2, q3⟩ := sp_wE_in hn hE c
        rw [q3] at hj
        cases hj; exact q1
      · unfold sp_wE at hj
        rw [if_neg c] at hj
        cases hj)
    obtain ⟨r, X, N, f1, f2, f, N2, f3, -⟩ := c_few h' hw (show 3 ≤ 4 by omega)
    rw [show (3 : Int32) = nI 3 from rfl, f1, Option.bind_some]
    exact ⟨r, f, fl (b + 10) X N, rfl, f3, cs_mind (cs_gn h' f2) X, fun q hq => by rw [fl_out (by omega), f2.1 _ (by omega), ah_up_ne _ _ (by omega)]⟩
  · intro v W k hk hW
    have h' := cs_wanted h W
    have H' : shA (ah_up M (b + 51) (ah_I 12 W)) (b + 29 + 2 * d) none (nI 0) (nI m) el := shA_of H (ah_up_ne _ _ (by omega)) (ah_up_ne _ _ (by omega))
    refine ⟨upd W k (sp_W (sp_wE m el k)), ?_, fun j hj => ?_⟩
    · show fX10_crews_33_b _ _ _ _ _ = _
      unfold fX10_crews_33_b fX10_crews_65
      rw [if_neg (pl_n12 hk), h'.o.r6, Option.bind_some, H'.i2, Option.bind_some]
      by_cases c : k < m
      · rw [if_neg (nI_ge c (by omega)), H'.at rfl (by omega) c, Option.bind_some, ah_si_at (ah_up_self _ _ _) hk (by decide), Option.bind_some, ah_up_up, nI_1]
        obtain ⟨i, q1, q2, q3⟩ := sp_wE_in hn hE c
        rw [q3, q2]
        rfl
      · rw [if_pos (nI_le (by omega) (by omega)), ah_si_at (ah_up_self _ _ _) hk (by decide), Option.bind_some, ah_up_up, nI_1]
        unfold sp_wE
        rw [if_neg c]
        rfl
    · by_cases e : j = k
      · subst e; rw [pk_us]
      · rw [pk_un e]; exact hW j (by omega)
  · intro v W _
    show fX10_crews_33_b _ _ _ _ _ = _
    unfold fX10_crews_33_b
    rw [if_pos (by decide)]
theorem m_crews33 (hS : rf_S (τ.1 1) n m) {d : Nat} (hd : d < 8) (k7 : τ.1 7 d = nI m) : ∃ r τ', fX11_crews_33 ah_fu (md a τ M0) a (nI d) 0 = some (r, md a τ' M0) ∧ te τ τ' ∧ ((r = -13 ∧ ¬ ∀ k, k < m → sp_is n (τ.1 8 (100 * d + k)) = 1) ∨ (∀ k, k < m → sp_is n (τ.1 8 (100 * d + k)) = 1) ∧ ∃ f, sp_few n m (sp_wE m (fun k => τ.1 8 (100 * d + k))) (τ.1 1) 3 r f) := by
  have hm := hS.2.1
  have hn := hS.1
  have key := pl_run (fun v (W : Nat → Int32) k => fX11_crews_33 v (md a (md_A τ 14 W) M0) a (nI d) (nI k)) m (fun k W => ∀ j, j < k → sp_is n (τ.1 8 (100 * d + j)) = 1 ∧ W j = τ.1 8 (100 * d + j)) (fun r => ∃ τ', r.2 = md a τ' M0 ∧ te τ τ' ∧ ((r.1 = -13 ∧ ¬ ∀ k, k < m → sp_is n (τ.1 8 (100 * d + k)) = 1) ∨ (∀ k, k < m → sp_is n (τ.1 8 (100 * d + k)) = 1) ∧ ∃ f, sp_few n m (sp_wE m (fun k => τ.1 8 (100 * d + k))) (τ.1 1) 3 r.1 f)) ?_ ?_ ah_fu (τ.1 14) 0 (by omega) (by unfold ah_fu; omega) (fun j hj => by omega)
  · obtain ⟨⟨r, N⟩, e1, τ', rfl, e2⟩ := key
    refine ⟨r, τ', ?_, e2⟩
    rw [← e1]
    show _ = fX11_crews_33 ah_fu (md a (md_A τ 14 (τ.1 14)) M0) a (nI d) (nI 0)
    rw [md_Aself]
    rfl
  · intro v W k hk hI
    have e8 : ah_ai (md a (md_A τ 14 W) M0) (a + 8) (100 * nI d + nI k) = some (τ.1 8 (100 * d + k)) := md_e8 hd (by omega) rfl
    have step : fX11_crews_33 (v + 1) (md a (md_A τ 14 W) M0) a (nI d) (nI k) = if sp_is n (τ.1 8 (100 * d + k)) = 0 then some (-13, md a (md_A τ 14 W) M0) else fX11_crews_33 v (md a (md_A τ 14 (upd W k (τ.1 8 (100 * d + k)))) M0) a (nI d) (nI (k + 1)) := by
      show fX11_crews_33_b _ _ _ _ _ = _
      unfold fX11_crews_33_b
      rw [md_r6, Option.bind_some, md_k7 hd, Option.bind_some]
      show (if τ.1 7 d ≤ nI k then _ else _) = _
      rw [k7, if_neg (nI_ge hk (by omega)), md_r7, Option.bind_some, e8, Option.bind_some, md_isShip (show (md_A τ 14 W).1 1 0 = nI n from hS.2.2.1) (by omega), Option.bind_some, md_r22, Option.bind_some, Option.bind_some, e8, Option.bind_some, md_w14 (by omega), Option.bind_some, md_AA, md_A1, nI_1]
    show (∃ s' : Nat → Int32, fX11_crews_33 (v + 1) (md a (md_A τ 14 W) M0) a (nI d) (nI k) = _ ∧ _) ∨ ∃ r, fX11_crews_33 (v + 1) (md a (md_A τ 14 W) M0) a (nI d) (nI k) = some r ∧ _
    rw [step]
    rcases sp_is_01 n (τ.1 8 (100 * d + k)) with c | c
    · rw [if_pos c]
      refine Or.inr ⟨_, rfl, _, rfl, te_14 τ W, Or.inl ⟨rfl, fun q => ?_⟩⟩
      have := q k hk
      rw [c] at this
      exact absurd this (by decide)
    · rw [if_neg (by rw [c]; decide)]
      refine Or.inl ⟨_, rfl, fun j hj => ?_⟩
      by_cases e : j = k
      · subst e; exact ⟨c, pk_us⟩
      · rw [pk_un e]; exact hI j (by omega)
  · intro v W hI
    have hmw : mw (md_A τ 14 W) n m (sp_wE m (fun k => τ.1 8 (100 * d + k))) := fun j hj => by
      obtain ⟨i, q1, q2, q3⟩ := sp_wE_in (E := fun k => τ.1 8 (100 * d + k)) hn (fun k hk => (hI k hk).1) hj
      rw [q3]
      exact ⟨q1, (show W j = nI i by rw [(hI j hj).2]; exact q2)⟩
    obtain ⟨r, τ', f1, f2, f3⟩ := md_fewest (a := a) (M0 := M0) (τ := md_A τ 14 W) (n := n) (m := m) hS hmw (show 3 ≤ 4 by omega)
    refine ⟨(r, md a τ' M0), ?_, τ', rfl, (te_14 τ W).trans f2, Or.inr ⟨fun k hk => (hI k hk).1, _, f3⟩⟩
    show fX11_crews_33_b _ _ _ _ _ = _
    unfold fX11_crews_33_b
    rw [md_r6, Option.bind_some, md_k7 hd, Option.bind_some]
    show (if τ.1 7 d ≤ nI m then _ else _) = _
    rw [k7, if_pos (nI_le (Nat.le_refl _) (by omega)), show (3 : Int32) = nI 3 from rfl, f1, Option.bind_some]
theorem sp_wE_congr {E E' : Nat → Int32} (h : ∀ k, k < m → E k = E' k) : sp_wE m E = sp_wE m E' := by
  funext j
  unfold sp_wE
  by_cases c : j < m
  · rw [if_pos c, if_pos c, h j c]
  · rw [if_neg c, if_neg c]
theorem p_crews (h : wd b M z τ) (x : Int32) : ∃ v M1 M2 τ', fX10_crews M b x = some (v, M1) ∧ fX11_crews M1 (b + 53) x = some (v, M2) ∧ wd b M2 z τ' := by
  obtain ⟨⟨n, m, F1, hc⟩, hma, ho, hz, hn⟩ := id h
  obtain ⟨hn5, hm, h0, h1, -, -⟩ := id hc.r1.1
  have bad : ∀ w τ', fX10_crews M b x = some (w, M) → te τ τ' → (fX11_crews (md (b + 53) τ M) (b + 53) x = some (w, md (b + 53) τ' M)) → ∃ v M1 M2 τ', fX10_crews M b x = some (v, M1) ∧ fX11_crews M1 (b + 53) x = some (v, M2) ∧ wd b M2 z τ' := fun w τ' e1 e2 e3 => by
    obtain ⟨g1, g2⟩ := wd_of h hc fr.rfl' e2
    rw [g1] at e3
    exact ⟨w, M, _, τ', e1, e3, g2⟩
  have ec : fX10_crews M b x = if 0 ≤ sp_wr τ x 0 then ((ah_ar M (b + 28) 3 x).bind fun v5 => (fX10_tellsOfEachMan M b v5).bind fun v6 => if v6 = 0 then (some ((-13), M)) else (fX10_crews_33 ah_fu M b v5 0)) else (some (sp_wr τ x 0, M)) := by
    unfold fX10_crews
    rw [hc.o.ob, Option.bind_some, co_refBytes hc.o hc.sh, Option.bind_some, hc.o.r4, Option.bind_some]
  rcases sp_wr_cases (cs_ts hc) x 0 with ⟨l1, l2, l3⟩ | ⟨l1, d, t, s, hd, rfl, k5, ht, hs, k6, k7, k8⟩
  · refine bad _ τ (by rw [ec, if_neg l3]) te.rfl' ?_
    unfold fX11_crews
    rw [md_ob, Option.bind_some, md_wrongRow, Option.bind_some, if_neg l2]
  have ht0 : t = 0 := by
    rcases k8 with q | q
    · exact absurd q (by decide)
    · exact (nI_eq (b := 0) (by omega) (by decide)).mp q
  subst ht0
  obtain ⟨el, H, hel⟩ := cs_row hc hd k5 ht k6 k7 hs
  have eM : ∀ N, fX11_crews (md (b + 53) τ N) (b + 53) (nI d) = if nI s = nI m then fX11_crews_33 ah_fu (md (b + 53) τ N) (b + 53) (nI d) 0 else some (-13, md (b + 53) τ N) := fun N => by
    unfold fX11_crews
    rw [md_ob, Option.bind_some, md_wrongRow, Option.bind_some, if_pos l1, md_r6, Option.bind_some, md_k7 hd, Option.bind_some, md_r0, Option.bind_some, md_s1, Option.bind_some, k7, h1]
  have ec' : fX10_crews M b (nI d) = (fX10_tellsOfEachMan M b (b + 29 + 2 * d)).bind fun v6 => if v6 = 0 then (some ((-13), M)) else (fX10_crews_33 ah_fu M b (b + 29 + 2 * d) 0) := by
    rw [ec, l1, if_pos (by decide), hc.o.sh hd, Option.bind_some]
  obtain ⟨r, t1, t2⟩ := c_tells hc H hs
  by_cases c : s = m
  case neg =>
    rcases t2 with ⟨rfl, -⟩ | ⟨-, q, -⟩
    · exact bad (-13) τ (by rw [ec', t1, Option.bind_some, if_pos rfl]) te.rfl' (by rw [eM, if_neg (fun q => c ((nI_eq (by omega) (by omega)).mp q))])
    · exact absurd q c
  subst c
  rcases t2 with ⟨rfl, q⟩ | ⟨rfl, -, q⟩
  · obtain ⟨r', τ', f1, f2, f3⟩ := m_crews33 (a := b + 53) (M0 := M) hc.r1.1 hd k7
    rcases f3 with ⟨rfl, -⟩ | ⟨q', -⟩
    · exact bad (-13) τ' (by rw [ec', t1, Option.bind_some, if_pos rfl]) f2 (by rw [eM, if_pos rfl, f1])
    · exact absurd ⟨rfl, fun k hk => by rw [hel k (by omega)]; exact q' k hk⟩ q
  · obtain ⟨r1, f, M1, e1, e2, e3, e4⟩ := c_crews33 hc hd H q
    obtain ⟨r2, τ', f1, f2, f3⟩ := m_crews33 (a := b + 53) (M0 := M1) hc.r1.1 hd k7
    rcases f3 with ⟨-, q'⟩ | ⟨-, f', f3⟩
    · exact absurd (fun k hk => by rw [← hel k (by omega)]; exact q k hk) q'
    · rw [sp_wE_congr (fun k hk => hel k (by omega))] at e2
      obtain ⟨rfl, -⟩ := sp_few_eq e2 f3
      obtain ⟨g1, g2⟩ := wd_of h e3 e4 f2
      rw [g1] at f1
      refine ⟨r1, M1, _, τ', by rw [ec', t1, Option.bind_some, if_neg (by decide)]; exact e1, ?_, g2⟩
      rw [← f1]
      conv => lhs; rw [← g1]
      rw [eM, if_pos rfl, g1]
end CRW
