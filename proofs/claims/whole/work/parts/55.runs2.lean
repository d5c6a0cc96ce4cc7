/-! PURE LEVEL, 16: letter, together, moved, seeded -/
section RUNS2
variable {b a : Nat} {M M0 : ah_h} {τ : md_T} {n m : Nat} {F1 : fl_T}
def sp_sprF (S : Nat → Int32) (m : Nat) (x r : Int32) (i : Nat) : Int32 := if nI (sp_cw S (nI i) m) &&& x = 0 then r else r ||| nI (sp_cw S (nI i) m)
def sp_spr (S : Nat → Int32) (n m : Nat) (x : Int32) : Int32 := pl_fd (sp_sprF S m x) x 0 n
theorem fl_spr {F : fl_T} {S : Nat → Int32} (hr : rf b M F S n m) (x : Int32) : fX2_withShipmates (fl a F M) a x = some (sp_spr S n m x) := by
  obtain ⟨⟨hn, hm, -⟩, h2, h3, h4, h5, h6, h7⟩ := hr
  unfold fX2_withShipmates sp_spr
  rw [fl_ob, Option.bind_some]
  have := pl_loop (fun w r k => fX2_withShipmates_4 (fl a F M) w a x r (nI k)) n (sp_sprF S m x) (fun r => r) (fun _ _ => True) ?_ (fun _ _ _ _ => trivial) ?_ ah_fu x 0 (by omega) (by unfold ah_fu; omega) trivial
  · exact this
  · intro w r k hk _
    show fX2_withShipmates_4_b _ _ _ _ _ _ = _
    unfold fX2_withShipmates_4_b fX2_withShipmates_32 sp_sprF
    rw [fl_i0, Option.bind_some, h2, if_neg (nI_ge hk (by omega)), nI_1]
    simp only [fl_r4, Option.bind_some, fl_ai (a := a) (F := F) (M0 := M) (k := 3) (by decide) (by decide) (show k < fl_n 3 from (by show k < 5; omega)), h7 k (by omega)]
    split <;> rfl
  · intro w r _
    show fX2_withShipmates_4_b _ _ _ _ _ _ = _
    unfold fX2_withShipmates_4_b
    rw [fl_i0, Option.bind_some, h2, if_pos (nI_le (Nat.le_refl _) (by omega))]
theorem md_spr (hS : rf_S (τ.1 1) n m) (x : Int32) : fX11_spreads (md a τ M0) a x = some (sp_spr (τ.1 1) n m x) := by
  obtain ⟨hn, hm, h0, h1, -, -⟩ := hS
  unfold fX11_spreads sp_spr
  rw [md_ob, Option.bind_some]
  have := pl_loop (fun w r k => fX11_spreads_4 (md a τ M0) w a x r (nI k)) n (sp_sprF (τ.1 1) m x) (fun r => r) (fun _ _ => True) ?_ (fun _ _ _ _ => trivial) ?_ ah_fu x 0 (by omega) (by unfold ah_fu; omega) trivial
  · exact this
  · intro w r k hk _
    show fX11_spreads_4_b _ _ _ _ _ _ = _
    unfold fX11_spreads_4_b fX11_spreads_32 sp_sprF
    rw [md_r0, Option.bind_some, md_s0, Option.bind_some, h0, if_neg (nI_ge hk (by omega)), md_aboard h1 hm, Option.bind_some, Option.bind_some, nI_1]
    split <;> rfl
  · intro w r _
    show fX11_spreads_4_b _ _ _ _ _ _ = _
    unfold fX11_spreads_4_b
    rw [md_r0, Option.bind_some, md_s0, Option.bind_some, h0, if_pos (nI_le (Nat.le_refl _) (by omega))]
def sp_leF (n m : Nat) (A B : Nat → Int32) (s : (Nat → Int32) × Int32) (k : Nat) : ((Nat → Int32) × Int32) ⊕ Int32 := .inl (sp_go s.1 n m (A k) (B k), sp_spr (sp_go s.1 n m (A k) (B k)) n m s.2)
def sp_letter (τ : md_T) (n m : Nat) (x y : Int32) : Int32 := if sp_mw τ n m x y = 0 then pl_fe (sp_leF n m (fun k => τ.1 8 (100 * y.toNatClampNeg + 2 * k)) (fun k => τ.1 8 (100 * y.toNatClampNeg + 2 * k + 1))) (fun s => s.2) (τ.1 1, sp_spr (τ.1 1) n m ((1 : Int32) <<< (x &&& 31))) 0 ((τ.1 7 y.toNatClampNeg).toNatClampNeg / 2) else sp_mw τ n m x y
theorem c_letter (h : cs b M τ n m F1) (x y : Int32) : qc (fX10_letter M b x y) b M τ n m F1 (sp_letter τ n m x y) := by
  unfold fX10_letter sp_letter
  rw [h.o.ob, Option.bind_some, cs_mw h, Option.bind_some]
  have hm := h.r1.1.2.1
  rcases sp_mw_cases (cs_ts h) hm n x y with ⟨-, h2, h3⟩ | ⟨h1, g, d, K, hg, rfl, rfl, ht⟩
  · rw [if_neg h3, if_neg h2]; exact qc_ref h rfl
  · have hd := ht.1
    have hK := ht.2.2.2.2.1
    obtain ⟨X, eX, rX⟩ := cs_become h
    have hX := cs_mind h X
    rw [h1, if_pos (by decide), if_pos rfl, h.o.r4, Option.bind_some, h.o.sh hd, Option.bind_some, h.o.r1, Option.bind_some, h.o.r0, Option.bind_some, eX, Option.bind_some, (sp_K ht).1, (sp_K ht).2, hX.o.r1, Option.bind_some, fl_spr rX, Option.bind_some]
    apply qc_mind h
    refine cl_run (fun w N x k => fX10_letter_47 w N b (b + 29 + 2 * d) x (nI k)) K _ _ (fun w F S x k hk hr => Or.inl ?_) (fun w F S x hr => ⟨F, ?_⟩) ah_fu X (τ.1 1) _ (by unfold ah_fu; omega) rX
    · obtain ⟨F', e1, e2⟩ := cs_hold h ht hk hr
      refine ⟨_, _, F', rfl, ?_, e2⟩
      have hc := cs_mind h F
      have hc' := cs_mind h F'
      show fX10_letter_47_b _ _ _ _ _ _ = _
      unfold fX10_letter_47_b
      rw [cs_meetings hc ht, Option.bind_some, if_neg (nI_ge hk (by omega)), hc.o.r1, Option.bind_some, e1, Option.bind_some, hc'.o.r1, Option.bind_some, fl_spr e2, Option.bind_some, nI_1]
    · have hc := cs_mind h F
      show fX10_letter_47_b _ _ _ _ _ _ = _
      unfold fX10_letter_47_b
      rw [cs_meetings hc ht, Option.bind_some, if_pos (nI_le (Nat.le_refl _) (by omega))]
theorem m_letter (hS : rf_S (τ.1 1) n m) (hs : ts τ) (x y : Int32) : qm (fX11_letter (md a τ M0) a x y) a M0 τ (sp_letter τ n m x y) := by
  have hm := hS.2.1
  have e0 : fX11_letter (md a τ M0) a x y = fX11_letter_17 (md a τ M0) a x y (sp_mw τ n m x y) := by
    unfold fX11_letter sp_mw
    rw [md_ob, Option.bind_some, md_isMan hS.2.2.2.1 (by omega), Option.bind_some, md_wrongMeetings hS hs, Option.bind_some]
    split <;> rfl
  rw [e0]
  unfold fX11_letter_17 sp_letter
  rcases sp_mw_cases hs hm n x y with ⟨-, h2, h3⟩ | ⟨h1, g, d, K, hg, rfl, rfl, ht⟩
  · rw [if_neg h2, if_neg h2]; exact ⟨τ, rfl, te.rfl'⟩
  · have hd := ht.1
    have hK := ht.2.2.2.2.1
    obtain ⟨τ1, eb, ei, es⟩ := ti_begin (a := a) (M0 := M0) (τ := τ)
    rw [← es] at hS
    rw [if_pos h1, if_pos h1, eb, Option.bind_some, (sp_K ht).1, (sp_K ht).2, md_spr hS, Option.bind_some, ← es]
    refine ml_run (n := n) (m := m) (fun w N x k => fX11_letter_40 w N a (nI d) x (nI k)) K _ _ (fun w τ' x k hk hr hi => Or.inl ?_) (fun w τ' x hr hi => ?_) ah_fu τ1 _ (by unfold ah_fu; omega) hS ei
    · obtain ⟨τ'', e1, e2, e3, -⟩ := md_told (a := a) (M0 := M0) hi hr ht hk
      have hr' := rf_S_go hr (τ.1 8 (100 * d + 2 * k)) (τ.1 8 (100 * d + 2 * k + 1))
      refine ⟨_, _, τ'', rfl, ?_, e2, hr', e3⟩
      show fX11_letter_40_b _ _ _ _ _ _ = _
      unfold fX11_letter_40_b
      rw [← e2] at hr'
      rw [md_meetings (sp_td_of ht hi.2), Option.bind_some, if_neg (nI_ge hk (by omega)), e1, Option.bind_some, md_spr hr', Option.bind_some, nI_1, e2]
    · obtain ⟨τ'', e1, e2, -⟩ := ti_end (a := a) (M0 := M0) hi
      refine ⟨τ'', ?_, e2⟩
      show fX11_letter_40_b _ _ _ _ _ _ = _
      unfold fX11_letter_40_b
      rw [md_meetings (sp_td_of ht hi.2), Option.bind_some, if_pos (nI_le (Nat.le_refl _) (by omega)), e1, Option.bind_some]
/-! moved -/
/-- who is given changes ships, and nobody else does -/
theorem sp_go_ab {S : Nat → Int32} (h : rf_S S n m) (x y : Int32) {g : Nat} : (sp_mm S n m x y = 0 ∧ sp_go S n m x y (13 + 5 * g) = S (13 + 5 * g)) ∨ (sp_mm S n m x y = 1 ∧ sp_g S m x < m ∧ sp_g S m y < m ∧ ((sp_go S n m x y (13 + 5 * g) = S (13 + 5 * g)) ↔ ¬ (g = sp_g S m x ∨ g = sp_g S m y))) := by
  rcases sp_mm_cases h x y with ⟨e, eg⟩ | ⟨i, j, g1, g2, rfl, rfl, hi, hj, hij, -, -, -, -, l1, l2, s1, s2, em, q1, q2, eg⟩
  · exact Or.inl ⟨e, by rw [eg]⟩
  · refine Or.inr ⟨em, by rw [q1]; exact l1, by rw [q2]; exact l2, ?_⟩
    have hn := h.1
    have nij : ¬ nI i = nI j := fun e => hij ((nI_eq (by omega) (by omega)).mp e)
    rw [eg, q1, q2]
    unfold sp_mt
    rw [sp_sails_out _ _ _ (fun k => by omega), sp_sails_out _ _ _ (fun k => by omega)]
    unfold sp_swap
    rw [pk_un (by omega), pk_un (by omega)]
    by_cases hk2 : g = g2
    · subst hk2
      rw [pk_us, s2]
      simp [nij]
    · rw [pk_un (by omega)]
      by_cases hk1 : g = g1
      · subst hk1
        rw [pk_us, s1]
        simp [Ne.symm nij]
      · rw [pk_un (by omega), pk_un (by omega)]
        simp [hk1, hk2]
def sp_mvF (n m g : Nat) (A B : Nat → Int32) (s : (Nat → Int32) × Int32) (k : Nat) : ((Nat → Int32) × Int32) ⊕ Int32 := .inl (sp_go s.1 n m (A k) (B k), if sp_go s.1 n m (A k) (B k) (13 + 5 * g) = s.1 (13 + 5 * g) then s.2 else s.2 + 1)
def sp_moved (τ : md_T) (n m : Nat) (x y : Int32) : Int32 := if sp_mw τ n m x y = 0 then pl_fe (sp_mvF n m x.toNatClampNeg (fun k => τ.1 8 (100 * y.toNatClampNeg + 2 * k)) (fun k => τ.1 8 (100 * y.toNatClampNeg + 2 * k + 1))) (fun s => s.2) (τ.1 1, 0) 0 ((τ.1 7 y.toNatClampNeg).toNatClampNeg / 2) else sp_mw τ n m x y
theorem c_moved (h : cs b M τ n m F1) (x y : Int32) : qc (fX10_moved M b x y) b M τ n m F1 (sp_moved τ n m x y) := by
  unfold fX10_moved sp_moved
  rw [h.o.ob, Option.bind_some, cs_mw h, Option.bind_some]
  have hm := h.r1.1.2.1
  rcases sp_mw_cases (cs_ts h) hm n x y with ⟨-, h2, h3⟩ | ⟨h1, g, d, K, hg, rfl, rfl, ht⟩
  · rw [if_neg h3, if_neg h2]; exact qc_ref h rfl
  · have hd := ht.1
    have hK := ht.2.2.2.2.1
    obtain ⟨X, eX, rX⟩ := cs_become h
    rw [h1, if_pos (by decide), if_pos rfl, h.o.r4, Option.bind_some, h.o.sh hd, Option.bind_some, h.o.r1, Option.bind_some, h.o.r0, Option.bind_some, eX, Option.bind_some, (sp_K ht).1, (sp_K ht).2, nI_clamp (show g < 2 ^ 31 by omega)]
    apply qc_mind h
    refine cl_run (fun w N x k => fX10_moved_38 w N b (nI g) (b + 29 + 2 * d) x (nI k)) K _ _ (fun w F S x k hk hr => Or.inl ?_) (fun w F S x hr => ⟨F, ?_⟩) ah_fu X (τ.1 1) _ (by unfold ah_fu; omega) rX
    · obtain ⟨F', e1, e2⟩ := cs_hold h ht hk hr
      refine ⟨_, _, F', rfl, ?_, e2⟩
      have hc := cs_mind h F
      have hc' := cs_mind h F'
      show fX10_moved_38_b _ _ _ _ _ _ _ = _
      unfold fX10_moved_38_b fX10_moved_87
      rw [cs_meetings hc ht, Option.bind_some, if_neg (nI_ge hk (by omega)), hc.o.r1, Option.bind_some, (rf_ab hr hg).1, Option.bind_some, (rf_ab hr hg).2, Option.bind_some, Option.bind_some, e1, Option.bind_some, hc'.o.r1, Option.bind_some, (rf_ab e2 hg).1, Option.bind_some, (rf_ab e2 hg).2, Option.bind_some, nI_1]
      dsimp only
      split <;> rfl
    · have hc := cs_mind h F
      show fX10_moved_38_b _ _ _ _ _ _ _ = _
      unfold fX10_moved_38_b
      rw [cs_meetings hc ht, Option.bind_some, if_pos (nI_le (Nat.le_refl _) (by omega))]
theorem m_moved (hS : rf_S (τ.1 1) n m) (hs : ts τ) (x y : Int32) : qm (fX11_moved (md a τ M0) a x y) a M0 τ (sp_moved τ n m x y) := by
  have hm := hS.2.1
  have e0 : fX11_moved (md a τ M0) a x y = fX11_moved_17 (md a τ M0) a x y (sp_mw τ n m x y) := by
    unfold fX11_moved sp_mw
    rw [md_ob, Option.bind_some, md_isMan hS.2.2.2.1 (by omega), Option.bind_some, md_wrongMeetings hS hs, Option.bind_some]
    split <;> rfl
  rw [e0]
  unfold fX11_moved_17 sp_moved
  rcases sp_mw_cases hs hm n x y with ⟨-, h2, h3⟩ | ⟨h1, g, d, K, hg, rfl, rfl, ht⟩
  · rw [if_neg h2, if_neg h2]; exact ⟨τ, rfl, te.rfl'⟩
  · have hd := ht.1
    have hK := ht.2.2.2.2.1
    obtain ⟨τ1, eb, ei, es⟩ := ti_begin (a := a) (M0 := M0) (τ := τ)
    rw [← es] at hS
    rw [if_pos h1, if_pos h1, eb, Option.bind_some, (sp_K ht).1, (sp_K ht).2, nI_clamp (show g < 2 ^ 31 by omega), ← es]
    refine ml_run (n := n) (m := m) (fun w N x k => fX11_moved_34 w N a (nI g) (nI d) x (nI k)) K _ _ (fun w τ' x k hk hr hi => Or.inl ?_) (fun w τ' x hr hi => ?_) ah_fu τ1 _ (by unfold ah_fu; omega) hS ei
    · obtain ⟨τ'', e1, e2, e3, e4⟩ := md_told (a := a) (M0 := M0) hi hr ht hk
      have hr' := rf_S_go hr (τ.1 8 (100 * d + 2 * k)) (τ.1 8 (100 * d + 2 * k + 1))
      refine ⟨_, _, τ'', rfl, ?_, e2, hr', e3⟩
      show fX11_moved_34_b _ _ _ _ _ _ _ = _
      unfold fX11_moved_34_b fX11_moved_72 fX11_moved_76 fX11_moved_77
      rw [md_meetings (sp_td_of ht hi.2), Option.bind_some, if_neg (nI_ge hk (by omega)), e1, Option.bind_some]
      dsimp only
      rw [md_i12, Option.bind_some, md_i13, Option.bind_some, nI_1, show x + 0 = x from Int32.add_zero x]
      rcases sp_go_ab hr (τ.1 8 (100 * d + 2 * k)) (τ.1 8 (100 * d + 2 * k + 1)) (g := g) with ⟨k1, k2⟩ | ⟨k1, k2, k3, k4⟩
      · rw [if_pos k1, if_pos k2]
      · have em := e4 k1
        rw [em.1, em.2, if_neg (by rw [k1]; decide)]
        by_cases c : sp_go (τ'.1 1) n m (τ.1 8 (100 * d + 2 * k)) (τ.1 8 (100 * d + 2 * k + 1)) (13 + 5 * g) = τ'.1 1 (13 + 5 * g)
        · have c' := k4.mp c
          rw [if_pos c, if_neg (fun e => c' (Or.inl ((nI_eq (by omega) (by omega)).mp e).symm)), if_neg (fun e => c' (Or.inr ((nI_eq (by omega) (by omega)).mp e).symm))]
        · rw [if_neg c]
          by_cases c1 : nI (sp_g (τ'.1 1) m (τ.1 8 (100 * d + 2 * k))) = nI g
          · rw [if_pos c1]
          · rw [if_neg c1]
            by_cases c2 : nI (sp_g (τ'.1 1) m (τ.1 8 (100 * d + 2 * k + 1))) = nI g
            · rw [if_pos c2]
            · exact absurd (k4.mpr (fun hh => by
                rcases hh with hh | hh
                · exact c1 (by rw [← hh])
                · exact c2 (by rw [← hh]))) c
    · obtain ⟨τ'', e1, e2, -⟩ := ti_end (a := a) (M0 := M0) hi
      refine ⟨τ'', ?_, e2⟩
      show fX11_moved_34_b _ _ _ _ _ _ _ = _
      unfold fX11_moved_34_b
      rw [md_meetings (sp_td_of ht hi.2), Option.bind_some, if_pos (nI_le (Nat.le_refl _) (by omega)), e1, Option.bind_some]
/-! together -/
def sp_tgF (n m g1 g2 : Nat) (A B : Nat → Int32) (s : (Nat → Int32) × Unit) (k : Nat) : ((Nat → Int32) × Unit) ⊕ Int32 := if sp_go s.1 n m (A k) (B k) (13 + 5 * g1) = sp_go s.1 n m (A k) (B k) (13 + 5 * g2) then .inl (sp_go s.1 n m (A k) (B k), ()) else .inr (nI k)
def sp_together (τ : md_T) (n m : Nat) (x y z : Int32) : Int32 := if sp_is m x = 0 then -1 else if sp_is m y = 0 then -1 else if x = y then -1 else if sp_is 8 z = 0 then -1 else if τ.1 1 (13 + 5 * x.toNatClampNeg) = τ.1 1 (13 + 5 * y.toNatClampNeg) then (if sp_wm τ n z = 0 then pl_fe (sp_tgF n m x.toNatClampNeg y.toNatClampNeg (fun k => τ.1 8 (100 * z.toNatClampNeg + 2 * k)) (fun k => τ.1 8 (100 * z.toNatClampNeg + 2 * k + 1))) (fun _ => nI ((τ.1 7 z.toNatClampNeg).toNatClampNeg / 2)) (τ.1 1, ()) 0 ((τ.1 7 z.toNatClampNeg).toNatClampNeg / 2) else sp_wm τ n z) else -3
theorem fa_ab {N : ah_h} {F : fl_T} {S : Nat → Int32} {a : Nat} (hf : fa N a F) (hr : rf b M F S n m) {g : Nat} (hg : g < m) : ah_gr N a 2 5 = some (a + 4) ∧ ah_ai N (a + 4) (nI g) = some (S (13 + 5 * g)) := by
  have hm := hr.1.2.1
  refine ⟨hf.r5, ?_⟩
  rw [hf.ai (by decide) (by decide) (show g < fl_n 4 from (by show g < 12; omega)), (hr.2.2.2.2.2.1 g (by omega)).1]
theorem c_together (h : cs b M τ n m F1) (x y z : Int32) : qc (fX10_together M b x y z) b M τ n m F1 (sp_together τ n m x y z) := by
  unfold fX10_together sp_together
  have hm := h.r1.1.2.1
  rw [h.o.ob, Option.bind_some, h.o.r0, Option.bind_some, fa_isMan h.f1 h.r1.2.2.1, Option.bind_some, Option.bind_some, fa_isMan h.f1 h.r1.2.2.1, Option.bind_some, co_isShelf, Option.bind_some]
  rcases sp_is_cases (n := m) (by omega) x with hx | ⟨g1, hg1, rfl, hx⟩
  · rw [if_pos hx, if_pos hx]; exact qc_ref h rfl
  have hx' : ¬ sp_is m (nI g1) = 0 := by rw [hx]; decide
  rw [if_neg hx', if_neg hx']
  rcases sp_is_cases (n := m) (by omega) y with hy | ⟨g2, hg2, rfl, hy⟩
  · rw [if_pos hy, if_pos hy]; exact qc_ref h rfl
  have hy' : ¬ sp_is m (nI g2) = 0 := by rw [hy]; decide
  rw [if_neg hy', if_neg hy']
  by_cases hxy : nI g1 = nI g2
  · rw [if_pos hxy, if_pos hxy]; exact qc_ref h rfl
  rw [if_neg hxy, if_neg hxy]
  by_cases hz : sp_is 8 z = 0
  · rw [if_pos hz, if_pos hz]; exact qc_ref h rfl
  rw [if_neg hz, if_neg hz]
  simp only [Option.bind_some, (fa_ab h.f1 h.r1 hg1).1, (fa_ab h.f1 h.r1 hg1).2, (fa_ab h.f1 h.r1 hg2).2, nI_clamp (show g1 < 2 ^ 31 by omega), nI_clamp (show g2 < 2 ^ 31 by omega)]
  by_cases hab : ¬ τ.1 1 (13 + 5 * g1) = τ.1 1 (13 + 5 * g2)
  · rw [if_neg hab, if_neg hab]; exact qc_ref h rfl
  have hab := Classical.not_not.mp hab
  rw [if_pos hab, if_pos hab, cs_wm h, Option.bind_some]
  rcases sp_wm_cases (cs_ts h) n z with ⟨-, h2, h3⟩ | ⟨h1, d, K, rfl, ht⟩
  · rw [if_neg h3, if_neg h2]; exact qc_ref h rfl
  · have hd := ht.1
    have hK := ht.2.2.2.2.1
    obtain ⟨X, eX, rX⟩ := cs_become h
    rw [h1, if_pos (by decide), if_pos rfl, h.o.r4, Option.bind_some, h.o.sh hd, Option.bind_some, h.o.r1, Option.bind_some, eX, Option.bind_some, (sp_K ht).1, (sp_K ht).2]
    apply qc_mind h
    refine cl_run (α := Unit) (fun w N x k => fX10_together_97 w N b (nI g1) (nI g2) (b + 29 + 2 * d) (nI k)) K _ _ (fun w F S x k hk hr => ?_) (fun w F S x hr => ⟨F, ?_⟩) ah_fu X (τ.1 1) _ (by unfold ah_fu; omega) rX
    · obtain ⟨F', e1, e2⟩ := cs_hold h ht hk hr
      have hc := cs_mind h F
      have hc' := cs_mind h F'
      have eb : fX10_together_97 (w + 1) (fl (b + 10) F M) b (nI g1) (nI g2) (b + 29 + 2 * d) (nI k) = if sp_go S n m (τ.1 8 (100 * d + 2 * k)) (τ.1 8 (100 * d + 2 * k + 1)) (13 + 5 * g1) = sp_go S n m (τ.1 8 (100 * d + 2 * k)) (τ.1 8 (100 * d + 2 * k + 1)) (13 + 5 * g2) then fX10_together_97 w (fl (b + 10) F' M) b (nI g1) (nI g2) (b + 29 + 2 * d) (nI (k + 1)) else some (nI k, fl (b + 10) F' M) := by
        show fX10_together_97_b _ _ _ _ _ _ _ = _
        unfold fX10_together_97_b
        rw [cs_meetings hc ht, Option.bind_some, if_neg (nI_ge hk (by omega)), hc.o.r1, Option.bind_some, e1, Option.bind_some, nI_1]
        simp only [hc'.o.r1, Option.bind_some, (rf_ab e2 hg1).1, (rf_ab e2 hg1).2, (rf_ab e2 hg2).2]
      by_cases c : sp_go S n m (τ.1 8 (100 * d + 2 * k)) (τ.1 8 (100 * d + 2 * k + 1)) (13 + 5 * g1) = sp_go S n m (τ.1 8 (100 * d + 2 * k)) (τ.1 8 (100 * d + 2 * k + 1)) (13 + 5 * g2)
      · exact Or.inl ⟨_, (), F', if_pos c, by rw [eb, if_pos c], e2⟩
      · exact Or.inr ⟨nI k, F', if_neg c, by rw [eb, if_neg c]⟩
    · have hc := cs_mind h F
      show fX10_together_97_b _ _ _ _ _ _ _ = _
      unfold fX10_together_97_b
      rw [cs_meetings hc ht, Option.bind_some, if_pos (nI_le (Nat.le_refl _) (by omega)), Option.bind_some]
theorem m_together (hS : rf_S (τ.1 1) n m) (hs : ts τ) (x y z : Int32) : qm (fX11_together (md a τ M0) a x y z) a M0 τ (sp_together τ n m x y z) := by
  have hm := hS.2.1
  have h1 := hS.2.2.2.1
  unfold fX11_together sp_together
  rw [md_ob, Option.bind_some, md_isMan h1 (by omega), Option.bind_some, md_isMan h1 (by omega), Option.bind_some, md_isShelf, Option.bind_some]
  rcases sp_is_cases (n := m) (by omega) x with hx | ⟨g1, hg1, rfl, hx⟩
  · rw [if_pos hx, if_pos hx]; exact ⟨τ, rfl, te.rfl'⟩
  have hx' : ¬ sp_is m (nI g1) = 0 := by rw [hx]; decide
  rw [if_neg hx', if_neg hx']
  rcases sp_is_cases (n := m) (by omega) y with hy | ⟨g2, hg2, rfl, hy⟩
  · rw [if_pos hy, if_pos hy]; exact ⟨τ, rfl, te.rfl'⟩
  have hy' : ¬ sp_is m (nI g2) = 0 := by rw [hy]; decide
  rw [if_neg hy', if_neg hy']
  by_cases hxy : nI g1 = nI g2
  · rw [if_pos hxy, if_pos hxy]; exact ⟨τ, rfl, te.rfl'⟩
  rw [if_neg hxy, if_neg hxy]
  by_cases hz : sp_is 8 z = 0
  · rw [if_pos hz, if_pos hz]; exact ⟨τ, rfl, te.rfl'⟩
  rw [if_neg hz, if_neg hz, md_get0 (by omega), Option.bind_some, md_get0 (by omega), Option.bind_some, nI_clamp (show g1 < 2 ^ 31 by omega), nI_clamp (show g2 < 2 ^ 31 by omega)]
  by_cases hab : ¬ τ.1 1 (13 + 5 * g1) = τ.1 1 (13 + 5 * g2)
  · rw [if_neg hab, if_neg hab]; exact ⟨τ, rfl, te.rfl'⟩
  have hab := Classical.not_not.mp hab
  rw [if_pos hab, if_pos hab, md_wrongMeetings hS hs, Option.bind_some]
  rcases sp_wm_cases hs n z with ⟨-, h2, h3⟩ | ⟨h1, d, K, rfl, ht⟩
  · rw [if_neg h2, if_neg h2]; exact ⟨τ, rfl, te.rfl'⟩
  · have hd := ht.1
    have hK := ht.2.2.2.2.1
    obtain ⟨τ1, eb, ei, es⟩ := ti_begin (a := a) (M0 := M0) (τ := τ)
    rw [← es] at hS
    rw [if_pos h1, if_pos h1, eb, Option.bind_some, (sp_K ht).1, (sp_K ht).2, ← es]
    have fin : ∀ w τ' j (k : Nat), (k = K ∧ j = k ∨ j ≠ k ∧ k ≤ K) → j ≤ K → ti τ τ' → ∃ τ'', fX11_together_73 (w + 1) (md a τ' M0) a (nI g1) (nI g2) (nI d) (nI j) (nI k) = some (nI j, md a τ'' M0) ∧ te τ τ'' := fun w τ' j k hjk hjK hi => by
      obtain ⟨τ'', e1, e2, -⟩ := ti_end (a := a) (M0 := M0) hi
      refine ⟨τ'', ?_, e2⟩
      show fX11_together_73_b _ _ _ _ _ _ _ _ = _
      unfold fX11_together_73_b fX11_together_130
      rw [md_meetings (sp_td_of ht hi.2), Option.bind_some, e1, Option.bind_some]
      by_cases hkK : K ≤ k
      · rw [if_pos (nI_le hkK (by omega))]
      · rw [if_neg (nI_ge (by omega) (by omega)), if_neg (fun e => by have := (nI_eq (by omega) (by omega)).mp e; omega)]
    refine ml_run (n := n) (m := m) (α := Unit) (fun w N x k => fX11_together_73 (w + 1) N a (nI g1) (nI g2) (nI d) (nI k) (nI k)) K _ _ (fun w τ' x k hk hr hi => ?_) (fun w τ' x hr hi => ?_) 299 τ1 _ (by omega) hS ei
    · obtain ⟨τ'', e1, e2, e3, e4⟩ := md_told (a := a) (M0 := M0) hi hr ht hk
      have hr' := rf_S_go hr (τ.1 8 (100 * d + 2 * k)) (τ.1 8 (100 * d + 2 * k + 1))
      have eb : fX11_together_73 (w + 1 + 1) (md a τ' M0) a (nI g1) (nI g2) (nI d) (nI k) (nI k) = if sp_go (τ'.1 1) n m (τ.1 8 (100 * d + 2 * k)) (τ.1 8 (100 * d + 2 * k + 1)) (13 + 5 * g1) = sp_go (τ'.1 1) n m (τ.1 8 (100 * d + 2 * k)) (τ.1 8 (100 * d + 2 * k + 1)) (13 + 5 * g2) then fX11_together_73 (w + 1) (md a τ'' M0) a (nI g1) (nI g2) (nI d) (nI (k + 1)) (nI (k + 1)) else fX11_together_73 (w + 1) (md a τ'' M0) a (nI g1) (nI g2) (nI d) (nI k) (nI (k + 1)) := by
        show fX11_together_73_b _ _ _ _ _ _ _ _ = _
        unfold fX11_together_73_b fX11_together_121
        rw [md_meetings (sp_td_of ht hi.2), Option.bind_some, if_neg (nI_ge hk (by omega)), if_pos rfl, e1, Option.bind_some]
        dsimp only
        rw [md_get0 (by omega), Option.bind_some, md_get0 (by omega), Option.bind_some, e2, nI_1, show nI k + 0 = nI k from Int32.add_zero _]
      by_cases c : sp_go (τ'.1 1) n m (τ.1 8 (100 * d + 2 * k)) (τ.1 8 (100 * d + 2 * k + 1)) (13 + 5 * g1) = sp_go (τ'.1 1) n m (τ.1 8 (100 * d + 2 * k)) (τ.1 8 (100 * d + 2 * k + 1)) (13 + 5 * g2)
      · exact Or.inl ⟨_, (), τ'', if_pos c, by rw [eb, if_pos c], e2, hr', e3⟩
      · obtain ⟨τ3, e5, e6⟩ := fin w τ'' k (k + 1) (Or.inr ⟨by omega, by omega⟩) (by omega) e3
        exact Or.inr ⟨nI k, τ3, if_neg c, by rw [eb, if_neg c, e5], e6⟩
    · exact fin (w + 1) τ' K K (Or.inl ⟨rfl, rfl⟩) (Nat.le_refl _) hi
end RUNS2
