/-! PURE LEVEL, 18: seeded, judge -/
section RUNS4
variable {b a : Nat} {M M0 : ah_h} {τ : md_T} {n m : Nat} {F1 : fl_T}
theorem ml_runJ {α : Type} (J : md_T → α → Prop) (L : Nat → ah_h → α → Nat → Option (Int32 × ah_h)) (K : Nat) (f : (Nat → Int32) × α → Nat → ((Nat → Int32) × α) ⊕ Int32) (fin : (Nat → Int32) × α → Int32)
    (hs : ∀ w τ' x k, k < K → rf_S (τ'.1 1) n m → ti τ τ' → J τ' x → (∃ S' x' τ'', f (τ'.1 1, x) k = .inl (S', x') ∧ L (w + 1) (md a τ' M0) x k = L w (md a τ'' M0) x' (k + 1) ∧ τ''.1 1 = S' ∧ rf_S S' n m ∧ ti τ τ'' ∧ J τ'' x') ∨ ∃ r τ'', f (τ'.1 1, x) k = .inr r ∧ L (w + 1) (md a τ' M0) x k = some (r, md a τ'' M0) ∧ te τ τ'')
    (he : ∀ w τ' x, rf_S (τ'.1 1) n m → ti τ τ' → J τ' x → ∃ τ'', L (w + 1) (md a τ' M0) x K = some (fin (τ'.1 1, x), md a τ'' M0) ∧ te τ τ'') :
    ∀ (w : Nat) (τ' : md_T) (x : α), K < w → rf_S (τ'.1 1) n m → ti τ τ' → J τ' x → qm (L w (md a τ' M0) x 0) a M0 τ (pl_fe f fin (τ'.1 1, x) 0 K) := by
  have key : ∀ (w : Nat) (τ' : md_T) (x : α) (k : Nat), k ≤ K → K - k < w → rf_S (τ'.1 1) n m → ti τ τ' → J τ' x → qm (L w (md a τ' M0) x k) a M0 τ (pl_fe f fin (τ'.1 1, x) k (K - k)) := by
    intro w
    induction w with
    | zero => intro τ' x k _ h; omega
    | succ w ih =>
      intro τ' x k hk hw hr ht hJ
      by_cases hkK : k < K
      · obtain ⟨c, hc⟩ : ∃ c, K - k = c + 1 := ⟨K - k - 1, by omega⟩
        rcases hs w τ' x k hkK hr ht hJ with ⟨S', x', τ'', e1, e2, e3, e4, e5, e6⟩ | ⟨r, τ'', e1, e2, e3⟩
        · rw [hc, pl_fe_l e1, e2, show c = K - (k + 1) by omega, ← e3]
          rw [← e3] at e4
          exact ih τ'' x' (k + 1) (by omega) (by omega) e4 e5 e6
        · rw [hc, pl_fe_r e1]
          exact ⟨τ'', e2, e3⟩
      · have : k = K := by omega
        subst this
        rw [Nat.sub_self]
        exact he w τ' x hr ht hJ
  intro w τ' x hw hr ht hJ
  exact key w τ' x 0 (by omega) (by omega) hr ht hJ
/-! seeded -/
def sp_ns (z : Int32) : Int32 := z * 1103515245 + 12345
def sp_dr (n : Nat) (z : Int32) : Int32 := ((z &&& 2147483647) / 65536) - ((z &&& 2147483647) / 65536) / nI n * nI n
def sp_sdF (n m : Nat) (s : (Nat → Int32) × Int32) (_k : Nat) : ((Nat → Int32) × Int32) ⊕ Int32 := .inl (sp_go s.1 n m (sp_dr n (sp_ns s.2)) (sp_dr n (sp_ns (sp_ns s.2))), sp_ns (sp_ns s.2))
def sp_seeded (τ : md_T) (n m : Nat) (x y z : Int32) : Int32 := if sp_is m x = 0 then -1 else if y < 1 then -1 else if y ≤ 40 then pl_fe (sp_sdF n m) (fun s => s.1 (13 + 5 * x.toNatClampNeg)) (τ.1 1, z) 0 y.toNatClampNeg else -1
theorem sp_1_40 {y : Int32} (h1 : ¬ y < 1) (h40 : y ≤ 40) : ∃ K, K ≤ 40 ∧ y = nI K := by
  rcases pl_ix y (n := 41) (by decide) with h | h | ⟨K, hK, rfl⟩
  · exfalso; apply h1
    rw [Int32.lt_iff_toInt_lt] at h ⊢
    exact Int.lt_trans h (by decide)
  · exfalso
    rw [Int32.le_iff_toInt_le] at h h40
    exact absurd (Int.le_trans h h40) (by decide)
  · exact ⟨K, by omega, rfl⟩
theorem c_seeded (h : cs b M τ n m F1) (x y z : Int32) : qc (fX10_seeded M b x y z) b M τ n m F1 (sp_seeded τ n m x y z) := by
  unfold fX10_seeded sp_seeded
  have hn := h.r1.1.1
  have hm := h.r1.1.2.1
  rw [h.o.ob, Option.bind_some, h.o.r0, Option.bind_some, fa_isMan h.f1 h.r1.2.2.1, Option.bind_some]
  rcases sp_is_cases (n := m) (by omega) x with hx | ⟨g, hg, rfl, hx⟩
  · rw [if_pos hx, if_pos hx]; exact qc_ref h rfl
  have hx' : ¬ sp_is m (nI g) = 0 := by rw [hx]; decide
  rw [if_neg hx', if_neg hx']
  by_cases c1 : y < 1
  · rw [if_pos c1, if_pos c1]; exact qc_ref h rfl
  rw [if_neg c1, if_neg c1]
  by_cases c2 : ¬ y ≤ 40
  · rw [if_neg c2, if_neg c2]; exact qc_ref h rfl
  have c2 := Classical.not_not.mp c2
  rw [if_pos c2, if_pos c2]
  obtain ⟨K, hK, rfl⟩ := sp_1_40 c1 c2
  obtain ⟨X, eX, rX⟩ := cs_become h
  obtain ⟨i, hi, -⟩ := h.r1.1.2.2.2.2.2 g hg
  have hn1 : (1 : Int32) ≤ nI n := pl_le (x := 1) 1 rfl (by omega) (by omega)
  have hn0 : ¬ nI n = 0 := nI_ne0 (by omega) (by omega)
  rw [h.o.r1, Option.bind_some, Option.bind_some, eX, Option.bind_some, nI_clamp (show g < 2 ^ 31 by omega), nI_clamp (show K < 2 ^ 31 by omega)]
  apply qc_mind h
  refine cl_run (fun w N z k => fX10_seeded_41 w N b (nI g) (nI K) z (nI k)) K _ _ (fun w F S z k hk hr => Or.inl ?_) (fun w F S x hr => ⟨F, ?_⟩) ah_fu X (τ.1 1) _ (by unfold ah_fu; omega) rX
  · obtain ⟨F', e1, e2⟩ := fl_step hr (a := b + 10) (Or.inr (Or.inl rfl)) (sp_dr n (sp_ns z)) (sp_dr n (sp_ns (sp_ns z)))
    refine ⟨_, _, F', rfl, ?_, e2⟩
    have hc := cs_mind h F
    show fX10_seeded_41_b _ _ _ _ _ _ _ = _
    unfold fX10_seeded_41_b fX10_nextSeed fX10_drawBelow
    rw [if_neg (nI_ge hk (by omega))]
    simp only [Option.bind_some, hc.o.r1, fl_i0, hr.2.1, hn1, hn0, if_true, if_false, nI_1]
    show (fX2_holdMeeting (fl (b + 10) F M) (b + 10) (sp_dr n (sp_ns z)) (sp_dr n (sp_ns (sp_ns z)))).bind _ = _
    rw [e1, Option.bind_some]
    rfl
  · have hc := cs_mind h F
    show fX10_seeded_41_b _ _ _ _ _ _ _ = _
    unfold fX10_seeded_41_b
    rw [if_pos (nI_le (Nat.le_refl _) (by omega)), hc.o.r1, Option.bind_some, (rf_ab hr hg).1, Option.bind_some, (rf_ab hr hg).2, Option.bind_some]
theorem md_V1 (τ : md_T) (k : Nat) (v : Int32) : (md_V τ k v).2.2 k = v := by simp [md_V]
theorem md_Vf (τ : md_T) (k : Nat) (v : Int32) : (md_V τ k v).1 = τ.1 := rfl
theorem md_Vn (τ : md_T) {k j : Nat} (v : Int32) (h : j ≠ k) : (md_V τ k v).2.2 j = τ.2.2 j := by simp [md_V, h]
theorem md_drawn (h0 : τ.1 1 0 = nI n) (hn0 : ¬ nI n = 0) {z : Int32} (hz : τ.2.2 23 = z) : fX11_drawn (md a τ M0) a (nI n) = some (sp_dr n (sp_ns z), md a (md_V τ 23 (sp_ns z)) M0) := by
  unfold fX11_drawn
  rw [md_ob, Option.bind_some, md_i23, Option.bind_some, hz, md_p23, Option.bind_some, md_i23, Option.bind_some, if_neg hn0, md_V1]
  rfl
theorem m_seeded (hS : rf_S (τ.1 1) n m) (hs : ts τ) (x y z : Int32) : qm (fX11_seeded (md a τ M0) a x y z) a M0 τ (sp_seeded τ n m x y z) := by
  have hn := hS.1
  have hm := hS.2.1
  have h1 := hS.2.2.2.1
  have h0 := hS.2.2.1
  unfold fX11_seeded sp_seeded
  rw [md_ob, Option.bind_some, md_isMan h1 (by omega), Option.bind_some]
  rcases sp_is_cases (n := m) (by omega) x with hx | ⟨g, hg, rfl, hx⟩
  · rw [if_pos hx, if_pos hx]; exact ⟨τ, rfl, te.rfl'⟩
  have hx' : ¬ sp_is m (nI g) = 0 := by rw [hx]; decide
  rw [if_neg hx', if_neg hx', show (1 : Int64) = (1 : Int32).toInt64 from rfl, show (40 : Int64) = (40 : Int32).toInt64 from rfl, md_isIn, Option.bind_some]
  by_cases c1 : y < 1
  · rw [if_pos c1, if_pos c1, if_pos rfl]; exact ⟨τ, rfl, te.rfl'⟩
  rw [if_neg c1, if_neg c1]
  by_cases c2 : ¬ y ≤ 40
  · rw [if_neg c2, if_pos (Int32.not_le.mp c2), if_pos rfl]; exact ⟨τ, rfl, te.rfl'⟩
  have c2 := Classical.not_not.mp c2
  rw [if_pos c2, if_neg (Int32.not_lt.mpr c2), if_neg (by decide)]
  obtain ⟨K, hK, rfl⟩ := sp_1_40 c1 c2
  obtain ⟨i, hi, -⟩ := hS.2.2.2.2.2 g hg
  have hn0 : ¬ nI n = 0 := nI_ne0 (by omega) (by omega)
  obtain ⟨τ1, eb, ei, es⟩ := ti_begin (a := a) (M0 := M0) (τ := τ)
  rw [eb, Option.bind_some, md_p23, Option.bind_some, nI_clamp (show g < 2 ^ 31 by omega), nI_clamp (show K < 2 ^ 31 by omega), ← es]
  rw [← es] at hS
  refine ml_runJ (n := n) (m := m) (fun τ' z => τ'.2.2 23 = z) (fun w N _ k => fX11_seeded_34 w N a (nI g) (nI K) (nI k)) K _ _ (fun w τ' z k hk hr hi hJ => Or.inl ?_) (fun w τ' x hr hi _ => ?_) ah_fu (md_V τ1 23 z) z (by unfold ah_fu; omega) hS (ti_V ei (by decide) _) (md_V1 _ _ _)
  · have e1 := md_drawn (a := a) (M0 := M0) hr.2.2.1 hn0 hJ
    have e2 := md_drawn (a := a) (M0 := M0) (τ := md_V τ' 23 (sp_ns z)) hr.2.2.1 hn0 (md_V1 _ _ _)
    have hr' : rf_S ((md_V (md_V τ' 23 (sp_ns z)) 23 (sp_ns (sp_ns z))).1 1) n m := hr
    have hi' : ti τ (md_V (md_V τ' 23 (sp_ns z)) 23 (sp_ns (sp_ns z))) := ti_V (ti_V hi (by decide) _) (by decide) _
    have eb : fX11_seeded_34 (w + 1) (md a τ' M0) a (nI g) (nI K) (nI k) = (if sp_mm (τ'.1 1) n m (sp_dr n (sp_ns z)) (sp_dr n (sp_ns (sp_ns z))) = 0 then fX11_seeded_34 w (md a (md_V (md_V τ' 23 (sp_ns z)) 23 (sp_ns (sp_ns z))) M0) a (nI g) (nI K) (nI (k + 1)) else (fX11_meets (md a (md_V (md_V τ' 23 (sp_ns z)) 23 (sp_ns (sp_ns z))) M0) a (sp_dr n (sp_ns z)) (sp_dr n (sp_ns (sp_ns z)))).bind fun v17 => fX11_seeded_34 w v17 a (nI g) (nI K) (nI (k + 1))) := by
      show fX11_seeded_34_b _ _ _ _ _ _ = _
      unfold fX11_seeded_34_b fX11_seeded_83
      rw [if_neg (nI_ge hk (by omega)), md_r0, Option.bind_some, md_s0, Option.bind_some, hr.2.2.1, e1, Option.bind_some]
      dsimp only
      rw [md_r0, Option.bind_some, md_s0, Option.bind_some, show (md_V τ' 23 (sp_ns z)).1 1 0 = nI n from hr.2.2.1, e2, Option.bind_some]
      dsimp only
      rw [md_may hr', Option.bind_some, nI_1]
      rfl
    have sp2 : sp_sdF n m (τ'.1 1, z) k = .inl (sp_go (τ'.1 1) n m (sp_dr n (sp_ns z)) (sp_dr n (sp_ns (sp_ns z))), sp_ns (sp_ns z)) := rfl
    have v23 : (md_V (md_V τ' 23 (sp_ns z)) 23 (sp_ns (sp_ns z))).2.2 23 = sp_ns (sp_ns z) := md_V1 _ _ _
    have vS : (md_V (md_V τ' 23 (sp_ns z)) 23 (sp_ns (sp_ns z))).1 1 = τ'.1 1 := rfl
    generalize md_V (md_V τ' 23 (sp_ns z)) 23 (sp_ns (sp_ns z)) = σ at eb hr' hi' v23 vS
    rcases sp_mm_cases hr (sp_dr n (sp_ns z)) (sp_dr n (sp_ns (sp_ns z))) with ⟨e, eg⟩ | ⟨i, j, g1, g2, -, -, -, -, -, -, -, -, -, -, -, -, -, em, -, -, -⟩
    · rw [if_pos e] at eb
      exact ⟨_, _, σ, sp2, eb, by rw [eg, vS], by rw [eg]; exact hr, hi', v23⟩
    · have em' : sp_mm (σ.1 1) n m (sp_dr n (sp_ns z)) (sp_dr n (sp_ns (sp_ns z))) = 1 := by rw [vS]; exact em
      rw [if_neg (by rw [em]; decide), md_step hr' em', Option.bind_some] at eb
      refine ⟨_, _, _, sp2, eb, ?_, rf_S_go hr _ _, ti_V (ti_V (ti_A hi' _) (by decide) _) (by decide) _, ?_⟩
      · rw [md_Vf, md_Vf, md_A1, vS]
      · rw [md_Vn _ _ (by decide), md_Vn _ _ (by decide), md_A2, v23]
  · obtain ⟨τ'', e1, e2, -⟩ := ti_end (a := a) (M0 := M0) hi
    refine ⟨τ'', ?_, e2⟩
    show fX11_seeded_34_b _ _ _ _ _ _ = _
    unfold fX11_seeded_34_b
    rw [if_pos (nI_le (Nat.le_refl _) (by omega)), md_get0 (by omega), Option.bind_some, e1, Option.bind_some]
/-! judge -/
def sp_juF (n m : Nat) (E : Nat → Int32) (s : (Nat → Int32) × Unit) (k : Nat) : ((Nat → Int32) × Unit) ⊕ Int32 :=
  if sp_mm s.1 n m (E (4 * k)) (E (4 * k + 1)) = 0 then .inr (nI (4 * k)) else if E (4 * k + 2) = nI (sp_g s.1 m (E (4 * k))) then (if E (4 * k + 3) = nI (sp_g s.1 m (E (4 * k + 1))) then .inl (sp_go s.1 n m (E (4 * k)) (E (4 * k + 1)), ()) else .inr (nI (4 * k + 3))) else .inr (nI (4 * k + 2))
def sp_judge (τ : md_T) (n m : Nat) (x : Int32) : Int32 := if sp_wr τ x (-1) = 0 then pl_fe (sp_juF n m (fun j => τ.1 8 (100 * x.toNatClampNeg + j))) (fun _ => if (τ.1 7 x.toNatClampNeg).toNatClampNeg % 4 = 0 then -4 else nI (4 * ((τ.1 7 x.toNatClampNeg).toNatClampNeg / 4))) (τ.1 1, ()) 0 ((τ.1 7 x.toNatClampNeg).toNatClampNeg / 4) else sp_wr τ x (-1)
theorem c_judge (h : cs b M τ n m F1) (x : Int32) : qc (fX10_judge M b x) b M τ n m F1 (sp_judge τ n m x) := by
  unfold fX10_judge sp_judge
  have hm := h.r1.1.2.1
  rw [h.o.ob, Option.bind_some, co_refRow h.o h.sh, Option.bind_some]
  rcases sp_wr_cases (cs_ts h) x (-1) with ⟨h1, h2, h3⟩ | ⟨h1, d, t, s, hd, rfl, k5, ht, hs, k6, k7, ho⟩
  · rw [if_neg h3, if_neg h2]; exact qc_ref h rfl
  obtain ⟨X, eX, rX⟩ := cs_become h
  have hn := rX.1.1
  rw [h1, if_pos (by decide), if_pos rfl, h.o.r4, Option.bind_some, h.o.sh hd, Option.bind_some, h.o.r1, Option.bind_some, h.o.r0, Option.bind_some, eX, Option.bind_some]
  simp only [nI_clamp (show d < 2 ^ 31 by omega), k7, nI_clamp (show s < 2 ^ 31 by omega)]
  apply qc_mind h
  refine cl_run (α := Unit) (fun w N _ k => fX10_judge_33 w N b (b + 29 + 2 * d) (nI (4 * k))) (s / 4) _ _ (fun w F S _ k hk hr => ?_) (fun w F S x hr => ⟨F, ?_⟩) ah_fu X (τ.1 1) () (by unfold ah_fu; omega) rX
  · have hc := cs_mind h F
    obtain ⟨el, H, he⟩ := cs_row hc hd k5 ht k6 k7 hs
    have a0 : fX7_at (fl (b + 10) F M) (b + 29 + 2 * d) (nI (4 * k)) = some (τ.1 8 (100 * d + 4 * k)) := by rw [H.at rfl hs (by omega), he _ (by omega)]
    have a1 : fX7_at (fl (b + 10) F M) (b + 29 + 2 * d) (nI (4 * k) + 1) = some (τ.1 8 (100 * d + (4 * k + 1))) := by rw [nI_1, H.at rfl hs (by omega), he _ (by omega)]
    have a2 : fX7_at (fl (b + 10) F M) (b + 29 + 2 * d) (nI (4 * k) + 2) = some (τ.1 8 (100 * d + (4 * k + 2))) := by rw [show (2 : Int32) = nI 2 from rfl, nI_add, H.at rfl hs (by omega), he _ (by omega)]
    have a3 : fX7_at (fl (b + 10) F M) (b + 29 + 2 * d) (nI (4 * k) + 3) = some (τ.1 8 (100 * d + (4 * k + 3))) := by rw [show (3 : Int32) = nI 3 from rfl, nI_add, H.at rfl hs (by omega), he _ (by omega)]
    have eb : fX10_judge_33 (w + 1) (fl (b + 10) F M) b (b + 29 + 2 * d) (nI (4 * k)) = (fX10_faultOfGifts (fl (b + 10) F M) (b + 10) (b + 29 + 2 * d) (nI (4 * k))).bind fun v6 => if v6 < 0 then ((fX2_holdMeeting (fl (b + 10) F M) (b + 10) (τ.1 8 (100 * d + 4 * k)) (τ.1 8 (100 * d + (4 * k + 1)))).bind fun v13 => fX10_judge_33 w v13.2 b (b + 29 + 2 * d) (nI (4 * (k + 1)))) else some (v6, fl (b + 10) F M) := by
      show fX10_judge_33_b _ _ _ _ _ = _
      unfold fX10_judge_33_b
      rw [H.i2, Option.bind_some, if_neg (show ¬ nI s ≤ nI (4 * k) + 3 by rw [show (3 : Int32) = nI 3 from rfl, nI_add]; exact nI_ge (by omega) (by omega)), hc.o.r1, Option.bind_some, show (nI (4 * k) + 4 : Int32) = nI (4 * (k + 1)) by rw [show (4 : Int32) = nI 4 from rfl, nI_add]; rfl]
      simp only [Option.bind_some, a0, a1]
    have ef : ∃ r, fX10_faultOfGifts (fl (b + 10) F M) (b + 10) (b + 29 + 2 * d) (nI (4 * k)) = some r ∧ (¬ r < 0 ∧ sp_juF n m (fun j => τ.1 8 (100 * d + j)) (S, ()) k = .inr r ∨ r < 0 ∧ sp_juF n m (fun j => τ.1 8 (100 * d + j)) (S, ()) k = .inl (sp_go S n m (τ.1 8 (100 * d + 4 * k)) (τ.1 8 (100 * d + (4 * k + 1))), ())) := by
      unfold fX10_faultOfGifts sp_juF
      dsimp only
      rw [a0, Option.bind_some, a1, Option.bind_some, fl_may hr, Option.bind_some]
      rcases sp_mm_cases hr.1 (τ.1 8 (100 * d + 4 * k)) (τ.1 8 (100 * d + (4 * k + 1))) with ⟨e, -⟩ | ⟨i, j, g1, g2, ex, ey, hi, hj, hij, -, -, e1, e2, -, -, -, -, em, q1, q2, -⟩
      · rw [if_pos e, if_pos e]
        exact ⟨_, rfl, Or.inl ⟨nI_pos (by omega), rfl⟩⟩
      · have em' : ¬ sp_mm S n m (τ.1 8 (100 * d + 4 * k)) (τ.1 8 (100 * d + (4 * k + 1))) = 0 := by rw [em]; decide
        have gv1 := rf_giver hr (a := b + 10) (Or.inr (Or.inl rfl)) hi
        have gv2 := rf_giver hr (a := b + 10) (Or.inr (Or.inl rfl)) hj
        rw [if_neg em', if_neg em', a2, Option.bind_some, q1, q2]
        rw [ex, ey, gv1, Option.bind_some, a3, Option.bind_some, gv2, Option.bind_some, e1, e2, show sp_I (some g1) = nI g1 from rfl, show sp_I (some g2) = nI g2 from rfl]
        by_cases c1 : τ.1 8 (100 * d + (4 * k + 2)) = nI g1
        · rw [if_pos c1, if_pos c1]
          by_cases c2 : τ.1 8 (100 * d + (4 * k + 3)) = nI g2
          · rw [if_pos c2, if_pos c2]
            exact ⟨_, rfl, Or.inr ⟨by decide, rfl⟩⟩
          · rw [if_neg c2, if_neg c2, show (3 : Int32) = nI 3 from rfl, nI_add]
            exact ⟨_, rfl, Or.inl ⟨nI_pos (by omega), rfl⟩⟩
        · rw [if_neg c1, if_neg c1, show (2 : Int32) = nI 2 from rfl, nI_add]
          exact ⟨_, rfl, Or.inl ⟨nI_pos (by omega), rfl⟩⟩
    obtain ⟨r, er, hr'⟩ := ef
    rw [er, Option.bind_some] at eb
    rcases hr' with ⟨l1, l2⟩ | ⟨l1, l2⟩
    · rw [if_neg l1] at eb
      exact Or.inr ⟨r, F, l2, eb⟩
    · obtain ⟨F', f1, f2⟩ := fl_step hr (a := b + 10) (Or.inr (Or.inl rfl)) (τ.1 8 (100 * d + 4 * k)) (τ.1 8 (100 * d + (4 * k + 1)))
      rw [if_pos l1, f1, Option.bind_some] at eb
      exact Or.inl ⟨_, (), F', l2, eb, f2⟩
  · have hc := cs_mind h F
    obtain ⟨el, H, he⟩ := cs_row hc hd k5 ht k6 k7 hs
    show fX10_judge_33_b _ _ _ _ _ = _
    unfold fX10_judge_33_b
    rw [H.i2, Option.bind_some, if_pos (show nI s ≤ nI (4 * (s / 4)) + 3 by rw [show (3 : Int32) = nI 3 from rfl, nI_add]; exact nI_le (by omega) (by omega)), Option.bind_some]
    by_cases c : s % 4 = 0
    · rw [if_pos (nI_le (by omega) (by omega)), if_pos c]
    · rw [if_neg (nI_ge (by omega) (by omega)), if_neg c]
theorem m_judge (hS : rf_S (τ.1 1) n m) (hs : ts τ) (x : Int32) : qm (fX11_judge (md a τ M0) a x) a M0 τ (sp_judge τ n m x) := by
  unfold fX11_judge sp_judge
  rw [md_ob, Option.bind_some, md_wrongRow, Option.bind_some]
  rcases sp_wr_cases hs x (-1) with ⟨h1, h2, h3⟩ | ⟨h1, d, t, s, hd, rfl, k5, ht, hs, k6, k7, ho⟩
  · rw [if_neg h2, if_neg h2]; exact ⟨τ, rfl, te.rfl'⟩
  obtain ⟨τ1, eb, ei, es⟩ := ti_begin (a := a) (M0 := M0) (τ := τ)
  rw [if_pos h1, if_pos h1, eb, Option.bind_some]
  simp only [nI_clamp (show d < 2 ^ 31 by omega), k7, nI_clamp (show s < 2 ^ 31 by omega)]
  rw [← es] at hS ⊢
  have s7 : ∀ τ', ti τ τ' → τ'.1 7 d = nI s := fun τ' hi => by rw [hi.2.2.1 7 (by decide) (by decide)]; exact k7
  have fin : ∀ w τ' (r : Int32) (k : Nat), (0 ≤ r ∨ r = -4 ∧ k = s / 4) → k ≤ s / 4 → ti τ τ' → ∃ τ'', fX11_judge_23 (w + 1) (md a τ' M0) a (nI d) r (nI (4 * k)) = some (if 0 ≤ r then r else if s % 4 = 0 then -4 else nI (4 * (s / 4)), md a τ'' M0) ∧ te τ τ'' := fun w τ' r k hrk hk hi => by
    obtain ⟨τ'', e1, e2, e3⟩ := ti_end (a := a) (M0 := M0) hi
    refine ⟨τ'', ?_, e2⟩
    show fX11_judge_23_b _ _ _ _ _ _ = _
    unfold fX11_judge_23_b fX11_judge_54
    rw [md_r6, Option.bind_some, md_k7 hd, Option.bind_some, s7 τ' hi, e1, Option.bind_some, md_r6, Option.bind_some, md_k7 hd, Option.bind_some, s7 τ'' e3]
    have h4 : (nI s - nI s / 4 * 4 = 0) = (s % 4 = 0) := by
      rw [show (4 : Int32) = nI 4 from rfl, pk_rem (by omega) (by decide) (by decide), show (0 : Int32) = nI 0 from rfl, nI_eq (by omega) (by decide)]
    simp only [h4]
    rcases hrk with hr | ⟨hr, hkk⟩
    · rw [if_pos hr, if_pos hr, if_pos hr]
      split <;> rfl
    · have hr' : ¬ (0 : Int32) ≤ r := by rw [hr]; decide
      rw [if_neg hr', if_neg hr', hkk, hr, if_pos (show nI s ≤ nI (4 * (s / 4)) + 3 by rw [show (3 : Int32) = nI 3 from rfl, nI_add]; exact nI_le (by omega) (by omega))]
      split <;> rfl
  refine ml_run (n := n) (m := m) (α := Unit) (fun w N x k => fX11_judge_23 (w + 1) N a (nI d) (-4) (nI (4 * k))) (s / 4) _ _ (fun w τ' x k hk hr hi => ?_) (fun w τ' x hr hi => ?_) 299 τ1 () (by omega) hS ei
  · have e8 := hi.2.2.1 8 (by decide) (by decide)
    have a0 : ∀ τ'', τ''.1 8 = τ.1 8 → ∀ j, j < 4 → ah_ai (md a τ'' M0) (a + 8) (nI (100 * d + 4 * k + j)) = some (τ.1 8 (100 * d + (4 * k + j))) := fun τ'' e j hj => by
      rw [md_k8 (by omega), e, Nat.add_assoc]
    have ix : (100 * nI d + nI (4 * k) : Int32) = nI (100 * d + 4 * k) := by rw [show (100 : Int32) = nI 100 from rfl, pk_mul, nI_add]
    have eb : fX11_judge_23 (w + 1 + 1) (md a τ' M0) a (nI d) (-4) (nI (4 * k)) = (fX11_wrongFour (md a τ' M0) a (nI d) (nI (4 * k))).bind fun v5 => fX11_judge_23 (w + 1) v5.2 a (nI d) v5.1 (nI (4 * (k + 1))) := by
      show fX11_judge_23_b _ _ _ _ _ _ = _
      unfold fX11_judge_23_b
      rw [md_r6, Option.bind_some, md_k7 hd, Option.bind_some, s7 τ' hi, if_neg (show ¬ nI s ≤ nI (4 * k) + 3 by rw [show (3 : Int32) = nI 3 from rfl, nI_add]; exact nI_ge (by omega) (by omega)), if_neg (by decide), show (nI (4 * k) + 4 : Int32) = nI (4 * (k + 1)) by rw [show (4 : Int32) = nI 4 from rfl, nI_add]; rfl]
    have ef : ∃ r τ'', fX11_wrongFour (md a τ' M0) a (nI d) (nI (4 * k)) = some (r, md a τ'' M0) ∧ ti τ τ'' ∧ (0 ≤ r ∧ sp_juF n m (fun j => τ.1 8 (100 * d + j)) (τ'.1 1, ()) k = .inr r ∨ r = -4 ∧ sp_juF n m (fun j => τ.1 8 (100 * d + j)) (τ'.1 1, ()) k = .inl (τ''.1 1, ()) ∧ rf_S (τ''.1 1) n m) := by
      unfold fX11_wrongFour sp_juF
      dsimp only
      rw [md_ob, Option.bind_some, md_r7, Option.bind_some, ix, show nI (100 * d + 4 * k) = nI (100 * d + 4 * k + 0) from rfl, a0 τ' e8 0 (by decide), Option.bind_some, Option.bind_some, show nI (100 * d + 4 * k + 0) + 1 = nI (100 * d + 4 * k + 1) by rw [nI_1], a0 τ' e8 1 (by decide), Option.bind_some, md_may hr, Option.bind_some]
      rw [show (4 * k + 0) = 4 * k from rfl]
      rcases sp_mm_cases hr (τ.1 8 (100 * d + 4 * k)) (τ.1 8 (100 * d + (4 * k + 1))) with ⟨e, -⟩ | ⟨i, j, g1, g2, ex, ey, hi', hj, hij, -, -, e1, e2, -, -, -, -, em, q1, q2, -⟩
      · rw [if_pos e, if_pos e]
        exact ⟨_, τ', rfl, hi, Or.inl ⟨nI_pos' (by omega), rfl⟩⟩
      · have em' : ¬ sp_mm (τ'.1 1) n m (τ.1 8 (100 * d + 4 * k)) (τ.1 8 (100 * d + (4 * k + 1))) = 0 := by rw [em]; decide
        rw [if_neg em', if_neg em', md_step hr em, Option.bind_some]
        generalize hσ : md_V (md_V (md_A τ' 1 (sp_go (τ'.1 1) n m (τ.1 8 (100 * d + 4 * k)) (τ.1 8 (100 * d + (4 * k + 1))))) 12 (nI (sp_g (τ'.1 1) m (τ.1 8 (100 * d + 4 * k))))) 13 (nI (sp_g (τ'.1 1) m (τ.1 8 (100 * d + (4 * k + 1))))) = σ
        have v12 : σ.2.2 12 = nI (sp_g (τ'.1 1) m (τ.1 8 (100 * d + 4 * k))) := by rw [← hσ]; rfl
        have v13 : σ.2.2 13 = nI (sp_g (τ'.1 1) m (τ.1 8 (100 * d + (4 * k + 1)))) := by rw [← hσ]; rfl
        have v1 : σ.1 1 = sp_go (τ'.1 1) n m (τ.1 8 (100 * d + 4 * k)) (τ.1 8 (100 * d + (4 * k + 1))) := by rw [← hσ]; rfl
        have v8 : σ.1 8 = τ.1 8 := by rw [← hσ, ← e8]; rfl
        have hσi : ti τ σ := by rw [← hσ]; exact ti_V (ti_V (ti_A hi _) (by decide) _) (by decide) _
        rw [md_i12, Option.bind_some, md_r7, Option.bind_some, show nI (100 * d + 4 * k + 0) + 2 = nI (100 * d + 4 * k + 2) by rw [show (2 : Int32) = nI 2 from rfl, nI_add], a0 σ v8 2 (by decide), Option.bind_some, md_i13, Option.bind_some, Option.bind_some, show nI (100 * d + 4 * k + 0) + 3 = nI (100 * d + 4 * k + 3) by rw [show (3 : Int32) = nI 3 from rfl, nI_add], a0 σ v8 3 (by decide), Option.bind_some, v12, v13]
        by_cases c1 : τ.1 8 (100 * d + (4 * k + 2)) = nI (sp_g (τ'.1 1) m (τ.1 8 (100 * d + 4 * k)))
        · rw [if_pos c1.symm, if_pos c1]
          by_cases c2 : τ.1 8 (100 * d + (4 * k + 3)) = nI (sp_g (τ'.1 1) m (τ.1 8 (100 * d + (4 * k + 1))))
          · rw [if_pos c2.symm, if_pos c2]
            exact ⟨_, σ, rfl, hσi, Or.inr ⟨rfl, by rw [v1], by rw [v1]; exact rf_S_go hr _ _⟩⟩
          · rw [if_neg (fun e => c2 e.symm), if_neg c2, show (3 : Int32) = nI 3 from rfl, nI_add]
            exact ⟨_, σ, rfl, hσi, Or.inl ⟨nI_pos' (by omega), rfl⟩⟩
        · rw [if_neg (fun e => c1 e.symm), if_neg c1, show (2 : Int32) = nI 2 from rfl, nI_add]
          exact ⟨_, σ, rfl, hσi, Or.inl ⟨nI_pos' (by omega), rfl⟩⟩
    obtain ⟨r, τ'', er, hi2, hr'⟩ := ef
    rw [er, Option.bind_some] at eb
    rcases hr' with ⟨l1, l2⟩ | ⟨l1, l2, l3⟩
    · obtain ⟨τ3, f1, f2⟩ := fin w τ'' r (k + 1) (Or.inl l1) (by omega) hi2
      rw [f1, if_pos l1] at eb
      exact Or.inr ⟨r, τ3, l2, eb, f2⟩
    · rw [l1] at eb
      exact Or.inl ⟨_, (), τ'', l2, eb, rfl, l3, hi2⟩
  · exact fin (w + 1) τ' (-4) (s / 4) (Or.inr ⟨rfl, rfl⟩) (Nat.le_refl _) hi
end RUNS4
