/-! PURE LEVEL, 33: fewest, crews, both -/
section FEW
variable {b a : Nat} {M M0 : ah_h} {τ : md_T} {n m z : Nat} {F1 : fl_T} {w : Nat → Option Nat}
theorem cs_wanted (h : cs b M τ n m F1) (W : Nat → Int32) : cs b (ah_up M (b + 51) (ah_I 12 W)) τ n m F1 := by
  obtain ⟨F2, k⟩ := h.f2
  refine cs_of h (fun q hq => ah_up_ne _ _ (by omega)) ⟨F2, fa_of k (fun q _ _ _ => ah_up_ne _ _ (by omega))⟩ (ah_up_ne _ _ (by omega)) (fun i hi => ?_) ⟨W, ah_up_self _ _ _⟩ ?_
  · rw [ah_up_ne _ _ (by omega)]; exact h.g1 i hi
  · rw [ah_up_ne _ _ (by omega)]; exact h.ch
theorem cs_gn {N : ah_h} (h : cs b M τ n m F1) (hg : gn b 4 M N) : cs b N τ n m F1 := by
  obtain ⟨F2, k⟩ := h.f2
  refine cs_of h (fun q hq => hg.1 q (by omega)) ⟨F2, fa_of k (fun q _ _ _ => hg.1 q (by omega))⟩ (hg.1 _ (by omega)) hg.2 ?_ ?_
  · rw [hg.1 _ (by omega)]; exact h.wa
  · rw [hg.1 _ (by omega)]; exact h.ch
theorem gw_of (h : cs b M τ n m F1) {W : Nat → Int32} (hW : ∀ g, g < 12 → W g = sp_W (w g)) (hn : ∀ g i, w g = some i → i < n) : gw b n (ah_up M (b + 51) (ah_I 12 W)) w := by
  have h' := cs_wanted h W
  exact ⟨h'.g0, h'.g1, ⟨W, ah_up_self _ _ _, hW⟩, hn⟩
theorem c_few (h : cs b M τ n m F1) (hw : gw b n M w) {K : Nat} (hK : K ≤ 4) : ∃ r X N, fX10_fewestMeetings M b (nI K) = some (r, fl (b + 10) X N) ∧ gn b 4 M N ∧ ∃ f N2, sp_few n m w (τ.1 1) K r f ∧ fX10_firstOfWay (fl (b + 10) X N) (b + 10) (b + 45) (b + 51) r = some (f, fl (b + 10) X N2) ∧ gn b 4 N N2 := by
  obtain ⟨X, eX, rX⟩ := cs_become h
  have hX := cs_mind h X
  have small : ∀ (N : ah_h) (r : Int32), r < 1 → fX10_firstOfWay N (b + 10) (b + 45) (b + 51) r = some (-4, N) := fun N r hr => by
    show fX10_firstOfWay_s _ _ _ _ _ _ = _
    unfold fX10_firstOfWay_s
    rw [if_pos hr]
  unfold fX10_fewestMeetings
  rw [h.o.ob, Option.bind_some, h.o.r1, Option.bind_some, h.o.r0, Option.bind_some, eX, Option.bind_some, hX.o.r1, Option.bind_some, hX.o.r6, Option.bind_some]
  obtain ⟨r0, e0, h0⟩ := c_firstAstray rX hw
  rw [e0, Option.bind_some]
  rcases h0 with ⟨rfl, hh⟩ | ⟨g, t, s, rfl, hg, ht, hs, hsn, hne⟩
  · rw [if_neg (by decide)]
    exact ⟨0, X, M, rfl, hw.rfl', -4, M, Or.inl ⟨0, Nat.zero_le _, hh, fun j hj => by omega, rfl, fun _ => rfl, fun k' hk' => by omega⟩, small _ _ (by decide), hw.rfl'⟩
  · have hm := rX.1.2.1
    have hn := rX.1.1
    rw [if_pos (nI_pos' (by omega))]
    have no0 : ¬ sp_way n m w 0 (τ.1 1) := fun hh => by
      have := hh g t hg ht
      rw [hs] at this
      have h5 := hw.2.2.2 g t ht
      exact hne ((nI_eq (by omega) (by omega)).mp this)
    have key := pl_run (fun v (N : ah_h) k => fX10_fewestMeetings_29 v (fl (b + 10) X N) b (nI K) (nI k)) (K + 1) (fun k N => 1 ≤ k ∧ gn b 4 M N ∧ ∀ j, j < k → ¬ sp_way n m w j (τ.1 1)) (fun r => ∃ N, r.2 = fl (b + 10) X N ∧ gn b 4 M N ∧ ∃ f N2, sp_few n m w (τ.1 1) K r.1 f ∧ fX10_firstOfWay (fl (b + 10) X N) (b + 10) (b + 45) (b + 51) r.1 = some (f, fl (b + 10) X N2) ∧ gn b 4 N N2) ?_ ?_ ah_fu M 1 (by omega) (by unfold ah_fu; omega) ⟨Nat.le_refl _, hw.rfl', fun j hj => by
      have : j = 0 := by omega
      subst this
      exact no0⟩
    · obtain ⟨⟨r, N1⟩, e1, N, rfl, e2, e3⟩ := key
      exact ⟨r, X, N, e1, e2, e3⟩
    · rintro v N k hk ⟨k1, hgn, hno⟩
      obtain ⟨k, rfl⟩ : ∃ k', k = k' + 1 := ⟨k - 1, by omega⟩
      have hw' : gw b n N w := gw_gn hw (by omega) hgn
      have hr' : rf b N X (τ.1 1) n m := rf_gn rX (by omega) hgn
      have hco : co b (fl (b + 10) X N) (τ.2.2 10) := co_of h.o (by rw [fl_out (by omega), hgn.1 _ (by omega)]) (by rw [fl_out (by omega), hgn.1 _ (by omega)])
      obtain ⟨r, N', er, hn', hcr⟩ := c_search (b := b) (n := n) (m := m) (w := w) k 6 N X (τ.1 1) (by omega) (by omega) hr' hw' (fun j hj => hno j (by omega))
      have hn4 : gn b 4 M N' := ⟨fun q hq => (hn'.1 q (by omega)).trans (hgn.1 q hq), hn'.2⟩
      have step : fX10_fewestMeetings_29 (v + 1) (fl (b + 10) X N) b (nI K) (nI (k + 1)) = if r = -4 then fX10_fewestMeetings_29 v (fl (b + 10) X N') b (nI K) (nI (k + 1 + 1)) else some (nI (k + 1), fl (b + 10) X N') := by
        show fX10_fewestMeetings_29_b _ _ _ _ _ = _
        unfold fX10_fewestMeetings_29_b fX10_firstOfWay
        rw [if_neg (nI_nlt (by omega) (by omega)), hco.r1, Option.bind_some, hco.r5, Option.bind_some, hco.r6, Option.bind_some, er, Option.bind_some, nI_1]
      rcases hcr with ⟨rfl, hnw⟩ | ⟨i, j, hf, rfl⟩
      · refine Or.inl ⟨N', ?_, by omega, hn4, fun j hj => ?_⟩
        · show fX10_fewestMeetings_29 (v + 1) (fl (b + 10) X N) b (nI K) (nI (k + 1)) = _
          rw [step, if_pos rfl]
        · by_cases e : j = k + 1
          · subst e; exact hnw
          · exact hno j (by omega)
      · have hb2 : 10 * i + j < 100 := by have := hf.1; have := hf.2.1; omega
        obtain ⟨r2, N2, er2, hn2, hcr2⟩ := c_search (b := b) (n := n) (m := m) (w := w) k 6 N' X (τ.1 1) (by omega) (by omega) (rf_gn rX (by omega) hn4) (gw_gn hw (by omega) hn4) (fun j hj => hno j (by omega))
        refine Or.inr ⟨(nI (k + 1), fl (b + 10) X N'), ?_, N', rfl, hn4, r2, N2, Or.inl ⟨k + 1, by omega, sp_fst_way hf, hno, rfl, fun hh => by omega, fun k' hk' => ?_⟩, er2, hn2.up (by omega)⟩
        · show fX10_fewestMeetings_29 (v + 1) (fl (b + 10) X N) b (nI K) (nI (k + 1)) = _
          rw [step, if_neg (sp_name_ne hb2)]
        · have : k = k' := by omega
          subst this
          rcases hcr2 with ⟨-, q⟩ | ⟨i2, j2, q1, q2⟩
          · exact absurd (sp_fst_way hf) q
          · exact ⟨i2, j2, q1, q2⟩
    · rintro v N ⟨k1, hgn, hno⟩
      refine ⟨(-4, fl (b + 10) X N), ?_, N, rfl, hgn, -4, N, Or.inr ⟨fun k hk => hno k (by omega), rfl, rfl⟩, small _ _ (show (-4 : Int32) < 1 by decide), gw.rfl' (gw_gn hw (by omega) hgn)⟩
      show fX10_fewestMeetings_29_b _ _ _ _ _ = _
      unfold fX10_fewestMeetings_29_b
      rw [if_pos (nI_lt (by omega) (by omega))]
theorem te_14 (τ : md_T) (f : Nat → Int32) : te τ (md_A τ 14 f) := ⟨fun _ _ => rfl, fun _ _ => rfl, fun k h1 h2 => by simp [md_A, show k ≠ 14 by omega], rfl⟩
theorem te.trans {τ τ' τ'' : md_T} (h : te τ τ') (h' : te τ' τ'') : te τ τ'' := ⟨fun q hq => (h'.1 q hq).trans (h.1 q hq), h.2.trans h'.2⟩
theorem md_w14 {k : Nat} {v : Int32} (hk : k < 12) : ah_si (md a τ M0) (a + 14) (nI k) v = some (md a (md_A τ 14 (upd (τ.1 14) k v)) M0) := md_si (k := 14) (by decide) (by decide) (by decide) hk
/-- one man is wanted on one ship -/
def sp_w1 (g s : Nat) (j : Nat) : Option Nat := if j = g then some s else none
theorem c_fewest (h : cs b M τ n m F1) {g s : Nat} (hg : g < m) (hs : s < n) {u : Int32} (hu : u = 0 ∨ u = 1) : ∃ r f M1, fX10_fewest M b (nI g) (nI s) u = some (if u = 0 then r else f, M1) ∧ sp_few n m (sp_w1 g s) (τ.1 1) 4 r f ∧ cs b M1 τ n m F1 ∧ fr b M M1 := by
  have hm := h.r1.1.2.1
  have hn := h.r1.1.1
  obtain ⟨W0, hW0⟩ := h.wa
  unfold fX10_fewest
  rw [h.o.ob, Option.bind_some, h.o.r0, Option.bind_some, fa_isMan h.f1 h.r1.2.2.1, Option.bind_some, sp_is_in (by omega) hg, if_neg (by decide), Option.bind_some, fa_isShip h.f1 h.r1.2.1, Option.bind_some, sp_is_in (by omega) hs, if_neg (by decide), if_neg (by rcases hu with rfl | rfl <;> decide), if_pos (by rcases hu with rfl | rfl <;> decide)]
  have key := pl_runK (fun v (W : Nat → Int32) k => fX10_fewest_36 v (ah_up M (b + 51) (ah_I 12 W)) b (nI g) (nI s) u (nI k)) 12 (fun k W => ∀ j, j < k → W j = sp_W (sp_w1 g s j)) (fun W => (fX10_fewestMeetings (ah_up M (b + 51) (ah_I 12 W)) b 4).bind fun v2 => if u = 0 then (some (v2.1, v2.2)) else ((ah_gr v2.2 b 10 1).bind fun v5 => (ah_gr v2.2 b 10 5).bind fun v6 => (ah_gr v2.2 b 10 6).bind fun v7 => (fX10_firstOfWay v2.2 v5 v6 v7 v2.1).bind fun v8 => some (v8.1, v8.2))) ?_ ?_ ah_fu W0 0 (by omega) (by decide) (fun j hj => by omega)
  · obtain ⟨W, e1, hW⟩ := key
    have e2 : fX10_fewest_36 ah_fu M b (nI g) (nI s) u 0 = fX10_fewest_36 ah_fu (ah_up M (b + 51) (ah_I 12 W0)) b (nI g) (nI s) u (nI 0) := by
      rw [ah_up_at hW0]
      rfl
    rw [e2, e1]
    have h' := cs_wanted h W
    have hw : gw b n (ah_up M (b + 51) (ah_I 12 W)) (sp_w1 g s) := gw_of h hW (fun j i hj => by
      unfold sp_w1 at hj
      split at hj
      · cases hj; exact hs
      · cases hj)
    obtain ⟨r, X, N, f1, f2, f, N2, f3, f4, f5⟩ := c_few h' hw (show 4 ≤ 4 by omega)
    have hN := cs_mind (cs_gn h' f2) X
    have hN2 := cs_mind (cs_gn (cs_gn h' f2) f5) X
    have fr1 : fr b M (fl (b + 10) X N) := fun q hq => by rw [fl_out (by omega), f2.1 _ (by omega), ah_up_ne _ _ (by omega)]
    have fr2 : fr b M (fl (b + 10) X N2) := fun q hq => by rw [fl_out (by omega), f5.1 _ (by omega), f2.1 _ (by omega), ah_up_ne _ _ (by omega)]
    rw [show (4 : Int32) = nI 4 from rfl, f1, Option.bind_some]
    dsimp only
    by_cases c : u = 0
    · rw [if_pos c]
      exact ⟨r, f, _, by rw [if_pos c], f3, hN, fr1⟩
    · rw [if_neg c, hN.o.r1, Option.bind_some, hN.o.r5, Option.bind_some, hN.o.r6, Option.bind_some, f4, Option.bind_some]
      exact ⟨r, f, _, by rw [if_neg c], f3, hN2, fr2⟩
  · intro v W k hk hW
    refine ⟨upd W k (sp_W (sp_w1 g s k)), ?_, fun j hj => ?_⟩
    · have h' := cs_wanted h W
      show fX10_fewest_36_b _ _ _ _ _ _ _ = _
      unfold fX10_fewest_36_b fX10_fewest_60
      rw [if_neg (pl_n12 hk), h'.o.r6, Option.bind_some, ah_si_at (ah_up_self _ _ _) hk (by decide), Option.bind_some, ah_si_at (ah_up_self _ _ _) hk (by decide), Option.bind_some, ah_up_up, ah_up_up, nI_1]
      unfold sp_w1
      by_cases e : k = g
      · rw [if_pos (by rw [e]), if_pos e]; rfl
      · rw [if_neg (fun q => e ((nI_eq (by omega) (by omega)).mp q)), if_neg e]; rfl
    · by_cases e : j = k
      · subst e; rw [pk_us]
      · rw [pk_un e]; exact hW j (by omega)
  · intro v W _
    show fX10_fewest_36_b _ _ _ _ _ _ _ = _
    unfold fX10_fewest_36_b
    rw [if_pos (by decide)]
theorem m_fewest (hS : rf_S (τ.1 1) n m) {g s : Nat} (hg : g < m) (hs : s < n) {u : Int32} (hu : u = 0 ∨ u = 1) : ∃ r f τ', fX11_fewest (md a τ M0) a (nI g) (nI s) u = some (if u = 0 then r else f, md a τ' M0) ∧ sp_few n m (sp_w1 g s) (τ.1 1) 4 r f ∧ te τ τ' := by
  have hm := hS.2.1
  have hn := hS.1
  unfold fX11_fewest
  rw [md_ob, Option.bind_some, md_isMan hS.2.2.2.1 (by omega), Option.bind_some, sp_is_in (by omega) hg, if_neg (by decide), md_isShip hS.2.2.1 (by omega), Option.bind_some, sp_is_in (by omega) hs, if_neg (by decide), md_isIn1, Option.bind_some, if_neg (by rcases hu with rfl | rfl <;> decide)]
  have key := pl_runK (fun v (W : Nat → Int32) k => fX11_fewest_31 v (md a (md_A τ 14 W) M0) a (nI g) (nI s) u (nI k)) 12 (fun k W => ∀ j, j < k → W j = if j = g then nI s else -4) (fun W => (fX11_fewestBy (md a (md_A τ 14 W) M0) a 4).bind fun v2 => if u = 0 then (some (v2.1, v2.2)) else ((ah_gi v2.2 a 11 21).bind fun v5 => some (v5, v2.2))) ?_ ?_ ah_fu (τ.1 14) 0 (by omega) (by decide) (fun j hj => by omega)
  · obtain ⟨W, e1, hW⟩ := key
    have e2 : fX11_fewest_31 ah_fu (md a τ M0) a (nI g) (nI s) u 0 = fX11_fewest_31 ah_fu (md a (md_A τ 14 (τ.1 14)) M0) a (nI g) (nI s) u (nI 0) := by
      rw [md_Aself]
      rfl
    rw [e2, e1]
    have hmw : mw (md_A τ 14 W) n m (sp_w1 g s) := fun j hj => by
      have := hW j (by omega)
      unfold sp_w1
      by_cases e : j = g
      · rw [if_pos e]; rw [if_pos e] at this; exact ⟨hs, this⟩
      · rw [if_neg e]; rw [if_neg e] at this
        show W j < 0
        rw [this]; decide
    obtain ⟨r, τ', f1, f2, f3⟩ := md_fewest (a := a) (M0 := M0) (τ := md_A τ 14 W) (n := n) (m := m) hS hmw (show 4 ≤ 4 by omega)
    rw [show (4 : Int32) = nI 4 from rfl, f1, Option.bind_some]
    dsimp only
    refine ⟨r, τ'.2.2 21, τ', ?_, f3, (te_14 τ W).trans f2⟩
    by_cases c : u = 0
    · rw [if_pos c, if_pos c]
    · rw [if_neg c, if_neg c, md_i21, Option.bind_some]
  · intro v W k hk hW
    refine ⟨upd W k (if k = g then nI s else -4), ?_, fun j hj => ?_⟩
    · show fX11_fewest_31_b _ _ _ _ _ _ _ = _
      unfold fX11_fewest_31_b fX11_fewest_56
      rw [if_neg (pl_n12 hk), md_r22, Option.bind_some, md_w14 hk, Option.bind_some, md_w14 hk, Option.bind_some, md_AA, md_AA, md_A1, nI_1]
      by_cases e : k = g
      · rw [if_pos (by rw [e]), if_pos e]
      · rw [if_neg (fun q => e ((nI_eq (by omega) (by omega)).mp q)), if_neg e]
    · by_cases e : j = k
      · subst e; rw [pk_us]
      · rw [pk_un e]; exact hW j (by omega)
  · intro v W _
    show fX11_fewest_31_b _ _ _ _ _ _ _ = _
    unfold fX11_fewest_31_b
    rw [if_pos (by decide)]
theorem p_fewest (h : wd b M z τ) (x y u : Int32) : ∃ v M1 M2 τ', fX10_fewest M b x y u = some (v, M1) ∧ fX11_fewest M1 (b + 53) x y u = some (v, M2) ∧ wd b M2 z τ' := by
  obtain ⟨⟨n, m, F1, hc⟩, hma, ho, hz, hn⟩ := id h
  obtain ⟨hn5, hm, h0, h1, -, -⟩ := id hc.r1.1
  have bad : fX10_fewest M b x y u = some (-1, M) → (fX11_fewest (md (b + 53) τ M) (b + 53) x y u = some (-1, md (b + 53) τ M)) → ∃ v M1 M2 τ', fX10_fewest M b x y u = some (v, M1) ∧ fX11_fewest M1 (b + 53) x y u = some (v, M2) ∧ wd b M2 z τ' := fun e1 e2 => ⟨-1, M, M, τ, e1, wd_same h (fun N => fX11_fewest N (b + 53) x y u) e2, h⟩
  have ec : fX10_fewest M b x y u = if sp_is m x = 0 then some (-1, M) else if sp_is n y = 0 then some (-1, M) else if u < 0 then some (-1, M) else if u ≤ 1 then fX10_fewest_36 ah_fu M b x y u 0 else some (-1, M) := by
    unfold fX10_fewest
    rw [hc.o.ob, Option.bind_some, hc.o.r0, Option.bind_some, fa_isMan hc.f1 hc.r1.2.2.1, Option.bind_some, Option.bind_some, fa_isShip hc.f1 hc.r1.2.1, Option.bind_some]
  have eM : ∀ N, fX11_fewest (md (b + 53) τ N) (b + 53) x y u = if sp_is m x = 0 then some (-1, md (b + 53) τ N) else if sp_is n y = 0 then some (-1, md (b + 53) τ N) else if sp_is 2 u = 0 then some (-1, md (b + 53) τ N) else fX11_fewest_31 ah_fu (md (b + 53) τ N) (b + 53) x y u 0 := fun N => by
    unfold fX11_fewest
    rw [md_ob, Option.bind_some, md_isMan h1 (by omega), Option.bind_some, md_isShip h0 (by omega), Option.bind_some, md_isIn1, Option.bind_some]
  rcases sp_is_cases (n := m) (by omega) x with hx | ⟨g, hg, rfl, hx⟩
  · exact bad (by rw [ec, if_pos hx]) (by rw [eM, if_pos hx])
  have hx' : ¬ sp_is m (nI g) = 0 := by rw [hx]; decide
  rcases sp_is_cases (n := n) (by omega) y with hy | ⟨s, hs, rfl, hy⟩
  · exact bad (by rw [ec, if_neg hx', if_pos hy]) (by rw [eM, if_neg hx', if_pos hy])
  have hy' : ¬ sp_is n (nI s) = 0 := by rw [hy]; decide
  by_cases c : sp_is 2 u = 0
  · refine bad ?_ (by rw [eM, if_neg hx', if_neg hy', if_pos c])
    rw [ec, if_neg hx', if_neg hy']
    by_cases c1 : u < 0
    · rw [if_pos c1]
    · unfold sp_is at c
      rw [if_neg c1] at c
      by_cases c2 : nI 2 ≤ u
      · rw [if_neg c1, if_neg (show ¬ u ≤ 1 by rw [show (u ≤ 1) = ¬ (nI 2 ≤ u) from sp_le (n := 1) (by decide) u]; exact fun q => q c2)]
      · rw [if_neg c2] at c; exact absurd c (by decide)
  · have hu := sp_is2 c
    obtain ⟨r, f, M1, e1, e2, e3, e4⟩ := c_fewest hc hg hs hu
    obtain ⟨r', f', τ2, f1, f2, f3⟩ := m_fewest (a := b + 53) (M0 := M1) (τ := τ) hc.r1.1 hg hs hu
    obtain ⟨rfl, rfl⟩ := sp_few_eq e2 f2
    obtain ⟨g1, g2⟩ := wd_of h e3 e4 f3
    rw [g1] at f1
    exact ⟨_, M1, _, τ2, e1, f1, g2⟩
end FEW
