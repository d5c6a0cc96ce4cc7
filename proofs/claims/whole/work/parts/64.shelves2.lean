/-! PURE LEVEL, 25: keep, row, put, copy, both -/
section SHV
variable {b a : Nat} {M M0 : ah_h} {τ : md_T} {n m z : Nat} {F1 : fl_T}
theorem md_keep49 {d : Nat} (hd : d < 8) (y k f : Int32) : fX11_keep_49 (md a τ M0) a (nI d) y k f = some (0, md a (md_A (md_A (md_A τ 5 (upd (τ.1 5) d y)) 9 (upd (τ.1 9) d k)) 10 (upd (τ.1 10) d f)) M0) := by
  unfold fX11_keep_49
  rw [md_r4, Option.bind_some, md_si (k := 5) (by decide) (by decide) (by decide) hd, Option.bind_some, md_r8, Option.bind_some, md_si (k := 9) (by decide) (by decide) (by decide) hd, Option.bind_some, md_r9, Option.bind_some, md_si (k := 10) (by decide) (by decide) (by decide) hd, Option.bind_some]
  rfl
theorem m_keep (x y k f : Int32) : fX11_keep (md a τ M0) a x y k f = if sp_is 8 x = 0 then some (-1, md a τ M0) else if sp_is 2 y = 0 then some (-1, md a τ M0) else if y = 1 then (if sp_is 8 k = 0 then some (-1, md a τ M0) else if sp_is 10 f = 0 then some (-1, md a τ M0) else fX11_keep_49 (md a τ M0) a x y k f) else fX11_keep_49 (md a τ M0) a x y k f := by
  unfold fX11_keep
  rw [md_ob, Option.bind_some, md_isShelf, Option.bind_some, md_isIn1, Option.bind_some, md_isIn7, Option.bind_some, md_isIn9, Option.bind_some]
theorem sp_is2 {y : Int32} (h : ¬ sp_is 2 y = 0) : y = 0 ∨ y = 1 := by
  rcases sp_is_cases (n := 2) (by decide) y with e | ⟨i, hi, rfl, -⟩
  · exact absurd e h
  · rcases (show i = 0 ∨ i = 1 by omega) with rfl | rfl
    · exact Or.inl rfl
    · exact Or.inr rfl
theorem c_keep (h : co b M (τ.2.2 10)) (x y k f : Int32) : fX10_keep M z b x y k f = if sp_is 8 x = 0 then some (-1, M, z) else if sp_is 2 y = 0 then some (-1, M, z) else if y = 1 then (if sp_is 8 k = 0 then some (-1, M, z) else if sp_is 10 f = 0 then some (-1, M, z) else ((ah_ar M (b + 28) 3 x).bind fun v9 => (fX10_captainOf M z k f).bind fun v10 => (fX7_holdCaptain v10.2.1 v9 v10.1).bind fun v11 => some (0, v11, v10.2.2))) else ((ah_ar M (b + 28) 3 x).bind fun v14 => (fX7_holdNothing M v14).bind fun v15 => some (0, v15, z)) := by
  unfold fX10_keep
  rw [h.ob, Option.bind_some, co_isShelf, Option.bind_some, h.r4, Option.bind_some, Option.bind_some, c_kf, Option.bind_some]
  by_cases c0 : sp_is 8 x = 0
  · rw [if_pos c0, if_pos c0]
  rw [if_neg c0, if_neg c0]
  have e1 : (y ≤ 1) = ¬ (nI 2 ≤ y) := sp_le (n := 1) (by decide) y
  by_cases c1 : y < 0
  · rw [if_pos c1, if_pos (show sp_is 2 y = 0 by unfold sp_is; rw [if_pos c1])]
  rw [if_neg c1]
  by_cases c2 : nI 2 ≤ y
  · rw [if_neg (show ¬ y ≤ 1 by rw [e1]; exact fun q => q c2), if_pos (show sp_is 2 y = 0 by unfold sp_is; rw [if_neg c1, if_pos c2])]
  have c3 : ¬ sp_is 2 y = 0 := by unfold sp_is; rw [if_neg c1, if_neg c2]; decide
  rw [if_pos (show y ≤ 1 by rw [e1]; exact c2), if_neg c3]
  rcases sp_is2 c3 with rfl | rfl
  · rw [if_pos rfl, if_neg (by decide)]
  · rw [if_neg (by decide), if_pos rfl]
    by_cases c4 : sp_is 8 k = 0
    · rw [if_pos c4, if_pos c4, if_pos rfl]
    rw [if_neg c4, if_neg c4]
theorem p_keep (h : wd b M z τ) (x y k f : Int32) : ∃ v M1 M2 τ' z', fX10_keep M z b x y k f = some (v, M1, z') ∧ fX11_keep M1 (b + 53) x y k f = some (v, M2) ∧ wd b M2 z' τ' ∧ z ≤ z' ∧ z' ≤ z + 1 := by
  obtain ⟨⟨n, m, F1, hc⟩, hma, ho, hz, hn⟩ := id h
  rw [c_keep hc.o]
  have bad : ∀ N : Option (Int32 × ah_h × Nat), N = some (-1, M, z) → (fX11_keep (md (b + 53) τ M) (b + 53) x y k f = some (-1, md (b + 53) τ M)) → ∃ v M1 M2 τ' z', N = some (v, M1, z') ∧ fX11_keep M1 (b + 53) x y k f = some (v, M2) ∧ wd b M2 z' τ' ∧ z ≤ z' ∧ z' ≤ z + 1 := fun N e1 e2 => ⟨-1, M, M, τ, z, e1, wd_same h (fun N => fX11_keep N (b + 53) x y k f) e2, h, Nat.le_refl _, by omega⟩
  rcases sp_is_cases (n := 8) (by decide) x with hx | ⟨d, hd, rfl, hx⟩
  · exact bad _ (by rw [if_pos hx]) (by rw [m_keep, if_pos hx])
  have hx' : ¬ sp_is 8 (nI d) = 0 := by rw [hx]; decide
  by_cases c3 : sp_is 2 y = 0
  · exact bad _ (by rw [if_neg hx', if_pos c3]) (by rw [m_keep, if_neg hx', if_pos c3])
  obtain ⟨cap, so, si, el, H, -⟩ := hc.sh d hd
  have hk5 : ∀ (y k f : Int32), ∀ d', d' < 8 → d' ≠ d → tq τ (md_A (md_A (md_A τ 5 (upd (τ.1 5) d y)) 9 (upd (τ.1 9) d k)) 10 (upd (τ.1 10) d f)) d' := fun y k f d' _ e => ⟨(pk_un e : upd (τ.1 5) d y d' = _), rfl, rfl, (pk_un e : upd (τ.1 9) d k d' = _), (pk_un e : upd (τ.1 10) d f d' = _), fun _ _ => rfl⟩
  rcases sp_is2 c3 with rfl | rfl
  · obtain ⟨M1, e1, H1, o1⟩ := shA_nothing H
    have hcs : cs b M1 (md_A (md_A (md_A τ 5 (upd (τ.1 5) d 0)) 9 (upd (τ.1 9) d k)) 10 (upd (τ.1 10) d f)) n m F1 := by
      refine cs_shelf hc hd (fun q e h1 _ hq => by rw [o1 q h1]; exact hq) rfl rfl rfl (hk5 0 k f) ?_
      exact ⟨none, -1, 0, el, H1, Or.inl ⟨(pk_us : upd (τ.1 5) d 0 d = 0), rfl, rfl⟩⟩
    obtain ⟨g1, g2⟩ := wd_of h hcs (fun q hq => o1 q (by omega)) te.rfl'
    refine ⟨0, M1, _, _, z, ?_, ?_, g2, Nat.le_refl _, by omega⟩
    · rw [if_neg hx', if_neg c3, if_neg (by decide), hc.o.sh hd, Option.bind_some, e1, Option.bind_some]
    · conv => lhs; rw [← g1]
      rw [m_keep, if_neg hx', if_neg c3, if_neg (by decide), md_keep49 hd]
  · rcases sp_is_cases (n := 8) (by decide) k with hk | ⟨kd, hkd, rfl, hk⟩
    · exact bad _ (by rw [if_neg hx', if_neg c3, if_pos rfl, if_pos hk]) (by rw [m_keep, if_neg hx', if_neg c3, if_pos rfl, if_pos hk])
    have hk' : ¬ sp_is 8 (nI kd) = 0 := by rw [hk]; decide
    rcases sp_is_cases (n := 10) (by decide) f with hf | ⟨fg, hfg, rfl, hf⟩
    · exact bad _ (by rw [if_neg hx', if_neg c3, if_pos rfl, if_neg hk', if_pos hf]) (by rw [m_keep, if_neg hx', if_neg c3, if_pos rfl, if_neg hk', if_pos hf])
    have hf' : ¬ sp_is 10 (nI fg) = 0 := by rw [hf]; decide
    obtain ⟨M2, e2, hcp, o2⟩ := c_cap M z hkd hfg
    have H2 : shA M2 (b + 29 + 2 * d) cap so si el := ⟨(o2 _ (by omega)).trans H.1, (o2 _ (by omega)).trans H.2⟩
    obtain ⟨M1, e1, H1, o1⟩ := shA_captain (c := z) H2
    have o3 : ∀ q, q ≠ z → q ≠ b + 29 + 2 * d → M1 q = M q := fun q h1 h2 => (o1 q h2).trans (o2 q h1)
    have hcs : cs b M1 (md_A (md_A (md_A τ 5 (upd (τ.1 5) d 1)) 9 (upd (τ.1 9) d (nI kd))) 10 (upd (τ.1 10) d (nI fg))) n m F1 := by
      refine cs_shelf hc hd (fun q e h1 _ hq => ?_) rfl rfl rfl (hk5 1 _ _) ?_
      · rw [o3 q (fun e => by rw [e, hn z (Nat.le_refl _)] at hq; cases hq) h1]; exact hq
      · refine ⟨some z, -1, 0, el, H1, Or.inr (Or.inl ⟨(pk_us : upd (τ.1 5) d 1 d = 1), rfl, z, kd, fg, rfl, Or.inr (Or.inr (Or.inr hz)), ⟨?_, hkd, hfg⟩, (pk_us : upd (τ.1 9) d _ d = _), (pk_us : upd (τ.1 10) d _ d = _)⟩)⟩
        rw [o1 z (by omega)]; exact hcp.1
    obtain ⟨g1, g2⟩ := wd_ofz (z' := z + 1) h hcs (fun q h1 h2 => o3 q (by omega) (by omega)) (by omega) (fun q hq => by rw [o3 q (by omega) (by omega)]; exact hn q (by omega)) te.rfl'
    refine ⟨0, M1, _, _, z + 1, ?_, ?_, g2, by omega, Nat.le_refl _⟩
    · rw [if_neg hx', if_neg c3, if_pos rfl, if_neg hk', if_neg hf', hc.o.sh hd, Option.bind_some, e2, Option.bind_some, e1, Option.bind_some]
    · conv => lhs; rw [← g1]
      rw [m_keep, if_neg hx', if_neg c3, if_pos rfl, if_neg hk', if_neg hf', md_keep49 hd]
/-! row -/
theorem md_zero {d : Nat} (hd : d < 8) : ∃ g, fX11_row_58 ah_fu (md a τ M0) a (nI d) 0 = some (0, md a (md_A τ 8 g) M0) ∧ (∀ k, k < 100 → g (100 * d + k) = 0) ∧ ∀ q, q < 100 * d ∨ 100 * d + 100 ≤ q → g q = τ.1 8 q := by
  have := pl_run (fun w (g : Nat → Int32) k => fX11_row_58 w (md a (md_A τ 8 g) M0) a (nI d) (nI k)) 100 (fun k g => (∀ j, j < k → g (100 * d + j) = 0) ∧ ∀ q, q < 100 * d ∨ 100 * d + 100 ≤ q → g q = τ.1 8 q) (fun r => ∃ g, r = (0, md a (md_A τ 8 g) M0) ∧ (∀ j, j < 100 → g (100 * d + j) = 0) ∧ ∀ q, q < 100 * d ∨ 100 * d + 100 ≤ q → g q = τ.1 8 q) ?_ ?_ ah_fu (τ.1 8) 0 (by decide) (by decide) ⟨fun j hj => by omega, fun _ _ => rfl⟩
  · obtain ⟨r, e, g, rfl, h1, h2⟩ := this
    refine ⟨g, ?_, h1, h2⟩
    rw [← e]
    show _ = fX11_row_58 ah_fu (md a (md_A τ 8 (τ.1 8)) M0) a (nI d) (nI 0)
    rw [md_Aself]
    rfl
  · rintro w g k hk ⟨h1, h2⟩
    refine Or.inl ⟨upd g (100 * d + k) 0, ?_, fun j hj => ?_, fun q hq => ?_⟩
    · show fX11_row_58_b (fX11_row_58 w) (md a (md_A τ 8 g) M0) a (nI d) (nI k) = _
      unfold fX11_row_58_b
      rw [if_neg (pl_nle (x := 100) 100 rfl hk (by decide)), md_r7, Option.bind_some, show (100 * nI d + nI k : Int32) = nI (100 * d + k) by rw [show (100 : Int32) = nI 100 from rfl, pk_mul, nI_add], md_si (k := 8) (by decide) (by decide) (by decide) (show 100 * d + k < 800 by omega), Option.bind_some, md_A1, md_AA, nI_1]
    · by_cases e : j = k
      · subst e; exact pk_us
      · rw [pk_un (by omega)]; exact h1 j (by omega)
    · rw [pk_un (by omega)]; exact h2 q hq
  · rintro w g ⟨h1, h2⟩
    refine ⟨_, ?_, g, rfl, h1, h2⟩
    show fX11_row_58_b (fX11_row_58 w) (md a (md_A τ 8 g) M0) a (nI d) (nI 100) = _
    unfold fX11_row_58_b
    rw [if_pos (by decide)]
theorem p_row (h : wd b M z τ) (x y u : Int32) : ∃ v M1 M2 τ', fX10_row M b x y u = some (v, M1) ∧ fX11_row M1 (b + 53) x y u = some (v, M2) ∧ wd b M2 z τ' := by
  obtain ⟨⟨n, m, F1, hc⟩, hma, ho, hz, hn⟩ := id h
  have ec : fX10_row M b x y u = if sp_is 8 x = 0 then some (-1, M) else if sp_is 3 y = 0 then some (-1, M) else if u ≤ 100 then (if 0 ≤ u then ((ah_ar M (b + 28) 3 x).bind fun v8 => (fX7_holdRow M v8 y u).bind fun v9 => some (0, v9)) else some (-14, M)) else some (-1, M) := by
    unfold fX10_row
    rw [hc.o.ob, Option.bind_some, co_isShelf, Option.bind_some, hc.o.r4, Option.bind_some]
    unfold sp_is
    by_cases c1 : y < 0
    · rw [if_pos c1, if_pos c1, if_pos rfl]
    · rw [if_neg c1, if_neg c1]
      show (if _ then _ else if nI 3 ≤ y then _ else _) = _
      by_cases c2 : nI 3 ≤ y
      · rw [if_pos c2, if_pos c2, if_pos rfl]
      · rw [if_neg c2, if_neg c2, if_neg (by decide : ¬ (1 : Int32) = 0)]
  have eM : ∀ τ N, fX11_row (md (b + 53) τ N) (b + 53) x y u = if sp_is 8 x = 0 then some (-1, md (b + 53) τ N) else if sp_is 3 y = 0 then some (-1, md (b + 53) τ N) else if u ≤ 100 then (if 0 ≤ u then ((ah_si (md (b + 53) τ N) (b + 53 + 5) x 2).bind fun M8 => (ah_gr M8 (b + 53) 11 5).bind fun v9 => (ah_si M8 v9 x y).bind fun M10 => (ah_gr M10 (b + 53) 11 6).bind fun v11 => (ah_si M10 v11 x u).bind fun M12 => fX11_row_58 ah_fu M12 (b + 53) x 0) else some (-14, md (b + 53) τ N)) else some (-1, md (b + 53) τ N) := fun τ N => by
    unfold fX11_row
    rw [md_ob, Option.bind_some, md_isShelf, Option.bind_some, md_isIn2, Option.bind_some, md_r4, Option.bind_some]
  have bad : ∀ w, fX10_row M b x y u = some (w, M) → (fX11_row (md (b + 53) τ M) (b + 53) x y u = some (w, md (b + 53) τ M)) → ∃ v M1 M2 τ', fX10_row M b x y u = some (v, M1) ∧ fX11_row M1 (b + 53) x y u = some (v, M2) ∧ wd b M2 z τ' := fun w e1 e2 => ⟨w, M, M, τ, e1, wd_same h (fun N => fX11_row N (b + 53) x y u) e2, h⟩
  rcases sp_is_cases (n := 8) (by decide) x with hx | ⟨d, hd, rfl, hx⟩
  · exact bad (-1) (by rw [ec, if_pos hx]) (by rw [eM, if_pos hx])
  have hx' : ¬ sp_is 8 (nI d) = 0 := by rw [hx]; decide
  rcases sp_is_cases (n := 3) (by decide) y with hy | ⟨t, ht, rfl, hy⟩
  · exact bad (-1) (by rw [ec, if_neg hx', if_pos hy]) (by rw [eM, if_neg hx', if_pos hy])
  have hy' : ¬ sp_is 3 (nI t) = 0 := by rw [hy]; decide
  by_cases c3 : u ≤ 100
  · by_cases c4 : 0 ≤ u
    · obtain ⟨s, hs, rfl⟩ := nI_of2 (M := 100) (n := 100) (by decide) (Int32.not_lt.mpr c4) c3
      obtain ⟨cap, so, si, el, H, -⟩ := hc.sh d hd
      obtain ⟨M1, e1, ⟨el', H1, hel⟩, o1⟩ := shA_row H (nI t) (nI s)
      obtain ⟨g, f1, f2, f3⟩ := md_zero (a := b + 53) (τ := md_A (md_A (md_A τ 5 (upd (τ.1 5) d 2)) 6 (upd (τ.1 6) d (nI t))) 7 (upd (τ.1 7) d (nI s))) (M0 := M1) hd
      have hcs : cs b M1 (md_A (md_A (md_A (md_A τ 5 (upd (τ.1 5) d 2)) 6 (upd (τ.1 6) d (nI t))) 7 (upd (τ.1 7) d (nI s))) 8 g) n m F1 := by
        refine cs_shelf hc hd (fun q e h1 h2 hq => by rw [o1 q h1 h2]; exact hq) rfl rfl rfl (fun d' _ e => ?_) ?_
        · refine ⟨(pk_un e : upd (τ.1 5) d 2 d' = _), (pk_un e : upd (τ.1 6) d _ d' = _), (pk_un e : upd (τ.1 7) d _ d' = _), rfl, rfl, fun k hk => ?_⟩
          show g (100 * d' + k) = _
          rw [f3 _ (by omega)]
          rfl
        · refine ⟨none, nI t, nI s, el', H1, Or.inr (Or.inr ⟨(pk_us : upd (τ.1 5) d 2 d = 2), rfl, t, s, ht, hs, rfl, rfl, (pk_us : upd (τ.1 6) d _ d = _), (pk_us : upd (τ.1 7) d _ d = _), fun k hk => ?_⟩)⟩
          show el' k = g (100 * d + k)
          rw [f2 k hk, hel k hk]
      obtain ⟨g1, g2⟩ := wd_of h hcs (fun q hq => o1 q (by omega) (by omega)) te.rfl'
      refine ⟨0, M1, _, _, ?_, ?_, g2⟩
      · rw [ec, if_neg hx', if_neg hy', if_pos c3, if_pos c4, hc.o.sh hd, Option.bind_some, e1, Option.bind_some]
      · conv => lhs; rw [← g1]
        rw [eM, if_neg hx', if_neg hy', if_pos c3, if_pos c4, md_si (k := 5) (by decide) (by decide) (by decide) hd, Option.bind_some, md_r5, Option.bind_some, md_si (k := 6) (by decide) (by decide) (by decide) hd, Option.bind_some, md_r6, Option.bind_some, md_si (k := 7) (by decide) (by decide) (by decide) hd, Option.bind_some]
        exact f1
    · exact bad (-14) (by rw [ec, if_neg hx', if_neg hy', if_pos c3, if_neg c4]) (by rw [eM, if_neg hx', if_neg hy', if_pos c3, if_neg c4])
  · exact bad (-1) (by rw [ec, if_neg hx', if_neg hy', if_neg c3]) (by rw [eM, if_neg hx', if_neg hy', if_neg c3])
end SHV
