/-! PURE LEVEL, 21: rows that agree go on alike; mixesMost -/
theorem pl_runK {σ ρ : Type} (L : Nat → σ → Nat → Option ρ) (m : Nat) (I : Nat → σ → Prop) (fin : σ → Option ρ) (hs : ∀ n s k, k < m → I k s → ∃ s', L (n + 1) s k = L n s' (k + 1) ∧ I (k + 1) s') (he : ∀ n s, I m s → L (n + 1) s m = fin s) :
    ∀ (n : Nat) (s : σ) (k : Nat), k ≤ m → m - k < n → I k s → ∃ s', L n s k = fin s' ∧ I m s' := by
  intro n
  induction n with
  | zero => intro s k _ h; omega
  | succ n ih =>
    intro s k hk hn hi
    by_cases hkm : k < m
    · obtain ⟨s', e, h⟩ := hs n s k hkm hi
      rw [e]
      exact ih s' (k + 1) (by omega) (by omega) h
    · have : k = m := by omega
      subst this
      exact ⟨s, he n s hi, hi⟩
theorem fl_inj {a : Nat} {F G : fl_T} {M : ah_h} (h : fl a F M = fl a G M) : F.1 2 = G.1 2 ∧ ∀ k j, 3 ≤ k → k < 9 → j < fl_n k → F.2.2 k j = G.2.2 k j := by
  have e2 : ah_gi (fl a F M) a 2 2 = ah_gi (fl a G M) a 2 2 := by rw [h]
  rw [fl_i2, fl_i2] at e2
  refine ⟨Option.some.inj e2, fun k j h3 h9 hj => ?_⟩
  have e : ah_ai (fl a F M) (a + k) (nI j) = ah_ai (fl a G M) (a + k) (nI j) := by rw [h]
  rw [fl_ai h9 h3 hj, fl_ai h9 h3 hj] at e
  exact Option.some.inj e
theorem sp_mt_kind {S : Nat → Int32} {m i j g1 g2 q : Nat} (h3 : 3 ≤ q) (h13 : q < 13) : sp_mt S m i j g1 g2 q = S q := by
  unfold sp_mt
  rw [sp_sails_out _ _ _ (fun k => by omega), sp_sails_out _ _ _ (fun k => by omega)]
  unfold sp_swap
  rw [pk_un (by omega), pk_un (by omega), pk_un (by omega), pk_un (by omega), pk_un (by omega)]
theorem sp_go_kind {S : Nat → Int32} {n m q : Nat} (x y : Int32) (h3 : 3 ≤ q) (h13 : q < 13) : sp_go S n m x y q = S q := by
  unfold sp_go
  split
  · rfl
  · exact sp_mt_kind h3 h13
theorem sp_go_sq {S T : Nat → Int32} {n m : Nat} (h : rf_S S n m) (e : sq S T) (x y : Int32) : sp_mm T n m x y = sp_mm S n m x y ∧ sq (sp_go S n m x y) (sp_go T n m x y) := by
  obtain ⟨M, F, hr⟩ := rf_ex h
  have hr' := rf_sq hr e
  obtain ⟨F', e1, r1⟩ := fl_step (a := 1) hr (Or.inl rfl) x y
  obtain ⟨F'', e2, r2⟩ := fl_step (a := 1) hr' (Or.inl rfl) x y
  rw [e1] at e2
  have e3 := Option.some.inj e2
  have em : sp_mm S n m x y = sp_mm T n m x y := congrArg Prod.fst e3
  have ef : fl 1 F' M = fl 1 F'' M := congrArg Prod.snd e3
  obtain ⟨f2, fk⟩ := fl_inj ef
  refine ⟨em.symm, fun q hq => ?_⟩
  obtain ⟨hn, hm, a0, a1, -, -⟩ := r1.1
  obtain ⟨-, -, b0, b1, -, -⟩ := r2.1
  by_cases c0 : q = 0
  · subst c0; rw [a0, b0]
  by_cases c1 : q = 1
  · subst c1; rw [a1, b1]
  by_cases c2 : q = 2
  · subst c2; rw [← r1.2.2.2.1, ← r2.2.2.2.1, f2]
  by_cases c13 : q < 13
  · rw [sp_go_kind x y (by omega) c13, sp_go_kind x y (by omega) c13, e q hq]
  · obtain ⟨j, k, hk, rfl⟩ : ∃ j k, k < 5 ∧ q = 13 + 5 * j + k := ⟨(q - 13) / 5, (q - 13) % 5, by omega, by omega⟩
    have hj : j < 12 := by omega
    obtain ⟨u1, u2, u3, u4, u5⟩ := r1.2.2.2.2.2.1 j hj
    obtain ⟨v1, v2, v3, v4, v5⟩ := r2.2.2.2.2.2.1 j hj
    rcases (show k = 0 ∨ k = 1 ∨ k = 2 ∨ k = 3 ∨ k = 4 by omega) with rfl | rfl | rfl | rfl | rfl
    · rw [show 13 + 5 * j + 0 = 13 + 5 * j from rfl, ← u1, ← v1, fk 4 j (by decide) (by decide) hj]
    · rw [← u2, ← v2, fk 5 j (by decide) (by decide) hj]
    · rw [← u3, ← v3, fk 6 j (by decide) (by decide) hj]
    · rw [← u4, ← v4, fk 7 j (by decide) (by decide) hj]
    · rw [← u5, ← v5, fk 8 j (by decide) (by decide) hj]
theorem sp_pairs_congr {P Q : Nat → Nat → Int32 → Int32} {m : Nat} (h : ∀ i j c, i < m → j < m → P i j c = Q i j c) : sp_pairs P m = sp_pairs Q m := by
  unfold sp_pairs
  refine pl_fd_congr (fun s i _ hi => ?_)
  exact pl_fd_congr (fun c j _ hj => h i j c (by omega) (by omega))
theorem sp_mx_sq {S T : Nat → Int32} {m : Nat} (hm : m ≤ 12) (e : sq S T) : sp_pairs (sp_mxP T) m = sp_pairs (sp_mxP S) m := sp_pairs_congr (fun i j c hi hj => by
  unfold sp_mxP
  rw [e _ (by omega), e _ (by omega), e _ (by omega), e _ (by omega)])
/-- a number of pairs is small -/
theorem sp_pairs_small (S : Nat → Int32) {m : Nat} (hm : m ≤ 12) : ∃ c, c ≤ 144 ∧ sp_pairs (sp_mxP S) m = nI c := by
  have inner : ∀ i c0 k c, ∃ q, q ≤ c0 + c ∧ pl_fd (fun x j => sp_mxP S i j x) (nI c0) k c = nI q := by
    intro i c0 k c
    have := pl_fd_inv (f := fun x j => sp_mxP S i j x) (fun j x => ∃ q, q ≤ c0 + (j - k) ∧ x = nI q) (s := nI c0) (k := k) (c := c) ⟨c0, by omega, rfl⟩ (fun x j h1 h2 hx => by
      obtain ⟨q, hq, rfl⟩ := hx
      unfold sp_mxP
      split
      · split
        · exact ⟨q, by omega, rfl⟩
        · exact ⟨q + 1, by omega, nI_1 q⟩
      · exact ⟨q, by omega, rfl⟩)
    obtain ⟨q, hq, e⟩ := this
    exact ⟨q, by omega, e⟩
  have := pl_fd_inv (f := fun c i => pl_fd (fun c j => sp_mxP S i j c) c (i + 1) (m - (i + 1))) (fun i x => ∃ q, q ≤ 12 * i ∧ x = nI q) (s := 0) (k := 0) (c := m) ⟨0, by omega, rfl⟩ (fun x i h1 h2 hx => by
    obtain ⟨q, hq, rfl⟩ := hx
    obtain ⟨r, hr, e⟩ := inner i q (i + 1) (m - (i + 1))
    exact ⟨r, by omega, e⟩)
  obtain ⟨q, hq, e⟩ := this
  exact ⟨q, by omega, e⟩
/-- the best meeting so far -/
def sp_bmS (o : Option (Nat × Nat)) (p c : Nat) : Option (Nat × Nat) := match o with
  | none => some (p, c)
  | some q => if c ≤ q.2 then some q else some (p, c)
def sp_bmF (S : Nat → Int32) (n m i : Nat) (o : Option (Nat × Nat)) (j : Nat) : Option (Nat × Nat) :=
  if sp_mm S n m (nI i) (nI j) = 0 then o else sp_bmS o (10 * i + j) (sp_pairs (sp_mxP (sp_go S n m (nI i) (nI j))) m).toNatClampNeg
def sp_bmO (S : Nat → Int32) (n m : Nat) (o : Option (Nat × Nat)) (i : Nat) : Option (Nat × Nat) := pl_fd (sp_bmF S n m i) o (i + 1) (n - (i + 1))
def sp_bm (o : Option (Nat × Nat)) : Int32 := match o with
  | none => -4
  | some q => nI q.1
def sp_bw (x : Int32) (o : Option (Nat × Nat)) : Int32 := match o with
  | none => x
  | some q => nI q.2
def sp_bmG (o : Option (Nat × Nat)) : Prop := ∀ q, o = some q → q.1 < 2 ^ 20 ∧ q.2 ≤ 144
theorem sp_bmF_G {S : Nat → Int32} {n m i j : Nat} {o : Option (Nat × Nat)} (hm : m ≤ 12) (hi : i < 5) (hj : j < 5) (h : sp_bmG o) : sp_bmG (sp_bmF S n m i o j) := by
  obtain ⟨c, hc, e⟩ := sp_pairs_small (sp_go S n m (nI i) (nI j)) hm
  have g : sp_bmG (some (10 * i + j, (sp_pairs (sp_mxP (sp_go S n m (nI i) (nI j))) m).toNatClampNeg)) := fun q hq => by
    cases hq
    rw [e, nI_clamp (by omega)]
    exact ⟨by show 10 * i + j < 2 ^ 20; omega, hc⟩
  unfold sp_bmF
  split
  · exact h
  · unfold sp_bmS
    cases o with
    | none => exact g
    | some q =>
      dsimp only
      split
      · exact h
      · exact g
section MIX
variable {b a : Nat} {M M0 : ah_h} {τ : md_T} {n m : Nat} {F1 : fl_T}
theorem fr.trans {M' M'' : ah_h} (h : fr b M M') (h' : fr b M' M'') : fr b M M'' := fun q h1 => (h' q h1).trans (h q h1)
/-- the class tries one meeting -/
theorem c_try {N : ah_h} (h : cs b N τ n m F1) (x y : Int32) : ∃ X Y, fX2_become N (b + 10) (b + 1) = some (fl (b + 10) X N) ∧ fX2_holdMeeting (fl (b + 10) X N) (b + 10) x y = some (sp_mm (τ.1 1) n m x y, fl (b + 10) Y N) ∧ rf b N Y (sp_go (τ.1 1) n m x y) n m := by
  obtain ⟨X, eX, rX⟩ := cs_become h
  obtain ⟨Y, e1, e2⟩ := fl_step rX (a := b + 10) (Or.inr (Or.inl rfl)) x y
  exact ⟨X, Y, eX, e1, e2⟩
theorem cs_can (h : cs b M τ n m F1) (x y : Int32) : fX2_canMeet M (b + 1) x y = some (sp_mm (τ.1 1) n m x y) := by
  have e := fl_may (a := b + 1) h.r1 x y
  rw [h.f1] at e
  exact e
theorem c_mixesMost (h : cs b M τ n m F1) : qc (fX10_mixesMost M b) b M τ n m F1 (sp_bm (pl_fd (sp_bmO (τ.1 1) n m) none 0 n)) := by
  have hn := h.r1.1.1
  have hm := h.r1.1.2.1
  unfold fX10_mixesMost
  rw [h.o.ob, Option.bind_some]
  have key := pl_run (fun w (s : ah_h × Option (Nat × Nat)) i => fX10_mixesMost_7 w s.1 b (sp_bm s.2) (sp_bw (-1) s.2) (nI i)) n (fun i s => cs b s.1 τ n m F1 ∧ fr b M s.1 ∧ sp_bmG s.2 ∧ s.2 = pl_fd (sp_bmO (τ.1 1) n m) none 0 i) (fun r => r.1 = sp_bm (pl_fd (sp_bmO (τ.1 1) n m) none 0 n) ∧ cs b r.2 τ n m F1 ∧ fr b M r.2) (fun w s i hi hI => Or.inl ?_) (fun w s hI => ?_) ah_fu (M, none) 0 (by omega) (by unfold ah_fu; omega) ⟨h, fr.rfl', fun q hq => (by cases hq), rfl⟩
  · obtain ⟨r, e1, e2, e3, e4⟩ := key
    refine ⟨r.2, ?_, e3, e4⟩
    rw [← e2]
    exact e1
  · obtain ⟨N, o⟩ := s
    obtain ⟨hc, hf, hg, ho⟩ := hI
    have inner := pl_runK (fun u (s : ah_h × Option (Nat × Nat)) j => fX10_mixesMost_23 (fX10_mixesMost_7 w) u s.1 b (sp_bm s.2) (sp_bw (-1) s.2) (nI i) (nI j)) n (fun j s => cs b s.1 τ n m F1 ∧ fr b M s.1 ∧ sp_bmG s.2 ∧ s.2 = pl_fd (sp_bmF (τ.1 1) n m i) o (i + 1) (j - (i + 1)) ∧ i < j) (fun s => fX10_mixesMost_7 w s.1 b (sp_bm s.2) (sp_bw (-1) s.2) (nI (i + 1))) (fun u s j hj hI => ?_) (fun u s hI => ?_) ah_fu (N, o) (i + 1) (by omega) (by unfold ah_fu; omega) ⟨hc, hf, hg, by dsimp only; rw [Nat.sub_self]; rfl, by omega⟩
    · obtain ⟨s', e1, q1, q2, q3, q4, -⟩ := inner
      refine ⟨s', ?_, q1, q2, q3, ?_⟩
      · show fX10_mixesMost_7_b _ _ _ _ _ _ = _
        unfold fX10_mixesMost_7_b
        rw [hc.o.r0, Option.bind_some, hc.f1.i0, Option.bind_some, hc.r1.2.1, if_neg (nI_ge hi (by omega)), nI_1]
        exact e1
      · rw [pl_fd_snoc, Nat.zero_add, ← ho]
        exact q4
    · obtain ⟨N', o'⟩ := s
      obtain ⟨hc', hf', hg', ho', hij⟩ := hI
      dsimp only at hc' hf' hg' ho'
      have hfold : pl_fd (sp_bmF (τ.1 1) n m i) o (i + 1) (j + 1 - (i + 1)) = sp_bmF (τ.1 1) n m i o' j := by
        rw [show j + 1 - (i + 1) = (j - (i + 1)) + 1 by omega, pl_fd_snoc, ← ho', show i + 1 + (j - (i + 1)) = j by omega]
      obtain ⟨X, Y, eX, eY, rY⟩ := c_try hc' (nI i) (nI j)
      have hcY := cs_mind hc' Y
      have hcX := cs_mind hc' X
      obtain ⟨c, hc144, ec⟩ := sp_pairs_small (sp_go (τ.1 1) n m (nI i) (nI j)) hm
      have hG := sp_bmF_G (S := τ.1 1) (n := n) (m := m) (i := i) (j := j) hm (by omega) (by omega) hg'
      have hmin : ¬ nI j < nI i := fun hh => by rw [nI_ltI (by omega) (by omega)] at hh; omega
      have hmax : nI i < nI j := by rw [nI_ltI (by omega) (by omega)]; omega
      have eb : fX10_mixesMost_23 (fX10_mixesMost_7 w) (u + 1) N' b (sp_bm o') (sp_bw (-1) o') (nI i) (nI j) = if sp_mm (τ.1 1) n m (nI i) (nI j) = 0 then fX10_mixesMost_23 (fX10_mixesMost_7 w) u N' b (sp_bm o') (sp_bw (-1) o') (nI i) (nI (j + 1)) else (if nI c ≤ sp_bw (-1) o' then fX10_mixesMost_23 (fX10_mixesMost_7 w) u (fl (b + 10) Y N') b (sp_bm o') (sp_bw (-1) o') (nI i) (nI (j + 1)) else fX10_mixesMost_23 (fX10_mixesMost_7 w) u (fl (b + 10) Y N') b (nI (10 * i + j)) (nI c) (nI i) (nI (j + 1))) := by
        show fX10_mixesMost_23_b _ _ _ _ _ _ _ _ = _
        unfold fX10_mixesMost_23_b fX10_mixesMost_95 fX10_nameOfMeeting
        rw [hc'.o.r0, Option.bind_some, hc'.f1.i0, Option.bind_some, hc'.r1.2.1, if_neg (nI_ge hj (by omega)), Option.bind_some, cs_can hc', Option.bind_some, hc'.o.r1, Option.bind_some, Option.bind_some, eX, Option.bind_some, hcX.o.r1, Option.bind_some, eY, Option.bind_some]
        dsimp only
        rw [hcY.o.r1, Option.bind_some, fa_mixed fa_fl rY, Option.bind_some, ec, Option.bind_some, nI_1, if_neg hmin, if_pos hmax, show (10 * nI i + nI j : Int32) = nI (10 * i + j) by rw [show (10 : Int32) = nI 10 from rfl, pk_mul, nI_add]]
      have hS : sp_bmF (τ.1 1) n m i o' j = if sp_mm (τ.1 1) n m (nI i) (nI j) = 0 then o' else sp_bmS o' (10 * i + j) c := by
        unfold sp_bmF
        rw [ec, nI_clamp (by omega)]
      by_cases c0 : sp_mm (τ.1 1) n m (nI i) (nI j) = 0
      · rw [if_pos c0] at eb hS
        refine ⟨(N', o'), eb, hc', hf', hg', ?_, by omega⟩
        rw [hfold, hS]
      · rw [if_neg c0] at eb hS
        cases o' with
        | none =>
          rw [if_neg (show ¬ nI c ≤ sp_bw (-1) none from fun hh => by
            rw [Int32.le_iff_toInt_le, nI_toInt (by omega)] at hh
            exact absurd (Int.le_trans (Int.natCast_nonneg c) hh) (by decide))] at eb
          unfold sp_bmS at hS
          dsimp only at hS
          exact ⟨(fl (b + 10) Y N', some (10 * i + j, c)), eb, hcY, hf'.trans (fr_mind Y), by rw [hS] at hG; exact hG, by rw [hfold, hS], by omega⟩
        | some q =>
          have hq := hg' q rfl
          unfold sp_bmS at hS
          dsimp only at hS
          by_cases c1 : c ≤ q.2
          · rw [if_pos (show nI c ≤ sp_bw (-1) (some q) from nI_le c1 (by omega))] at eb
            rw [if_pos c1] at hS
            exact ⟨(fl (b + 10) Y N', some q), eb, hcY, hf'.trans (fr_mind Y), by rw [hS] at hG; exact hG, by rw [hfold, hS], by omega⟩
          · rw [if_neg (show ¬ nI c ≤ sp_bw (-1) (some q) from nI_ge (by omega) (by omega))] at eb
            rw [if_neg c1] at hS
            exact ⟨(fl (b + 10) Y N', some (10 * i + j, c)), eb, hcY, hf'.trans (fr_mind Y), by rw [hS] at hG; exact hG, by rw [hfold, hS], by omega⟩
    · obtain ⟨hc', hf', hg', ho', hij⟩ := hI
      show fX10_mixesMost_23_b _ _ _ _ _ _ _ _ = _
      unfold fX10_mixesMost_23_b
      rw [hc'.o.r0, Option.bind_some, hc'.f1.i0, Option.bind_some, hc'.r1.2.1, if_pos (nI_le (Nat.le_refl _) (by omega)), nI_1]
  · obtain ⟨N, o⟩ := s
    obtain ⟨hc, hf, hg, ho⟩ := hI
    dsimp only at hc hf hg ho
    refine ⟨(sp_bm o, N), ?_, by rw [ho], hc, hf⟩
    show fX10_mixesMost_7_b _ _ _ _ _ _ = _
    unfold fX10_mixesMost_7_b
    rw [hc.o.r0, Option.bind_some, hc.f1.i0, Option.bind_some, hc.r1.2.1, if_pos (nI_le (Nat.le_refl _) (by omega))]
theorem m_mixesMost (hS : rf_S (τ.1 1) n m) : qm (fX11_mixesMost (md a τ M0) a) a M0 τ (sp_bm (pl_fd (sp_bmO (τ.1 1) n m) none 0 n)) := by
  have hn := hS.1
  have hm := hS.2.1
  obtain ⟨τ1, eb, ei, es⟩ := ti_begin (a := a) (M0 := M0) (τ := τ)
  unfold fX11_mixesMost
  rw [md_ob, Option.bind_some, eb, Option.bind_some]
  have te1 : te τ τ1 := ⟨fun q hq => by rw [es], ei.2⟩
  have key := pl_run (fun w (s : md_T × Option (Nat × Nat)) i => fX11_mixesMost_11 w (md a s.1 M0) a (sp_bm s.2) (sp_bw 0 s.2) (nI i)) n (fun i s => ti τ s.1 ∧ te τ s.1 ∧ sp_bmG s.2 ∧ s.2 = pl_fd (sp_bmO (τ.1 1) n m) none 0 i) (fun r => ∃ τ', r = (sp_bm (pl_fd (sp_bmO (τ.1 1) n m) none 0 n), md a τ' M0) ∧ te τ τ') (fun w s i hi hI => Or.inl ?_) (fun w s hI => ?_) ah_fu (τ1, none) 0 (by omega) (by unfold ah_fu; omega) ⟨ei, te1, fun q hq => (by cases hq), rfl⟩
  · obtain ⟨r, e1, τ', e2, e3⟩ := key
    rw [e2] at e1
    exact ⟨τ', e1, e3⟩
  · obtain ⟨σ, o⟩ := s
    obtain ⟨hc, hf, hg, ho⟩ := hI
    dsimp only at hc hf hg ho
    have hSσ := rf_S_sq hS hf.1
    have inner := pl_runK (fun u (s : md_T × Option (Nat × Nat)) j => fX11_mixesMost_26 (fX11_mixesMost_11 w) u (md a s.1 M0) a (sp_bm s.2) (sp_bw 0 s.2) (nI i) (nI j)) n (fun j s => ti τ s.1 ∧ te τ s.1 ∧ sp_bmG s.2 ∧ s.2 = pl_fd (sp_bmF (τ.1 1) n m i) o (i + 1) (j - (i + 1)) ∧ i < j) (fun s => fX11_mixesMost_11 w (md a s.1 M0) a (sp_bm s.2) (sp_bw 0 s.2) (nI (i + 1))) (fun u s j hj hI => ?_) (fun u s hI => ?_) ah_fu (σ, o) (i + 1) (by omega) (by unfold ah_fu; omega) ⟨hc, hf, hg, by dsimp only; rw [Nat.sub_self]; rfl, by omega⟩
    · obtain ⟨s', e1, q1, q2, q3, q4, -⟩ := inner
      refine ⟨s', ?_, q1, q2, q3, ?_⟩
      · show fX11_mixesMost_11_b _ _ _ _ _ _ = _
        unfold fX11_mixesMost_11_b
        rw [md_r0, Option.bind_some, md_s0, Option.bind_some, hSσ.2.2.1, if_neg (nI_ge hi (by omega)), nI_1]
        exact e1
      · rw [pl_fd_snoc, Nat.zero_add, ← ho]
        exact q4
    · obtain ⟨σ', o'⟩ := s
      obtain ⟨hc', hf', hg', ho', hij⟩ := hI
      dsimp only at hc' hf' hg' ho'
      have hSσ' := rf_S_sq hS hf'.1
      have hfold : pl_fd (sp_bmF (τ.1 1) n m i) o (i + 1) (j + 1 - (i + 1)) = sp_bmF (τ.1 1) n m i o' j := by
        rw [show j + 1 - (i + 1) = (j - (i + 1)) + 1 by omega, pl_fd_snoc, ← ho', show i + 1 + (j - (i + 1)) = j by omega]
      obtain ⟨emm, egq⟩ := sp_go_sq hS hf'.1 (nI i) (nI j)
      obtain ⟨c, hc144, ec⟩ := sp_pairs_small (sp_go (τ.1 1) n m (nI i) (nI j)) hm
      have ec' := (sp_mx_sq hm egq).trans ec
      have hG := sp_bmF_G (S := τ.1 1) (n := n) (m := m) (i := i) (j := j) hm (by omega) (by omega) hg'
      have hSp : sp_bmF (τ.1 1) n m i o' j = if sp_mm (τ.1 1) n m (nI i) (nI j) = 0 then o' else sp_bmS o' (10 * i + j) c := by
        unfold sp_bmF
        rw [ec, nI_clamp (by omega)]
      by_cases c0 : sp_mm (τ.1 1) n m (nI i) (nI j) = 0
      · rw [if_pos c0] at hSp
        refine ⟨(σ', o'), ?_, hc', hf', hg', by rw [hfold, hSp], by omega⟩
        show fX11_mixesMost_26_b _ _ _ _ _ _ _ _ = _
        unfold fX11_mixesMost_26_b fX11_mixesMost_91
        rw [md_r0, Option.bind_some, md_s0, Option.bind_some, hSσ'.2.2.1, if_neg (nI_ge hj (by omega)), md_may hSσ', Option.bind_some, emm, if_pos c0, nI_1]
      · have c1 : sp_mm (σ'.1 1) n m (nI i) (nI j) = 1 := by
          rw [emm]
          rcases sp_mm_01 (τ.1 1) n m (nI i) (nI j) with e | e
          · exact absurd e c0
          · exact e
        rw [if_neg c0] at hSp
        have est := md_step (a := a) (M0 := M0) hSσ' c1
        have hti : ti τ (md_V (md_V (md_A σ' 1 (sp_go (σ'.1 1) n m (nI i) (nI j))) 12 (nI (sp_g (σ'.1 1) m (nI i)))) 13 (nI (sp_g (σ'.1 1) m (nI j)))) := ti_V (ti_V (ti_A hc' _) (by decide) _) (by decide) _
        have hrS : rf_S ((md_V (md_V (md_A σ' 1 (sp_go (σ'.1 1) n m (nI i) (nI j))) 12 (nI (sp_g (σ'.1 1) m (nI i)))) 13 (nI (sp_g (σ'.1 1) m (nI j)))).1 1) n m := by
          rw [md_Vf, md_Vf, md_A1]; exact rf_S_go hSσ' _ _
        have hpq : sp_pairs (sp_mxP ((md_V (md_V (md_A σ' 1 (sp_go (σ'.1 1) n m (nI i) (nI j))) 12 (nI (sp_g (σ'.1 1) m (nI i)))) 13 (nI (sp_g (σ'.1 1) m (nI j)))).1 1)) m = nI c := by
          rw [md_Vf, md_Vf, md_A1]; exact ec'
        generalize md_V (md_V (md_A σ' 1 (sp_go (σ'.1 1) n m (nI i) (nI j))) 12 (nI (sp_g (σ'.1 1) m (nI i)))) 13 (nI (sp_g (σ'.1 1) m (nI j))) = ρ at est hti hrS hpq
        obtain ⟨ρ', e1, e2, e3⟩ := ti_end (a := a) (M0 := M0) hti
        have eb : fX11_mixesMost_26 (fX11_mixesMost_11 w) (u + 1) (md a σ' M0) a (sp_bm o') (sp_bw 0 o') (nI i) (nI j) = if sp_bm o' < 0 then fX11_mixesMost_26 (fX11_mixesMost_11 w) u (md a ρ' M0) a (nI (10 * i + j)) (nI c) (nI i) (nI (j + 1)) else if sp_bw 0 o' < nI c then fX11_mixesMost_26 (fX11_mixesMost_11 w) u (md a ρ' M0) a (nI (10 * i + j)) (nI c) (nI i) (nI (j + 1)) else fX11_mixesMost_26 (fX11_mixesMost_11 w) u (md a ρ' M0) a (sp_bm o') (sp_bw 0 o') (nI i) (nI (j + 1)) := by
          show fX11_mixesMost_26_b _ _ _ _ _ _ _ _ = _
          unfold fX11_mixesMost_26_b fX11_mixesMost_80 fX11_mixesMost_91
          rw [md_r0, Option.bind_some, md_s0, Option.bind_some, hSσ'.2.2.1, if_neg (nI_ge hj (by omega)), md_may hSσ', Option.bind_some, if_neg (by rw [c1]; decide), est, Option.bind_some, md_mixed hrS, Option.bind_some, hpq, e1, Option.bind_some, nI_1, show (10 * nI i + nI j : Int32) = nI (10 * i + j) by rw [show (10 : Int32) = nI 10 from rfl, pk_mul, nI_add]]
        cases o' with
        | none =>
          rw [if_pos (show sp_bm none < 0 by decide)] at eb
          unfold sp_bmS at hSp
          dsimp only at hSp
          exact ⟨(ρ', some (10 * i + j, c)), eb, e3, e2, by rw [hSp] at hG; exact hG, by rw [hfold, hSp], by omega⟩
        | some q =>
          have hq := hg' q rfl
          unfold sp_bmS at hSp
          dsimp only at hSp
          rw [if_neg (show ¬ sp_bm (some q) < 0 from nI_pos (by omega))] at eb
          by_cases c2 : c ≤ q.2
          · rw [if_neg (show ¬ sp_bw 0 (some q) < nI c from fun hh => by
              rw [show sp_bw 0 (some q) = nI q.2 from rfl, nI_ltI (by omega) (by omega)] at hh; omega)] at eb
            rw [if_pos c2] at hSp
            exact ⟨(ρ', some q), eb, e3, e2, by rw [hSp] at hG; exact hG, by rw [hfold, hSp], by omega⟩
          · rw [if_pos (show sp_bw 0 (some q) < nI c by rw [show sp_bw 0 (some q) = nI q.2 from rfl, nI_ltI (by omega) (by omega)]; omega)] at eb
            rw [if_neg c2] at hSp
            exact ⟨(ρ', some (10 * i + j, c)), eb, e3, e2, by rw [hSp] at hG; exact hG, by rw [hfold, hSp], by omega⟩
    · obtain ⟨hc', hf', hg', ho', hij⟩ := hI
      have hSσ' := rf_S_sq hS hf'.1
      show fX11_mixesMost_26_b _ _ _ _ _ _ _ _ = _
      unfold fX11_mixesMost_26_b
      rw [md_r0, Option.bind_some, md_s0, Option.bind_some, hSσ'.2.2.1, if_pos (nI_le (Nat.le_refl _) (by omega)), nI_1]
  · obtain ⟨σ, o⟩ := s
    obtain ⟨hc, hf, hg, ho⟩ := hI
    dsimp only at hc hf hg ho
    have hSσ := rf_S_sq hS hf.1
    refine ⟨(sp_bm o, md a σ M0), ?_, σ, by rw [ho], hf⟩
    show fX11_mixesMost_11_b _ _ _ _ _ _ = _
    unfold fX11_mixesMost_11_b
    rw [md_r0, Option.bind_some, md_s0, Option.bind_some, hSσ.2.2.1, if_pos (nI_le (Nat.le_refl _) (by omega))]
end MIX
