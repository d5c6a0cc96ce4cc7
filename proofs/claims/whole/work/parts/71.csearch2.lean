/-! PURE LEVEL, 32: the class's search, its last meeting, its rows of givers, all of it -/
section CSQ
variable {b : Nat} {N N' : ah_h} {F : fl_T} {S : Nat → Int32} {n m k : Nat} {w : Nat → Option Nat}
theorem c_last (hr : rf b N F S n m) (hw : gw b n N w) (h0 : ¬ sp_way n m w 0 S) : ∃ r, fX2_lastMeeting (fl (b + 10) F N) (b + 10) (b + 51) = some (r, fl (b + 10) F N) ∧ (r = -4 ∧ ¬ sp_way n m w 1 S ∨ ∃ i j, sp_fst n m w 0 S i j ∧ r = nI (10 * i + j)) := by
  have hS := hr.1
  have hn := hS.1
  have hm := hS.2.1
  have hb : rf_f b (b + 10) := Or.inr (Or.inl rfl)
  obtain ⟨r, e0, h⟩ := c_firstAstray hr hw
  rcases h with ⟨-, hh⟩ | ⟨g, t, s, rfl, hg, ht, hs, hsn, hne⟩
  · exact absurd hh h0
  have htn : t < n := hw.2.2.2 g t ht
  have e4 : ah_ai (fl (b + 10) F N) (b + 10 + 4) (nI g) = some (nI s) := by
    rw [fl_ai (by decide) (by decide) (show g < 12 by omega), (hr.2.2.2.2.2.1 g (by omega)).1, hs]
  have eW : ah_ai (fl (b + 10) F N) (b + 51) (nI g) = some (nI t) := by
    rw [gw_W hw F (by omega), ht]
    rfl
  unfold fX2_lastMeeting
  rw [fl_ob, Option.bind_some, e0, Option.bind_some, if_pos (nI_pos' (by omega)), fl_r5, Option.bind_some, e4, Option.bind_some, eW, Option.bind_some, fl_may hr, Option.bind_some]
  by_cases c0 : sp_mm S n m (nI s) (nI t) = 0
  · rw [if_pos c0]
    refine ⟨-4, rfl, Or.inl ⟨rfl, ?_⟩⟩
    rintro ⟨i, j, hij, hj, hmm, hww⟩
    rcases (sp_home hS hij hj hmm hww hg ht (by omega) hs (by omega) hne).1 with ⟨rfl, rfl⟩ | ⟨rfl, rfl⟩
    · rw [c0] at hmm; exact absurd hmm (by decide)
    · rw [sp_mm_comm, c0] at hmm; exact absurd hmm (by decide)
  have c1 : sp_mm S n m (nI s) (nI t) = 1 := (sp_mm_01 S n m (nI s) (nI t)).resolve_left c0
  obtain ⟨hst, -, -, g1, g2, v1, v2, l1, l2, s1, s2, hgg, q1, q2, -, ex⟩ := sp_mm_facts hS hsn htn c1
  rw [if_neg c0, rf_giver hr hb hsn, Option.bind_some, v1]
  show ∃ r, (if nI g1 = nI g then _ else _) = some (r, _) ∧ _
  by_cases c2 : g1 = g
  · subst c2
    have eF : ∀ {g : Nat}, g < m → ah_ai (fl (b + 10) F N) (b + 10 + 7) (nI g) = some (F.2.2 7 g) := fun {g} hg => fl_ai (by decide) (by decide) (show g < 12 by omega)
    have hr2 := rf_swap hr hsn htn hst l1 l2 s1 s2
    have ci := hr.2.2.2.2.2.2 s (by omega)
    have cj := hr.2.2.2.2.2.2 t (by omega)
    obtain ⟨r2, f0, f1⟩ := c_firstAstray hr2 hw
    have eT := fl_takeBack (a := b + 10) hr hsn htn hst l1 l2 s1 s2
    rw [if_pos rfl, rf_giver hr hb htn, Option.bind_some, v2]
    show ∃ r, (fX2_isMan (fl (b + 10) F N) (b + 10) (nI g2)).bind _ = some (r, _) ∧ _
    rw [fl_isMan hr.2.2.1, Option.bind_some, sp_is_in (by omega) l2, if_neg (by decide), fl_r8, Option.bind_some, eF l1, Option.bind_some, Option.bind_some]
    show ∃ r, (ah_ai (fl (b + 10) F N) (b + 10 + 7) (nI g2)).bind _ = some (r, _) ∧ _
    rw [eF l2, Option.bind_some]
    show ∃ r, (fX2_exchange (fl (b + 10) F N) (b + 10) (nI s) (nI t) (nI g1) (nI g2)).bind _ = some (r, _) ∧ _
    rw [fl_exchange hr.2.2.1 hm l1 l2 (by omega) (by omega) hst ci cj, Option.bind_some, f0, Option.bind_some]
    unfold fX2_lastMeeting_107
    show ∃ r, (if 0 ≤ r2 then (fX2_takeBack _ _ (nI s) (nI t) (nI g1) (nI g2) _ _).bind _ else (fX2_takeBack _ _ (nI s) (nI t) (nI g1) (nI g2) _ _).bind _) = some (r, _) ∧ _
    rw [eT, Option.bind_some, Option.bind_some, if_pos rfl, if_neg (show ¬ (1 : Int32) = 0 by decide)]
    rcases f1 with ⟨rfl, hh⟩ | ⟨g', t', s', rfl, hg', ht', hs', hsn', hne'⟩
    · rw [if_neg (by decide)]
      rw [← ex] at hh
      by_cases hlt : s < t
      · rw [(c_name hlt (by omega) _).1, Option.bind_some]
        refine ⟨_, rfl, Or.inr ⟨s, t, ⟨hlt, htn, c1, hh, fun i' j' a1 a2 a3 a4 a5 => ?_⟩, rfl⟩⟩
        rcases (sp_home hS a1 a2 a4 a5 hg ht (by omega) hs (by omega) hne).1 with ⟨rfl, rfl⟩ | ⟨rfl, rfl⟩ <;> omega
      · have hlt' : t < s := by omega
        rw [(c_name hlt' (by omega) _).2, Option.bind_some]
        refine ⟨_, rfl, Or.inr ⟨t, s, ⟨hlt', hsn, by rw [sp_mm_comm]; exact c1, ?_, fun i' j' a1 a2 a3 a4 a5 => ?_⟩, rfl⟩⟩
        · unfold sp_xs
          rw [q1, q2, sp_swap_comm S t s (Ne.symm hgg), ← ex]
          exact hh
        · rcases (sp_home hS a1 a2 a4 a5 hg ht (by omega) hs (by omega) hne).1 with ⟨rfl, rfl⟩ | ⟨rfl, rfl⟩ <;> omega
    · rw [if_pos (nI_pos' (by omega))]
      refine ⟨-4, rfl, Or.inl ⟨rfl, ?_⟩⟩
      have hnot : ¬ sp_way n m w 0 (sp_xs S m s t) := fun hh => by
        have := hh g' t' hg' ht'
        rw [ex, hs'] at this
        have h5 := hw.2.2.2 g' t' ht'
        exact hne' ((nI_eq (by omega) (by omega)).mp this)
      rintro ⟨i, j, hij, hj, hmm, hww⟩
      rcases (sp_home hS hij hj hmm hww hg ht (by omega) hs (by omega) hne).1 with ⟨rfl, rfl⟩ | ⟨rfl, rfl⟩
      · exact hnot hww
      · refine hnot ?_
        unfold sp_xs at hww
        rw [q1, q2, sp_swap_comm S i j (Ne.symm hgg), ← ex] at hww
        exact hww
  · rw [if_neg (fun q => c2 ((nI_eq (by omega) (by omega)).mp q))]
    refine ⟨-4, rfl, Or.inl ⟨rfl, ?_⟩⟩
    rintro ⟨i, j, hij, hj, hmm, hww⟩
    have := (sp_home hS hij hj hmm hww hg ht (by omega) hs (by omega) hne).2
    rw [q1] at this
    exact c2 this
/-- the givers, as a row -/
def sp_gr (S : Nat → Int32) (n m i : Nat) : Int32 := if i < n then sp_I (sp_gv S m i) else -4
theorem c_giver5 (hr : rf b N F S n m) {i : Nat} (hi : i < 5) : fX2_giver (fl (b + 10) F N) (b + 10) (nI i) = some (sp_gr S n m i) := by
  have hn := hr.1.1
  unfold sp_gr
  by_cases c : i < n
  · rw [if_pos c]
    exact rf_giver hr (Or.inr (Or.inl rfl)) c
  · rw [if_neg c]
    unfold fX2_giver
    have : sp_is n (nI i) = 0 := by
      unfold sp_is
      rw [if_neg (nI_pos (by omega)), if_pos (nI_le (by omega) (by omega))]
    rw [fl_ob, Option.bind_some, fl_isShip hr.2.1, Option.bind_some, if_pos this]
theorem c_fill5 (hr : rf b N F S n m) {q : Nat} (hq : q < 5) {f : Nat → Int32} (hf : N (b + 46 + q) = some (ah_I 5 f)) : ∃ G, fX2_fillGivers (fl (b + 10) F N) (b + 10) (b + 46 + q) = some (fl (b + 10) F (ah_up N (b + 46 + q) (ah_I 5 G))) ∧ ∀ i, i < 5 → G i = sp_gr S n m i := by
  unfold fX2_fillGivers
  rw [fl_ob, Option.bind_some]
  have key := pl_run (fun v (G : Nat → Int32) k => fX2_fillGivers_2 v (fl (b + 10) F (ah_up N (b + 46 + q) (ah_I 5 G))) (b + 10) (b + 46 + q) (nI k)) 5 (fun k G => ∀ i, i < k → G i = sp_gr S n m i) (fun r => ∃ G, r = fl (b + 10) F (ah_up N (b + 46 + q) (ah_I 5 G)) ∧ ∀ i, i < 5 → G i = sp_gr S n m i) ?_ ?_ ah_fu f 0 (by omega) (by decide) (fun i hi => by omega)
  · obtain ⟨r, e, G, rfl, h1⟩ := key
    refine ⟨G, ?_, h1⟩
    rw [← e]
    show _ = fX2_fillGivers_2 ah_fu (fl (b + 10) F (ah_up N (b + 46 + q) (ah_I 5 f))) _ _ _
    rw [ah_up_at hf]
    rfl
  · intro v G k hk hG
    refine Or.inl ⟨upd G k (sp_gr S n m k), ?_, fun i hi => ?_⟩
    · have hr' : rf b (ah_up N (b + 46 + q) (ah_I 5 G)) F S n m := rf_keep hr (fun c hc => ah_up_ne _ _ (by unfold rf_a at hc; omega))
      have hat : fl (b + 10) F (ah_up N (b + 46 + q) (ah_I 5 G)) (b + 46 + q) = some (ah_I 5 G) := by rw [fl_out (by omega), ah_up_self]
      show fX2_fillGivers_2_b _ _ _ _ _ = _
      unfold fX2_fillGivers_2_b
      rw [if_neg (pl_n5 hk), ah_al_at hat, Option.bind_some, if_neg (nI_ge hk (by decide)), c_giver5 hr' hk, Option.bind_some, ah_si_at hat hk (by decide), Option.bind_some, nI_1, fl_up_out (by omega), ah_up_up]
    · by_cases e : i = k
      · subst e; rw [pk_us]
      · rw [pk_un e]; exact hG i (by omega)
  · intro v G hG
    refine ⟨_, ?_, G, rfl, hG⟩
    show fX2_fillGivers_2_b _ _ _ _ _ = _
    unfold fX2_fillGivers_2_b
    rw [if_pos (by decide)]
theorem sp_gr_cases (hS : rf_S S n m) {i : Nat} (hi : i < n) : (sp_gr S n m i < 0 ∧ sp_cw S (nI i) m = 0) ∨ ∃ g, sp_gr S n m i = nI g ∧ g < 12 ∧ sp_gv S m i = some g ∧ sp_cw S (nI i) m ≠ 0 := by
  have hm := hS.2.1
  unfold sp_gr
  rw [if_pos hi]
  by_cases c : sp_cw S (nI i) m = 0
  · refine Or.inl ⟨?_, c⟩
    unfold sp_gv
    rw [c, sp_gift_0]
    decide
  · obtain ⟨g, h1, h2, -⟩ := sp_gv_some hS hi c
    exact Or.inr ⟨g, by rw [h1]; rfl, by omega, h1, c⟩
theorem sp_mm_of (hn : n ≤ 5) {i j : Nat} (hi : i < n) (hj : j < n) (hij : i ≠ j) (ci : sp_cw S (nI i) m ≠ 0) (cj : sp_cw S (nI j) m ≠ 0) : sp_mm S n m (nI i) (nI j) = 1 := by
  unfold sp_mm
  rw [sp_is_in (by omega) hi, sp_is_in (by omega) hj, if_neg (by decide), if_neg (by decide), if_neg (fun q => hij ((nI_eq (by omega) (by omega)).mp q)), if_neg ci, if_neg cj]
/-- what a search of k + 1 meetings answers -/
def cr (n m : Nat) (w : Nat → Option Nat) (k : Nat) (S : Nat → Int32) (r : Int32) : Prop := r = -4 ∧ ¬ sp_way n m w (k + 1) S ∨ ∃ i j, sp_fst n m w k S i j ∧ r = nI (10 * i + j)
theorem c_search (k : Nat) : ∀ (f : Nat) (N : ah_h) (F : fl_T) (S : Nat → Int32), k + 1 ≤ 4 → k + 1 < f → rf b N F S n m → gw b n N w → (∀ j, j ≤ k → ¬ sp_way n m w j S) → ∃ r N', fX10_firstOfWay_r f (fl (b + 10) F N) (b + 10) (b + 45) (b + 51) (nI (k + 1)) = some (r, fl (b + 10) F N') ∧ gn b (k + 1) N N' ∧ cr n m w k S r := by
  induction k with
  | zero =>
    intro f N F S _ hf hr hw hno
    obtain ⟨f, rfl⟩ : ∃ f', f = f' + 1 := ⟨f - 1, by omega⟩
    obtain ⟨r, e1, e2⟩ := c_last hr hw (hno 0 (Nat.le_refl _))
    obtain ⟨fr, h1, -⟩ := hw.1
    have eL : ah_alr (fl (b + 10) F N) (b + 45) 4 = some 5 := by
      unfold ah_alr
      rw [fl_out (by omega), h1]
      rfl
    refine ⟨r, N, ?_, hw.rfl', e2⟩
    show fX10_firstOfWay_s _ _ _ _ _ _ = _
    unfold fX10_firstOfWay_s
    rw [if_neg (by decide), eL, Option.bind_some, if_pos (by decide), if_pos (by decide), e1, Option.bind_some]
  | succ k ih =>
    intro f N F S hk4 hf hr hw hno
    obtain ⟨f, rfl⟩ : ∃ f', f = f' + 1 := ⟨f - 1, by omega⟩
    have hS := hr.1
    have hn := hS.1
    have hm := hS.2.1
    obtain ⟨fr, h1, h2⟩ := hw.1
    have eL : ah_alr (fl (b + 10) F N) (b + 45) 4 = some (nI 5) := by
      unfold ah_alr
      rw [fl_out (by omega), h1]
      rfl
    have eR : ah_ar (fl (b + 10) F N) (b + 45) 4 (nI (k + 1 + 1)) = some (b + 46 + (k + 1 + 1)) := by
      unfold ah_ar
      rw [fl_out (by omega), h1]
      show (if 4 = 4 ∧ ah_in (nI (k + 1 + 1)) 5 = true then fr (nI (k + 1 + 1)).toNatClampNeg else none) = _
      rw [if_pos ⟨rfl, pl_in (by omega) (by decide)⟩, nI_clamp (by omega), h2 _ (by omega)]
    have head : ∀ X, (sp_ast S w m ≤ 2 * (k + 1 + 1) → (fX2_fillGivers (fl (b + 10) F N) (b + 10) (b + 46 + (k + 1 + 1))).bind (fun v9 => fX10_firstOfWay_53 (fX10_firstOfWay_r f) ah_fu v9 (b + 10) (b + 45) (b + 51) (nI (k + 1 + 1)) (b + 46 + (k + 1 + 1)) 0) = some X) → (¬ sp_ast S w m ≤ 2 * (k + 1 + 1) → X = (-4, fl (b + 10) F N)) → fX10_firstOfWay_r (f + 1) (fl (b + 10) F N) (b + 10) (b + 45) (b + 51) (nI (k + 1 + 1)) = some X := fun X hX1 hX2 => by
      show fX10_firstOfWay_s _ _ _ _ _ _ = _
      unfold fX10_firstOfWay_s
      have ha : sp_ast S w m ≤ 12 := by
        have : ∀ m, sp_ast S w m ≤ m := fun m => by
          induction m with
          | zero => exact Nat.le_refl _
          | succ m ihm =>
            rw [sp_ast_succ]
            have : (sp_as S w m).toNat ≤ 1 := Bool.toNat_le _
            omega
        have := this m
        omega
      rw [if_neg (show ¬ nI (k + 1 + 1) < 1 from nI_nlt (b := 1) (by omega) (by omega)), eL, Option.bind_some, if_pos (nI_lt (by omega) (by decide)), if_neg (show ¬ nI (k + 1 + 1) = 1 from fun q => absurd ((nI_eq (b := 1) (by omega) (by decide)).mp q) (by omega)), c_astray hr hw, Option.bind_some, show (2 * nI (k + 1 + 1) : Int32) = nI (2 * (k + 1 + 1)) by rw [show (2 : Int32) = nI 2 from rfl, pk_mul], eR, Option.bind_some]
      by_cases c : sp_ast S w m ≤ 2 * (k + 1 + 1)
      · rw [if_pos (nI_le c (by omega))]
        exact hX1 c
      · rw [if_neg (nI_ge (by omega) (by omega)), hX2 c]
    by_cases c : sp_ast S w m ≤ 2 * (k + 1 + 1)
    case neg =>
      refine ⟨-4, N, head _ (fun q => absurd q c) (fun _ => rfl), hw.rfl', Or.inl ⟨rfl, fun hh => c (sp_ast_way _ hS hh)⟩⟩
    obtain ⟨f0, hf0⟩ := hw.2.1 (k + 1 + 1) (by omega)
    obtain ⟨G, eG, hG⟩ := c_fill5 hr (show k + 1 + 1 < 5 by omega) hf0
    -- the state of the loops
    obtain ⟨gi, hgi⟩ : ∃ gi : ah_h → Prop, gi = fun N' => gn b (k + 1 + 1) N N' ∧ N' (b + 46 + (k + 1 + 1)) = some (ah_I 5 G) := ⟨_, rfl⟩
    have gi0 : gi (ah_up N (b + 46 + (k + 1 + 1)) (ah_I 5 G)) := by
      rw [hgi]
      refine ⟨⟨fun q hq => ah_up_ne _ _ (by omega), fun i hi => ?_⟩, ah_up_self _ _ _⟩
      by_cases e : i = k + 1 + 1
      · subst e; exact ⟨G, ah_up_self _ _ _⟩
      · rw [ah_up_ne _ _ (by omega)]; exact hw.2.1 i hi
    have inner : ∀ (k53 : ah_h → Nat → Nat → Nat → Int32 → Nat → Int32 → Option (Int32 × ah_h)) (i : Nat), i < n → ∀ (v j : Nat) (N' : ah_h), i < j → j ≤ n → n - j < v → gi N' → sp_np n m w (k + 1) S i j → ∃ N'', gi N'' ∧ ((fX10_firstOfWay_68 (fX10_firstOfWay_r f) k53 v (fl (b + 10) F N') (b + 10) (b + 45) (b + 51) (nI (k + 1 + 1)) (b + 46 + (k + 1 + 1)) (nI i) (nI j) = k53 (fl (b + 10) F N'') (b + 10) (b + 45) (b + 51) (nI (k + 1 + 1)) (b + 46 + (k + 1 + 1)) (nI (i + 1)) ∧ sp_np n m w (k + 1) S i n) ∨ ∃ j', sp_fst n m w (k + 1) S i j' ∧ fX10_firstOfWay_68 (fX10_firstOfWay_r f) k53 v (fl (b + 10) F N') (b + 10) (b + 45) (b + 51) (nI (k + 1 + 1)) (b + 46 + (k + 1 + 1)) (nI i) (nI j) = some (nI (10 * i + j'), fl (b + 10) F N'')) := by
      intro k53 i hi v
      induction v with
      | zero => intro j N' _ _ h; omega
      | succ v ihv =>
        intro j N' hij hjn hv hg hnp
        have hg' := hg
        rw [hgi] at hg'
        obtain ⟨hgn, hrow⟩ := hg'
        have hr' : rf b N' F S n m := rf_gn hr (by omega) hgn
        have hw' : gw b n N' w := gw_gn hw (by omega) hgn
        by_cases hj : j < n
        case neg =>
          have : j = n := by omega
          subst this
          refine ⟨N', hg, Or.inl ⟨?_, hnp⟩⟩
          show fX10_firstOfWay_68_b _ _ _ _ _ _ _ _ _ _ _ = _
          unfold fX10_firstOfWay_68_b
          rw [fl_i0, Option.bind_some, hr'.2.1, if_pos (nI_le (Nat.le_refl _) (by omega)), nI_1]
        have eG1 : ∀ (F : fl_T) {N2 : ah_h} {q : Nat}, N2 (b + 46 + (k + 1 + 1)) = some (ah_I 5 G) → q < 5 → ah_ai (fl (b + 10) F N2) (b + 46 + (k + 1 + 1)) (nI q) = some (sp_gr S n m q) := fun F {N2} {q} hh hq => by
          rw [ah_ai_at (f := G) (by rw [fl_out (by omega)]; exact hh) hq (by decide), hG q hq]
        have next : (sp_mm S n m (nI i) (nI j) = 1 → ¬ sp_way n m w (k + 1) (sp_xs S m i j)) → ∀ N2, gi N2 → ∃ N'', gi N'' ∧ ((fX10_firstOfWay_68 (fX10_firstOfWay_r f) k53 v (fl (b + 10) F N2) (b + 10) (b + 45) (b + 51) (nI (k + 1 + 1)) (b + 46 + (k + 1 + 1)) (nI i) (nI (j + 1)) = k53 (fl (b + 10) F N'') (b + 10) (b + 45) (b + 51) (nI (k + 1 + 1)) (b + 46 + (k + 1 + 1)) (nI (i + 1)) ∧ sp_np n m w (k + 1) S i n) ∨ ∃ j', sp_fst n m w (k + 1) S i j' ∧ fX10_firstOfWay_68 (fX10_firstOfWay_r f) k53 v (fl (b + 10) F N2) (b + 10) (b + 45) (b + 51) (nI (k + 1 + 1)) (b + 46 + (k + 1 + 1)) (nI i) (nI (j + 1)) = some (nI (10 * i + j'), fl (b + 10) F N'')) := fun hh N2 hg2 => ihv (j + 1) N2 (by omega) (by omega) (by omega) hg2 (sp_np_step hnp hh)
        have unf : fX10_firstOfWay_68 (fX10_firstOfWay_r f) k53 (v + 1) (fl (b + 10) F N') (b + 10) (b + 45) (b + 51) (nI (k + 1 + 1)) (b + 46 + (k + 1 + 1)) (nI i) (nI j) = fX10_firstOfWay_68_b (fX10_firstOfWay_r f) k53 (fX10_firstOfWay_68 (fX10_firstOfWay_r f) k53 v) (fl (b + 10) F N') (b + 10) (b + 45) (b + 51) (nI (k + 1 + 1)) (b + 46 + (k + 1 + 1)) (nI i) (nI j) := rfl
        rw [unf]
        unfold fX10_firstOfWay_68_b fX10_firstOfWay_183
        rw [fl_i0, Option.bind_some, hr'.2.1, if_neg (nI_ge hj (by omega)), eG1 F hrow (by omega), Option.bind_some, nI_1]
        rcases sp_gr_cases hS hi with ⟨c1, c2⟩ | ⟨g1, c1, c2, c3, c4⟩
        · rw [if_pos c1]
          exact next (fun hh => absurd c2 (sp_mm_facts hS hi hj hh).2.1) N' hg
        rw [c1, if_neg (nI_pos (by omega)), eG1 F hrow (by omega), Option.bind_some]
        rcases sp_gr_cases hS hj with ⟨d1, d2⟩ | ⟨g2, d1, d2, d3, d4⟩
        · rw [if_pos d1]
          exact next (fun hh => absurd d2 (sp_mm_facts hS hi hj hh).2.2.1) N' hg
        have c5 : sp_mm S n m (nI i) (nI j) = 1 := sp_mm_of hn hi hj (by omega) c4 d4
        obtain ⟨hne, -, -, g1', g2', v1, v2, l1, l2, s1, s2, hgg, q1, q2, -, ex⟩ := sp_mm_facts hS hi hj c5
        have : g1 = g1' := Option.some.inj (c3.symm.trans v1)
        subst this
        have : g2 = g2' := Option.some.inj (d3.symm.trans v2)
        subst this
        have eF : ∀ {g : Nat}, g < m → ah_ai (fl (b + 10) F N') (b + 10 + 7) (nI g) = some (F.2.2 7 g) := fun {g} hg => fl_ai (by decide) (by decide) (show g < 12 by omega)
        have hr2 := rf_swap hr' hi hj hne l1 l2 s1 s2
        have ci := hr'.2.2.2.2.2.2 i (by omega)
        have cj := hr'.2.2.2.2.2.2 j (by omega)
        obtain ⟨r, N2, er, hn2, hcr⟩ := ih f N' _ (sp_xs S m i j) (by omega) (by omega) (by rw [ex]; exact hr2) hw' (fun j' hj' hh => hno (j' + 1) (by omega) ⟨i, j, hij, hj, c5, hh⟩)
        have hrow2 : N2 (b + 46 + (k + 1 + 1)) = some (ah_I 5 G) := by rw [hn2.1 _ (by omega)]; exact hrow
        have hg2 : gi N2 := by
          rw [hgi]
          exact ⟨⟨fun q hq => (hn2.1 q (by omega)).trans (hgn.1 q hq), hn2.2⟩, hrow2⟩
        have hr3 : rf b N2 F S n m := rf_gn hr' (by omega) hn2
        have eT := fl_takeBack (a := b + 10) hr3 hi hj hne l1 l2 s1 s2
        rw [d1, if_neg (nI_pos (by omega))]
        simp only [fl_r8, Option.bind_some, eF l1, eF l2]
        rw [fl_exchange hr'.2.2.1 hm l1 l2 (by omega) (by omega) hne ci cj, Option.bind_some, nI_pred, er, Option.bind_some]
        dsimp only
        rw [eG1 _ hrow2 (by omega), Option.bind_some, c1, eG1 _ hrow2 (by omega), Option.bind_some, d1, eT, Option.bind_some]
        rcases hcr with ⟨rfl, hno2⟩ | ⟨i2, j2, hf2, rfl⟩
        · rw [if_pos rfl]
          exact next (fun _ => hno2) N2 hg2
        · have hb2 : 10 * i2 + j2 < 100 := by have := hf2.1; have := hf2.2.1; omega
          rw [if_neg (sp_name_ne hb2), (c_name hij (by omega) _).1, Option.bind_some]
          exact ⟨N2, hg2, Or.inr ⟨j, ⟨hij, hj, c5, sp_fst_way hf2, hnp⟩, rfl⟩⟩
    have outer : ∀ (v i : Nat) (N' : ah_h), i ≤ n → n - i < v → gi N' → sp_np n m w (k + 1) S i (i + 1) → ∃ r N'', fX10_firstOfWay_53 (fX10_firstOfWay_r f) v (fl (b + 10) F N') (b + 10) (b + 45) (b + 51) (nI (k + 1 + 1)) (b + 46 + (k + 1 + 1)) (nI i) = some (r, fl (b + 10) F N'') ∧ gi N'' ∧ cr n m w (k + 1) S r := by
      intro v
      induction v with
      | zero => intro i N' _ h; omega
      | succ v ihv =>
        intro i N' hin hv hg hnp
        have hg' := hg
        rw [hgi] at hg'
        have hr' : rf b N' F S n m := rf_gn hr (by omega) hg'.1
        by_cases hi : i < n
        · obtain ⟨N'', h1, h2⟩ := inner (fX10_firstOfWay_53 (fX10_firstOfWay_r f) v) i hi ah_fu (i + 1) N' (by omega) (by omega) (by unfold ah_fu; omega) hg hnp
          have e0 : fX10_firstOfWay_53 (fX10_firstOfWay_r f) (v + 1) (fl (b + 10) F N') (b + 10) (b + 45) (b + 51) (nI (k + 1 + 1)) (b + 46 + (k + 1 + 1)) (nI i) = fX10_firstOfWay_68 (fX10_firstOfWay_r f) (fX10_firstOfWay_53 (fX10_firstOfWay_r f) v) ah_fu (fl (b + 10) F N') (b + 10) (b + 45) (b + 51) (nI (k + 1 + 1)) (b + 46 + (k + 1 + 1)) (nI i) (nI (i + 1)) := by
            show fX10_firstOfWay_53_b _ _ _ _ _ _ _ _ _ = _
            unfold fX10_firstOfWay_53_b
            rw [fl_i0, Option.bind_some, hr'.2.1, if_neg (nI_ge hi (by omega)), nI_1]
          rw [e0]
          rcases h2 with ⟨q1, q2⟩ | ⟨j', q1, q2⟩
          · rw [q1]
            exact ihv (i + 1) N'' (by omega) (by omega) h1 (sp_np_row q2)
          · exact ⟨_, N'', q2, h1, Or.inr ⟨i, j', q1, rfl⟩⟩
        · have : i = n := by omega
          subst this
          refine ⟨-4, N', ?_, hg, Or.inl ⟨rfl, sp_np_end hnp⟩⟩
          show fX10_firstOfWay_53_b _ _ _ _ _ _ _ _ _ = _
          unfold fX10_firstOfWay_53_b
          rw [fl_i0, Option.bind_some, hr'.2.1, if_pos (nI_le (Nat.le_refl _) (by omega))]
    obtain ⟨r, N'', e1, e2, e3⟩ := outer ah_fu 0 _ (by omega) (by unfold ah_fu; omega) gi0 sp_np_0
    rw [hgi] at e2
    exact ⟨r, N'', head _ (fun _ => by rw [eG, Option.bind_some]; exact e1) (fun q => absurd c q), e2.1, e3⟩
end CSQ
