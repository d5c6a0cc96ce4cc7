/-! PURE LEVEL, 31: the class's search -/
theorem ah_ai_at {M : ah_h} {a n i : Nat} {f : Nat → Int32} (h : M a = some (ah_I n f)) (hi : i < n) (hn : n < 2 ^ 31) : ah_ai M a (nI i) = some (f i) := by
  unfold ah_ai
  rw [h]
  show (if ah_in (nI i) n = true then some (f (nI i).toNatClampNeg) else none) = _
  rw [if_pos (pl_in hi hn), nI_clamp (by omega)]
theorem ah_al_at {M : ah_h} {a n : Nat} {f : Nat → Int32} (h : M a = some (ah_I n f)) : ah_al M a = some (nI n) := by
  unfold ah_al
  rw [h]
  rfl
theorem fl_up_out {a q : Nat} {F : fl_T} {N : ah_h} {e : ah_c} (h : q < a ∨ a + 9 ≤ q ∨ q = a + 2) : ah_up (fl a F N) q e = fl a F (ah_up N q e) := by
  funext x
  by_cases hx : x = q
  · subst hx
    rw [ah_up_self, fl_out h, ah_up_self]
  · rw [ah_up_ne _ _ hx]
    unfold fl
    rw [ah_up_ne _ _ hx]
theorem fl_ext {F G : fl_T} (h1 : ∀ k, F.1 k = G.1 k) (h2 : F.2.1 = G.2.1) (h3 : ∀ k x, F.2.2 k x = G.2.2 k x) : F = G := Prod.ext (funext h1) (Prod.ext h2 (funext fun k => funext (h3 k)))
def sp_W (o : Option Nat) : Int32 := match o with
  | none => -1
  | some i => nI i
/-- what the search looks at beside the mind -/
def gw (b n : Nat) (N : ah_h) (w : Nat → Option Nat) : Prop := (∃ f, N (b + 45) = some (ah_R 4 5 f) ∧ ∀ i, i < 5 → f i = some (b + 46 + i)) ∧ (∀ i, i < 5 → ∃ f, N (b + 46 + i) = some (ah_I 5 f)) ∧ (∃ W, N (b + 51) = some (ah_I 12 W) ∧ ∀ g, g < 12 → W g = sp_W (w g)) ∧ ∀ g i, w g = some i → i < n
/-- rows up to k may have changed -/
def gn (b k : Nat) (N N' : ah_h) : Prop := (∀ q, q < b + 46 ∨ b + 46 + k < q → N' q = N q) ∧ ∀ i, i < 5 → ∃ f, N' (b + 46 + i) = some (ah_I 5 f)
section CSR
variable {b : Nat} {N N' : ah_h} {F : fl_T} {S : Nat → Int32} {n m k : Nat} {w : Nat → Option Nat}
theorem gw_gn (h : gw b n N w) (hk : k ≤ 4) (hn : gn b k N N') : gw b n N' w := by
  obtain ⟨⟨f, h1, h2⟩, h3, ⟨W, h4, h5⟩, h6⟩ := h
  exact ⟨⟨f, by rw [hn.1 _ (by omega)]; exact h1, h2⟩, hn.2, ⟨W, by rw [hn.1 _ (by omega)]; exact h4, h5⟩, h6⟩
theorem rf_gn (h : rf b N F S n m) (hk : k ≤ 4) (hn : gn b k N N') : rf b N' F S n m := rf_keep h (fun c hc => hn.1 c (by unfold rf_a at hc; omega))
theorem gn.trans {N'' : ah_h} {j : Nat} (h : gn b j N N') (h' : gn b k N' N'') (hj : j ≤ k) : gn b k N N'' := ⟨fun q hq => (h'.1 q hq).trans (h.1 q (by omega)), h'.2⟩
theorem gn.up {j : Nat} (h : gn b j N N') (hj : j ≤ k) : gn b k N N' := ⟨fun q hq => h.1 q (by omega), h.2⟩
theorem gw.rfl' (h : gw b n N w) : gn b k N N := ⟨fun _ _ => rfl, h.2.1⟩
theorem gw_W (h : gw b n N w) (F : fl_T) {g : Nat} (hg : g < 12) : ah_ai (fl (b + 10) F N) (b + 51) (nI g) = some (sp_W (w g)) := by
  obtain ⟨-, -, ⟨W, h4, h5⟩, -⟩ := h
  rw [ah_ai_at (f := W) (by rw [fl_out (by omega)]; exact h4) hg (by decide), h5 g hg]
theorem c_isAstray (hr : rf b N F S n m) (hw : gw b n N w) {g : Nat} (hg : g < m) : fX2_isAstray (fl (b + 10) F N) (b + 10) (nI g) (b + 51) = some (if sp_as S w g = true then 1 else 0) := by
  have hm := hr.1.2.1
  have hn := hr.1.1
  obtain ⟨-, -, ⟨W, h4, h5⟩, h6⟩ := id hw
  have e4 : ah_ai (fl (b + 10) F N) (b + 10 + 4) (nI g) = some (S (13 + 5 * g)) := by
    rw [fl_ai (by decide) (by decide) (show g < 12 by omega), (hr.2.2.2.2.2.1 g (by omega)).1]
  unfold fX2_isAstray
  rw [fl_ob, Option.bind_some, ah_al_at (n := 12) (f := W) (by rw [fl_out (by omega)]; exact h4), Option.bind_some, if_neg (nI_ge (by omega) (by decide)), gw_W hw F (by omega), Option.bind_some, Option.bind_some, fl_r5, Option.bind_some, e4, Option.bind_some]
  unfold sp_as sp_W
  cases e : w g with
  | none => rfl
  | some i =>
    have hi := h6 g i e
    dsimp only
    rw [if_neg (fun q : nI i = -1 => by
      have := nI_pos (n := i) (by omega)
      rw [q] at this
      exact this (by decide))]
    by_cases c : S (13 + 5 * g) = nI i
    · rw [if_pos c.symm]; simp [c]
    · rw [if_neg (Ne.symm c)]; simp [c]
theorem sp_as_0 (h : ∀ g, g < m → sp_as S w g = false) : sp_way n m w 0 S := fun g i hg hi => by
  have := h g hg
  unfold sp_as at this
  rw [hi] at this
  simpa using this
theorem sp_as_1 (hS : rf_S S n m) {g : Nat} (hg : g < m) (h : sp_as S w g = true) : ∃ t s, w g = some t ∧ S (13 + 5 * g) = nI s ∧ s < n ∧ s ≠ t := by
  unfold sp_as at h
  cases e : w g with
  | none => rw [e] at h; cases h
  | some i =>
    rw [e] at h
    obtain ⟨s, h1, h2⟩ := hS.2.2.2.2.2 g hg
    refine ⟨i, s, rfl, h2, h1, fun q => ?_⟩
    rw [q] at h2
    simp [h2] at h
theorem c_firstAstray (hr : rf b N F S n m) (hw : gw b n N w) : ∃ r, fX2_firstAstray (fl (b + 10) F N) (b + 10) (b + 51) = some r ∧ (r = -4 ∧ sp_way n m w 0 S ∨ ∃ g t s, r = nI g ∧ g < m ∧ w g = some t ∧ S (13 + 5 * g) = nI s ∧ s < n ∧ s ≠ t) := by
  have hm := hr.1.2.1
  unfold fX2_firstAstray
  rw [fl_ob, Option.bind_some]
  refine pl_run (fun f (_ : Unit) k => fX2_firstAstray_2 (fl (b + 10) F N) f (b + 10) (b + 51) (nI k)) m (fun k _ => ∀ g, g < k → sp_as S w g = false) (fun r => r = -4 ∧ sp_way n m w 0 S ∨ ∃ g t s, r = nI g ∧ g < m ∧ w g = some t ∧ S (13 + 5 * g) = nI s ∧ s < n ∧ s ≠ t) ?_ ?_ ah_fu () 0 (by omega) (by unfold ah_fu; omega) (fun g hg => by omega)
  · intro f _ k hk hI
    have step : fX2_firstAstray_2 (fl (b + 10) F N) (f + 1) (b + 10) (b + 51) (nI k) = if sp_as S w k = true then some (nI k) else fX2_firstAstray_2 (fl (b + 10) F N) f (b + 10) (b + 51) (nI (k + 1)) := by
      show fX2_firstAstray_2_b _ _ _ _ _ = _
      unfold fX2_firstAstray_2_b
      rw [fl_i1, Option.bind_some, hr.2.2.1, if_neg (nI_ge hk (by omega)), c_isAstray hr hw hk, Option.bind_some, nI_1]
      cases sp_as S w k <;> rfl
    show (∃ s' : Unit, fX2_firstAstray_2 (fl (b + 10) F N) (f + 1) (b + 10) (b + 51) (nI k) = _ ∧ _) ∨ ∃ r, fX2_firstAstray_2 (fl (b + 10) F N) (f + 1) (b + 10) (b + 51) (nI k) = some r ∧ _
    rw [step]
    by_cases c : sp_as S w k = true
    · rw [if_pos c]
      obtain ⟨t, s, q⟩ := sp_as_1 hr.1 hk c
      exact Or.inr ⟨nI k, rfl, Or.inr ⟨k, t, s, rfl, hk, q⟩⟩
    · rw [if_neg c]
      refine Or.inl ⟨(), rfl, fun g hg => ?_⟩
      by_cases e : g = k
      · subst e; simpa using c
      · exact hI g (by omega)
  · intro f _ hI
    refine ⟨-4, ?_, Or.inl ⟨rfl, sp_as_0 hI⟩⟩
    show fX2_firstAstray_2_b _ _ _ _ _ = _
    unfold fX2_firstAstray_2_b
    rw [fl_i1, Option.bind_some, hr.2.2.1, if_pos (nI_le (Nat.le_refl _) (by omega))]
theorem c_astray (hr : rf b N F S n m) (hw : gw b n N w) : fX2_astray (fl (b + 10) F N) (b + 10) (b + 51) = some (nI (sp_ast S w m)) := by
  have hm := hr.1.2.1
  unfold fX2_astray
  rw [fl_ob, Option.bind_some]
  have := pl_loop (fun f (c : Nat) k => fX2_astray_4 (fl (b + 10) F N) f (b + 10) (b + 51) (nI c) (nI k)) m (fun c g => c + (sp_as S w g).toNat) (fun c => nI c) (fun _ _ => True) ?_ (fun _ _ _ _ => trivial) ?_ ah_fu 0 0 (by omega) (by unfold ah_fu; omega) trivial
  · exact this
  · intro f c k hk _
    show fX2_astray_4_b _ _ _ _ _ _ = _
    unfold fX2_astray_4_b fX2_astray_24
    rw [fl_i1, Option.bind_some, hr.2.2.1, if_neg (nI_ge hk (by omega)), c_isAstray hr hw hk, Option.bind_some, nI_1, nI_1]
    cases sp_as S w k <;> rfl
  · intro f c _
    show fX2_astray_4_b _ _ _ _ _ _ = _
    unfold fX2_astray_4_b
    rw [fl_i1, Option.bind_some, hr.2.2.1, if_pos (nI_le (Nat.le_refl _) (by omega))]
theorem pl_back {wi wj g1 g2 : Nat} (h1 : wi < 2 ^ 12) (hg1 : g1 < 12) (hg2 : g2 < 12) (t1 : wi.testBit g1 = true) (t2 : wi.testBit g2 = false) : pl_clr ((pl_clr wi g1 ||| 2 ^ g2) ||| 2 ^ g1) g2 = wi := by
  have b1 : pl_clr wi g1 < 2 ^ 12 := Nat.lt_of_le_of_lt (pl_clr_le _ _) h1
  have b2 := pl_or_lt (pl_or_lt b1 hg2) hg1
  apply Nat.eq_of_testBit_eq
  intro q
  rw [pl_clr_tb (by omega) (by omega), pl_or_tb, pl_or_tb, pl_clr_tb (by omega) (by omega)]
  by_cases c1 : q = g1
  · subst c1
    have : q ≠ g2 := fun e => by subst e; rw [t1] at t2; cases t2
    simp [t1, this]
  · by_cases c2 : q = g2
    · subst c2; simp [t2]
    · simp [c1, c2, Ne.symm c1, Ne.symm c2]
theorem pl_back' {wj g1 g2 : Nat} (h1 : wj < 2 ^ 12) (hg1 : g1 < 12) (hg2 : g2 < 12) (t1 : wj.testBit g1 = false) (t2 : wj.testBit g2 = true) : pl_clr (pl_clr (wj ||| 2 ^ g1) g2) g1 ||| 2 ^ g2 = wj := by
  have b1 := pl_or_lt h1 hg1
  have b2 : pl_clr (wj ||| 2 ^ g1) g2 < 2 ^ 12 := Nat.lt_of_le_of_lt (pl_clr_le _ _) b1
  apply Nat.eq_of_testBit_eq
  intro q
  rw [pl_or_tb, pl_clr_tb (by omega) (by omega), pl_clr_tb (by omega) (by omega), pl_or_tb]
  by_cases c1 : q = g1
  · subst c1
    have : q ≠ g2 := fun e => by subst e; rw [t1] at t2; cases t2
    simp [t1, Ne.symm this]
  · by_cases c2 : q = g2
    · subst c2; simp [t2]
    · simp [c1, c2, Ne.symm c1, Ne.symm c2]
theorem fl_takeBack {a : Nat} (hr : rf b N F S n m) {i j g1 g2 : Nat} (hi : i < n) (hj : j < n) (hij : i ≠ j) (hg1 : g1 < m) (hg2 : g2 < m) (e1 : S (13 + 5 * g1) = nI i) (e2 : S (13 + 5 * g2) = nI j) : fX2_takeBack (fl a (fl_sw F i j g1 g2 (sp_cw S (nI i) m) (sp_cw S (nI j) m)) N) a (nI i) (nI j) (nI g1) (nI g2) (F.2.2 7 g1) (F.2.2 7 g2) = some (fl a F N) := by
  obtain ⟨⟨hn, hm, k0, k1, k2, k3⟩, h2, h3, h4, h5, h6, h7⟩ := hr
  have nij : ¬ nI i = nI j := fun e => hij ((nI_eq (by omega) (by omega)).mp e)
  have hgg : g1 ≠ g2 := fun e => by
    rw [e, e2] at e1
    exact nij e1.symm
  have wi12 : sp_cw S (nI i) m < 2 ^ 12 := sp_cw_12 hm
  have wj12 : sp_cw S (nI j) m < 2 ^ 12 := sp_cw_12 hm
  have ti1 : (sp_cw S (nI i) m).testBit g1 = true := by rw [sp_cw_tb]; simp [hg1, e1]
  have ti2 : (sp_cw S (nI i) m).testBit g2 = false := by rw [sp_cw_tb]; simp [e2, Ne.symm nij]
  have tj1 : (sp_cw S (nI j) m).testBit g1 = false := by rw [sp_cw_tb]; simp [e1, nij]
  have tj2 : (sp_cw S (nI j) m).testBit g2 = true := by rw [sp_cw_tb]; simp [hg2, e2]
  have ci := h7 i (by omega)
  have cj := h7 j (by omega)
  have a1 : F.2.2 4 g1 = nI i := (h6 g1 (by omega)).1.trans e1
  have a2 : F.2.2 4 g2 = nI j := (h6 g2 (by omega)).1.trans e2
  generalize sp_cw S (nI i) m = wi at *
  generalize sp_cw S (nI j) m = wj at *
  have hg1' : g1 < fl_n 7 := by show g1 < 12; omega
  have hg2' : g2 < fl_n 7 := by show g2 < 12; omega
  unfold fX2_takeBack
  rw [fl_ob, Option.bind_some]
  rw [fl_bring (by omega) (by omega) (by omega) (Ne.symm hij) (wi := pl_clr (wj ||| 2 ^ g1) g2) (wj := pl_clr wi g1 ||| 2 ^ g2) (show upd (upd (upd (upd (F.2.2 3) i _) j _) j _) i _ j = _ by rw [pk_un (Ne.symm hij), pk_us]) (show upd _ i _ i = _ by rw [pk_us]), Option.bind_some]
  rw [fl_bring (by omega) (by omega) (by omega) hij (wi := (pl_clr wi g1 ||| 2 ^ g2) ||| 2 ^ g1) (wj := pl_clr (pl_clr (wj ||| 2 ^ g1) g2) g1) (show upd (upd _ j _) i _ i = _ by rw [pk_us]) (show upd (upd _ j _) i _ j = _ by rw [pk_un (Ne.symm hij), pk_us]), Option.bind_some]
  rw [fl_i2, Option.bind_some, fl_p2, Option.bind_some, fl_r8, Option.bind_some, fl_si (by decide) (by decide) hg1', Option.bind_some, fl_r8, Option.bind_some, fl_si (by decide) (by decide) hg2', Option.bind_some]
  rw [pl_back (wj := wj) wi12 (by omega) (by omega) ti1 ti2, pl_back' wj12 (by omega) (by omega) tj1 tj2]
  refine congrArg (fun X => some (fl a X N)) (fl_ext (fun k => ?_) rfl (fun k x => ?_))
  · show (if k = 2 then (F.1 2 + 1) - 1 else if k = 2 then F.1 2 + 1 else F.1 k) = F.1 k
    by_cases c : k = 2
    · rw [if_pos c, c]; simp
    · rw [if_neg c, if_neg c]
  · by_cases c7 : k = 7
    · subst c7
      show upd (upd (upd (upd (F.2.2 7) g1 _) g2 _) g1 (F.2.2 7 g1)) g2 (F.2.2 7 g2) x = F.2.2 7 x
      by_cases x2 : x = g2
      · rw [x2, pk_us]
      by_cases x1 : x = g1
      · rw [x1, pk_un hgg, pk_us]
      rw [pk_un x2, pk_un x1, pk_un x2, pk_un x1]
    by_cases c4 : k = 4
    · subst c4
      show upd (upd (upd (upd (F.2.2 4) g1 _) g2 _) g1 (nI i)) g2 (nI j) x = F.2.2 4 x
      by_cases x2 : x = g2
      · rw [x2, pk_us, a2]
      by_cases x1 : x = g1
      · rw [x1, pk_un hgg, pk_us, a1]
      rw [pk_un x2, pk_un x1, pk_un x2, pk_un x1]
    by_cases c3 : k = 3
    · subst c3
      show upd (upd (upd (upd (upd (upd (upd (upd (F.2.2 3) i _) j _) j _) i _) j _) i _) i (nI wi)) j (nI wj) x = F.2.2 3 x
      by_cases x2 : x = j
      · rw [x2, pk_us, cj]
      by_cases x1 : x = i
      · rw [x1, pk_un hij, pk_us, ci]
      rw [pk_un x2, pk_un x1, pk_un x1, pk_un x2, pk_un x1, pk_un x2, pk_un x2, pk_un x1]
    · show (if k = 7 then _ else if k = 7 then _ else if k = 4 then _ else if k = 3 then _ else if k = 4 then _ else if k = 3 then _ else if k = 7 then _ else if k = 4 then _ else if k = 3 then _ else F.2.2 k) x = F.2.2 k x
      simp only [c7, c4, c3, if_false]
theorem c_name {i j : Nat} (h : i < j) (hj : j < 5) (M : ah_h) : fX10_nameOfMeeting M (nI i) (nI j) = some (nI (10 * i + j)) ∧ fX10_nameOfMeeting M (nI j) (nI i) = some (nI (10 * i + j)) := by
  unfold fX10_nameOfMeeting
  rw [if_neg (nI_nlt (Nat.le_of_lt h) (by omega)), if_pos (nI_lt h (by omega)), if_pos (nI_lt h (by omega)), if_neg (nI_nlt (Nat.le_of_lt h) (by omega)), show (10 : Int32) = nI 10 from rfl, pk_mul, nI_add]
  exact ⟨rfl, rfl⟩
theorem sp_name_ne {i : Nat} (h : i < 100) : ¬ nI i = -4 := fun q => by
  have := nI_pos (n := i) (by omega)
  rw [q] at this
  exact this (by decide)
end CSR
