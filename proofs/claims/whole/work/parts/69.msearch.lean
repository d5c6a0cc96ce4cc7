/-! PURE LEVEL, 30: the reference's search -/
/-- where the reference wants each man -/
def mw (τ : md_T) (n m : Nat) (w : Nat → Option Nat) : Prop := ∀ g, g < m → match w g with
  | none => τ.1 14 g < 0
  | some i => i < n ∧ τ.1 14 g = nI i
/-- what a search leaves as it was -/
def tb (d : Nat) (τ τ' : md_T) : Prop := sq (τ.1 1) (τ'.1 1) ∧ tf τ τ' ∧ τ'.1 14 = τ.1 14 ∧ ∀ q, q < 73 * d → τ'.1 13 q = τ.1 13 q
/-- within a search that began at τ -/
def gd (d : Nat) (τ τ' : md_T) : Prop := tb d τ τ' ∧ (∀ q, q < 73 → τ'.1 13 (73 * d + q) = τ.1 1 q) ∧ τ'.2.2 21 = τ.2.2 21
section MS
variable {a : Nat} {M0 : ah_h} {τ : md_T} {n m : Nat} {w : Nat → Option Nat}
theorem md_isWanted (h : rf_S (τ.1 1) n m) (hw : mw τ n m w) : ∃ r, fX11_isWanted (md a τ M0) a = some r ∧ (r = 0 ∧ ¬ sp_way n m w 0 (τ.1 1) ∨ r = 1 ∧ sp_way n m w 0 (τ.1 1)) := by
  obtain ⟨hn, hm, h0, h1, h2, h3⟩ := h
  unfold fX11_isWanted
  rw [md_ob, Option.bind_some]
  refine pl_run (fun f (_ : Unit) k => fX11_isWanted_2 (md a τ M0) f a (nI k)) m (fun k _ => ∀ g i, g < k → w g = some i → τ.1 1 (13 + 5 * g) = nI i) (fun r => r = 0 ∧ ¬ sp_way n m w 0 (τ.1 1) ∨ r = 1 ∧ sp_way n m w 0 (τ.1 1)) ?_ ?_ ah_fu () 0 (by omega) (by unfold ah_fu; omega) (fun g i hg => by omega)
  · intro f _ k hk hI
    have e14 : ah_ai (md a τ M0) (a + 14) (nI k) = some (τ.1 14 k) := md_ai (k := 14) (by decide) (by decide) (by decide) (show k < 12 by omega)
    have hwk := hw k hk
    have step : fX11_isWanted_2 (md a τ M0) (f + 1) a (nI k) = if τ.1 14 k < 0 then fX11_isWanted_2 (md a τ M0) f a (nI (k + 1)) else if τ.1 1 (13 + 5 * k) = τ.1 14 k then fX11_isWanted_2 (md a τ M0) f a (nI (k + 1)) else some 0 := by
      show fX11_isWanted_2_b _ _ _ _ = _
      unfold fX11_isWanted_2_b fX11_isWanted_38
      rw [md_r0, Option.bind_some, md_s1, Option.bind_some, h1, if_neg (nI_ge hk (by omega)), md_r22, Option.bind_some, e14, Option.bind_some, md_get0 (by omega), Option.bind_some, Option.bind_some, e14, Option.bind_some, nI_1]
    show (∃ s' : Unit, fX11_isWanted_2 (md a τ M0) (f + 1) a (nI k) = _ ∧ _) ∨ ∃ r, fX11_isWanted_2 (md a τ M0) (f + 1) a (nI k) = some r ∧ _
    rw [step]
    cases e : w k with
    | none =>
      rw [e] at hwk
      rw [if_pos hwk]
      refine Or.inl ⟨(), rfl, fun g i hg hi => ?_⟩
      by_cases eg : g = k
      · subst eg; rw [e] at hi; cases hi
      · exact hI g i (by omega) hi
    | some i =>
      rw [e] at hwk
      obtain ⟨hi, hwk⟩ := hwk
      rw [hwk, if_neg (nI_pos (by omega))]
      by_cases c : τ.1 1 (13 + 5 * k) = nI i
      · rw [if_pos c]
        refine Or.inl ⟨(), rfl, fun g i' hg hi' => ?_⟩
        by_cases eg : g = k
        · subst eg; rw [e] at hi'; cases hi'; exact c
        · exact hI g i' (by omega) hi'
      · rw [if_neg c]
        exact Or.inr ⟨0, rfl, Or.inl ⟨rfl, fun hh => c (hh k i hk e)⟩⟩
  · intro f _ hI
    refine ⟨1, ?_, Or.inr ⟨rfl, hI⟩⟩
    show fX11_isWanted_2_b _ _ _ _ = _
    unfold fX11_isWanted_2_b
    rw [md_r0, Option.bind_some, md_s1, Option.bind_some, h1, if_pos (nI_le (Nat.le_refl _) (by omega))]
theorem md_ix73 (d q : Nat) : (73 * nI d + nI q : Int32) = nI (73 * d + q) := by rw [show (73 : Int32) = nI 73 from rfl, pk_mul, nI_add]
theorem md_keeps {d : Nat} (hd : d < 5) : ∃ g, fX11_keeps (md a τ M0) a (nI d) = some (md a (md_A τ 13 g) M0) ∧ (∀ q, q < 73 → g (73 * d + q) = τ.1 1 q) ∧ ∀ q, q < 73 * d → g q = τ.1 13 q := by
  unfold fX11_keeps
  rw [md_ob, Option.bind_some]
  have key := pl_run (fun f (g : Nat → Int32) j => fX11_keeps_2 f (md a (md_A τ 13 g) M0) a (nI d) (nI j)) 73 (fun j g => (∀ q, q < j → g (73 * d + q) = τ.1 1 q) ∧ ∀ q, q < 73 * d → g q = τ.1 13 q) (fun r => ∃ g, r = md a (md_A τ 13 g) M0 ∧ (∀ q, q < 73 → g (73 * d + q) = τ.1 1 q) ∧ ∀ q, q < 73 * d → g q = τ.1 13 q) ?_ ?_ ah_fu (τ.1 13) 0 (by omega) (by decide) ⟨fun j hj => absurd hj (Nat.not_lt_zero _), fun _ _ => rfl⟩
  · obtain ⟨r, e1, g, er, e2⟩ := key
    rw [md_Aself, er] at e1
    exact ⟨g, e1, e2⟩
  · rintro f g j hj ⟨h1, h2⟩
    refine Or.inl ⟨upd g (73 * d + j) (τ.1 1 j), ?_, fun q hq => ?_, fun q hq => ?_⟩
    · show fX11_keeps_2_b _ _ _ _ _ = _
      unfold fX11_keeps_2_b
      rw [if_neg (pl_nle (x := 73) 73 rfl hj (by decide)), md_r20, Option.bind_some, md_r0, Option.bind_some, md_s hj, Option.bind_some, md_ix73, md_si (k := 13) (by decide) (by decide) (by decide) (show 73 * d + j < 365 by omega), Option.bind_some, md_AA, md_A1, nI_1]
      rfl
    · by_cases e : q = j
      · subst e; rw [pk_us]
      · rw [pk_un (by omega)]; exact h1 q (by omega)
    · rw [pk_un (by omega)]; exact h2 q hq
  · rintro f g ⟨h1, h2⟩
    refine ⟨_, ?_, g, rfl, h1, h2⟩
    show fX11_keeps_2_b _ _ _ _ _ = _
    unfold fX11_keeps_2_b
    rw [if_pos (pl_le (x := 73) 73 rfl (Nat.le_refl _) (by decide))]
theorem md_back {d : Nat} (hd : d < 5) : ∃ g, fX11_back (md a τ M0) a (nI d) = some (md a (md_A τ 1 g) M0) ∧ ∀ q, q < 73 → g q = τ.1 13 (73 * d + q) := by
  unfold fX11_back
  rw [md_ob, Option.bind_some]
  have key := pl_run (fun f (g : Nat → Int32) j => fX11_back_2 f (md a (md_A τ 1 g) M0) a (nI d) (nI j)) 73 (fun j g => ∀ q, q < j → g q = τ.1 13 (73 * d + q)) (fun r => ∃ g, r = md a (md_A τ 1 g) M0 ∧ ∀ q, q < 73 → g q = τ.1 13 (73 * d + q)) ?_ ?_ ah_fu (τ.1 1) 0 (by omega) (by decide) (fun j hj => absurd hj (Nat.not_lt_zero _))
  · obtain ⟨r, e1, g, er, e2⟩ := key
    rw [md_Aself, er] at e1
    exact ⟨g, e1, e2⟩
  · rintro f g j hj h1
    refine Or.inl ⟨upd g j (τ.1 13 (73 * d + j)), ?_, fun q hq => ?_⟩
    · show fX11_back_2_b _ _ _ _ _ = _
      unfold fX11_back_2_b
      rw [if_neg (pl_nle (x := 73) 73 rfl hj (by decide)), md_r0, Option.bind_some, md_r20, Option.bind_some, md_ix73, md_ai (k := 13) (by decide) (by decide) (by decide) (show 73 * d + j < 365 by omega), Option.bind_some, md_si (k := 1) (by decide) (by decide) (by decide) (show j < 73 from hj), Option.bind_some, md_AA, md_A1, nI_1]
      rfl
    · by_cases e : q = j
      · subst e; rw [pk_us]
      · rw [pk_un e]; exact h1 q (by omega)
  · rintro f g h1
    refine ⟨_, ?_, g, rfl, h1⟩
    show fX11_back_2_b _ _ _ _ _ = _
    unfold fX11_back_2_b
    rw [if_pos (pl_le (x := 73) 73 rfl (Nat.le_refl _) (by decide))]
theorem mw_of {τ' : md_T} (h : mw τ n m w) (e : τ'.1 14 = τ.1 14) : mw τ' n m w := by
  unfold mw
  rw [e]
  exact h
/-- the end of a search of k + 1 meetings from the row S -/
def me (d : Nat) (n m : Nat) (w : Nat → Option Nat) (k : Nat) (S : Nat → Int32) (τ τ' : md_T) : Prop := ∃ i j, sp_fst n m w k S i j ∧ tb d τ τ' ∧ (d ≠ 0 → τ'.2.2 21 = τ.2.2 21) ∧ (d = 0 → τ'.2.2 21 = nI (10 * i + j))
/-- what a search answers -/
def mr (d : Nat) (n m : Nat) (w : Nat → Option Nat) (left : Nat) (S : Nat → Int32) (τ τ' : md_T) (r : Int32) : Prop :=
  (r = 0 ∧ ¬ sp_way n m w left S ∧ tb d τ τ' ∧ τ'.2.2 21 = τ.2.2 21) ∨ (r = 1 ∧ sp_way n m w left S ∧ tb d τ τ' ∧ (d ≠ 0 → τ'.2.2 21 = τ.2.2 21) ∧ (left = 0 → τ'.2.2 21 = τ.2.2 21) ∧ (d = 0 → ∀ k, left = k + 1 → ∃ i j, sp_fst n m w k S i j ∧ τ'.2.2 21 = nI (10 * i + j)))
theorem md_search (left : Nat) : ∀ (d f : Nat) (τ : md_T) (S : Nat → Int32), d + left ≤ 5 → left < f → rf_S (τ.1 1) n m → sx S (τ.1 1) → mw τ n m w → ∃ r τ', fX11_comesBy_r f (md a τ M0) a (nI d) (nI left) = some (r, md a τ' M0) ∧ mr d n m w left S τ τ' r := by
  induction left with
  | zero =>
    intro d f τ S hd hf hr hx hw
    obtain ⟨f, rfl⟩ : ∃ f', f = f' + 1 := ⟨f - 1, by omega⟩
    obtain ⟨r, e1, e2⟩ := md_isWanted (a := a) (M0 := M0) hr hw
    have hS := rf_S_sx hr hx.symm
    refine ⟨r, τ, ?_, ?_⟩
    · show fX11_comesBy_s _ _ _ _ _ = _
      unfold fX11_comesBy_s
      rw [md_ob, Option.bind_some, if_pos nI_0, e1, Option.bind_some, if_pos (by rcases e2 with ⟨q, -⟩ | ⟨q, -⟩ <;> rw [q] <;> simp)]
    · have tt : tb d τ τ := ⟨fun _ _ => rfl, tf.rfl', rfl, fun _ _ => rfl⟩
      rcases e2 with ⟨q1, q2⟩ | ⟨q1, q2⟩
      · exact Or.inl ⟨q1, fun hh => q2 ((sp_way_iff 0 hS hx).mpr hh), tt, rfl⟩
      · exact Or.inr ⟨q1, (sp_way_iff 0 hS hx).mp q2, tt, fun _ => rfl, fun _ => rfl, fun _ k hk => by omega⟩
  | succ k ih =>
    intro d f τ S hd hf hr hx hw
    obtain ⟨f, rfl⟩ : ∃ f', f = f' + 1 := ⟨f - 1, by omega⟩
    have hS := rf_S_sx hr hx.symm
    have hn := hr.1
    obtain ⟨g0, ek, ek1, ek2⟩ := md_keeps (a := a) (τ := τ) (M0 := M0) (d := d) (by omega)
    have gd0 : gd d τ (md_A τ 13 g0) := ⟨⟨fun _ _ => rfl, ⟨fun _ _ => rfl, fun k h1 h2 => by simp [md_A, show k ≠ 13 by omega], rfl⟩, rfl, fun q hq => by rw [md_A1]; exact ek2 q hq⟩, fun q hq => by rw [md_A1]; exact ek1 q hq, rfl⟩
    -- with the flag up, both loops end
    have up19 : ∀ (v : Nat) (τ' : md_T) (i : Int32), fX11_comesBy_19 (fX11_comesBy_r f) (v + 1) (md a τ' M0) a (nI d) (nI (k + 1)) 1 i = some (1, md a τ' M0) := fun v τ' i => by
      show fX11_comesBy_19_b _ _ _ _ _ _ _ _ = _
      unfold fX11_comesBy_19_b
      rw [md_r0, Option.bind_some, md_s0, Option.bind_some, if_neg (show ¬ (1 : Int32) = 0 by decide), if_pos (show (1 : Int32) = 0 ∨ (1 : Int32) = 1 from Or.inr rfl)]
      split <;> rfl
    have up40 : ∀ (v : Nat) (k19 : ah_h → Nat → Int32 → Int32 → Int32 → Int32 → Option (Int32 × ah_h)) (τ' : md_T) (i j : Int32), fX11_comesBy_40 (fX11_comesBy_r f) k19 (v + 1) (md a τ' M0) a (nI d) (nI (k + 1)) 1 i j = k19 (md a τ' M0) a (nI d) (nI (k + 1)) 1 (i + 1) := fun v k19 τ' i j => by
      show fX11_comesBy_40_b _ _ _ _ _ _ _ _ _ _ = _
      unfold fX11_comesBy_40_b fX11_comesBy_119
      rw [md_r0, Option.bind_some, md_s0, Option.bind_some, if_neg (show ¬ (1 : Int32) = 0 by decide)]
      split <;> rfl
    have inner : ∀ (v : Nat) (k19 : ah_h → Nat → Int32 → Int32 → Int32 → Int32 → Option (Int32 × ah_h)) (i : Nat), i < n → ∀ (j : Nat) (τ' : md_T), i < j → j ≤ n → n - j + 1 < v → gd d τ τ' → sp_np n m w k S i j → ∃ τ'' x3, fX11_comesBy_40 (fX11_comesBy_r f) k19 v (md a τ' M0) a (nI d) (nI (k + 1)) 0 (nI i) (nI j) = k19 (md a τ'' M0) a (nI d) (nI (k + 1)) x3 (nI (i + 1)) ∧ (x3 = 0 ∧ gd d τ τ'' ∧ sp_np n m w k S i n ∨ x3 = 1 ∧ me d n m w k S τ τ'') := by
      intro v k19 i hi
      induction v with
      | zero => intro j τ' _ _ h; omega
      | succ v ihv =>
        intro j τ' hij hjn hv hg hnp
        obtain ⟨⟨g1, g2, g3, g4⟩, g5, g6⟩ := id hg
        have hr' : rf_S (τ'.1 1) n m := rf_S_sq hr g1
        have hx' : sx S (τ'.1 1) := hx.trans (sx_of_sq g1)
        by_cases hj : j < n
        · have emm := sp_mm_sx (n := n) hr.2.1 hx' (nI i) (nI j)
          rw [show m = m from rfl] at emm
          have step : fX11_comesBy_40 (fX11_comesBy_r f) k19 (v + 1) (md a τ' M0) a (nI d) (nI (k + 1)) 0 (nI i) (nI j) = if sp_mm S n m (nI i) (nI j) = 0 then fX11_comesBy_40 (fX11_comesBy_r f) k19 v (md a τ' M0) a (nI d) (nI (k + 1)) 0 (nI i) (nI (j + 1)) else ((fX11_meets (md a τ' M0) a (nI i) (nI j)).bind fun v8 => (ah_ob v8 a 11).bind fun q11 => (fX11_comesBy_r f v8 a (nI (d + 1)) (nI k)).bind fun v10 => (fX11_back v10.2 a (nI d)).bind fun v12 => if v10.1 = 0 then fX11_comesBy_40 (fX11_comesBy_r f) k19 v v12 a (nI d) (nI (k + 1)) v10.1 (nI i) (nI (j + 1)) else (if nI d = 0 then ((ah_pf v12 a 11 21 (.int ((10 * nI i) + nI j))).bind fun M16 => fX11_comesBy_40 (fX11_comesBy_r f) k19 v M16 a (nI d) (nI (k + 1)) v10.1 (nI i) (nI (j + 1))) else fX11_comesBy_40 (fX11_comesBy_r f) k19 v v12 a (nI d) (nI (k + 1)) v10.1 (nI i) (nI (j + 1)))) := by
            show fX11_comesBy_40_b _ _ _ _ _ _ _ _ _ _ = _
            unfold fX11_comesBy_40_b fX11_comesBy_113
            rw [md_r0, Option.bind_some, md_s0, Option.bind_some, hr'.2.2.1, if_neg (nI_ge hj (by omega)), if_pos rfl, md_may hr', Option.bind_some, emm, nI_1, nI_1, nI_pred]
          rw [step]
          by_cases c0 : sp_mm S n m (nI i) (nI j) = 0
          · rw [if_pos c0]
            exact ihv (j + 1) τ' (by omega) (by omega) (by omega) hg (sp_np_step hnp (fun hh => by rw [c0] at hh; exact absurd hh (by decide)))
          rw [if_neg c0]
          have c1 : sp_mm S n m (nI i) (nI j) = 1 := (sp_mm_01 S n m (nI i) (nI j)).resolve_left c0
          rw [md_step hr' (emm.trans c1), Option.bind_some, md_ob, Option.bind_some]
          generalize hτ1 : md_V (md_V (md_A τ' 1 (sp_go (τ'.1 1) n m (nI i) (nI j))) 12 (nI (sp_g (τ'.1 1) m (nI i)))) 13 (nI (sp_g (τ'.1 1) m (nI j))) = τ1
          have t1 : τ1.1 1 = sp_go (τ'.1 1) n m (nI i) (nI j) := by rw [← hτ1, md_Vf, md_Vf, md_A1]
          have t14 : τ1.1 14 = τ'.1 14 := by rw [← hτ1]; rfl
          have t13 : τ1.1 13 = τ'.1 13 := by rw [← hτ1]; rfl
          have t21 : τ1.2.2 21 = τ'.2.2 21 := by rw [← hτ1, md_Vn _ _ (by decide), md_Vn _ _ (by decide)]; rfl
          have ttf : tf τ' τ1 := by rw [← hτ1]; exact tf_V (tf_V (tf_A τ' _) (by decide) _) (by decide) _
          obtain ⟨r, τ2, er, hmr⟩ := ih (d + 1) f τ1 (sp_xs S m i j) (by omega) (by omega) (by rw [t1]; exact rf_S_go hr' _ _) (by rw [t1]; exact sp_go_sx hS hx' hi hj c1) (mw_of hw (t14.trans g3))
          rw [er, Option.bind_some]
          dsimp only
          obtain ⟨gb, eb, eb1⟩ := md_back (a := a) (τ := τ2) (M0 := M0) (d := d) (by omega)
          rw [eb, Option.bind_some]
          have hrr : (r = 0 ∧ ¬ sp_way n m w k (sp_xs S m i j) ∨ r = 1 ∧ sp_way n m w k (sp_xs S m i j)) ∧ tb (d + 1) τ1 τ2 ∧ τ2.2.2 21 = τ1.2.2 21 := by
            rcases hmr with ⟨q1, q2, q3, q4⟩ | ⟨q1, q2, q3, q4, -⟩
            · exact ⟨Or.inl ⟨q1, q2⟩, q3, q4⟩
            · exact ⟨Or.inr ⟨q1, q2⟩, q3, q4 (by omega)⟩
          obtain ⟨hr01, ⟨-, u2, u3, u4⟩, u5⟩ := hrr
          have gd3 : gd d τ (md_A τ2 1 gb) := by
            refine ⟨⟨fun q hq => ?_, ?_, ?_, fun q hq => ?_⟩, fun q hq => ?_, ?_⟩
            · rw [md_A1, eb1 q hq, u4 _ (by omega), t13, g5 q hq]
            · exact (g2.trans ttf).trans (u2.trans (tf_A τ2 gb))
            · show τ2.1 14 = _
              rw [u3, t14, g3]
            · show τ2.1 13 q = _
              rw [u4 q (by omega), t13, g4 q hq]
            · show τ2.1 13 (73 * d + q) = _
              rw [u4 _ (by omega), t13, g5 q hq]
            · show τ2.2.2 21 = _
              rw [u5, t21, g6]
          rcases hr01 with ⟨rfl, hnw⟩ | ⟨rfl, hyw⟩
          · rw [if_pos rfl]
            exact ihv (j + 1) _ (by omega) (by omega) (by omega) gd3 (sp_np_step hnp (fun _ => hnw))
          · rw [if_neg (by decide)]
            have hfst : sp_fst n m w k S i j := ⟨hij, hj, c1, hyw, hnp⟩
            obtain ⟨v, rfl⟩ : ∃ v', v = v' + 1 := ⟨v - 1, by omega⟩
            by_cases c2 : nI d = 0
            · rw [if_pos c2, md_p21, Option.bind_some, up40, nI_1]
              refine ⟨_, 1, rfl, Or.inr ⟨rfl, i, j, hfst, ?_, ?_, ?_⟩⟩
              · obtain ⟨⟨z1, z2, z3, z4⟩, -⟩ := gd3
                exact ⟨z1, tf_V z2 (by decide) _, z3, z4⟩
              · intro hd0
                exact absurd ((nI_eq (a := d) (b := 0) (by omega) (by decide)).mp (c2.trans nI_0.symm)) hd0
              · intro _
                rw [md_V1, show (10 : Int32) = nI 10 from rfl, pk_mul, nI_add]
            · rw [if_neg c2, up40, nI_1]
              refine ⟨_, 1, rfl, Or.inr ⟨rfl, i, j, hfst, gd3.1, fun _ => gd3.2.2, fun hd0 => ?_⟩⟩
              subst hd0
              exact absurd nI_0 c2
        · have : j = n := by omega
          subst this
          refine ⟨τ', 0, ?_, Or.inl ⟨rfl, hg, hnp⟩⟩
          show fX11_comesBy_40_b _ _ _ _ _ _ _ _ _ _ = _
          unfold fX11_comesBy_40_b fX11_comesBy_119
          rw [md_r0, Option.bind_some, md_s0, Option.bind_some, hr'.2.2.1, if_pos (nI_le (Nat.le_refl _) (by omega)), nI_1]
    have outer : ∀ (v i : Nat) (τ' : md_T), i ≤ n → n - i + 1 < v → gd d τ τ' → sp_np n m w k S i (i + 1) → ∃ r τ'', fX11_comesBy_19 (fX11_comesBy_r f) v (md a τ' M0) a (nI d) (nI (k + 1)) 0 (nI i) = some (r, md a τ'' M0) ∧ (r = 0 ∧ gd d τ τ'' ∧ ¬ sp_way n m w (k + 1) S ∨ r = 1 ∧ me d n m w k S τ τ'') := by
      intro v
      induction v with
      | zero => intro i τ' _ h; omega
      | succ v ihv =>
        intro i τ' hin hv hg hnp
        have hr' : rf_S (τ'.1 1) n m := rf_S_sq hr hg.1.1
        by_cases hi : i < n
        · obtain ⟨τ'', x3, e1, e2⟩ := inner ah_fu (fX11_comesBy_19 (fX11_comesBy_r f) v) i hi (i + 1) τ' (by omega) (by omega) (by unfold ah_fu; omega) hg hnp
          have e0 : fX11_comesBy_19 (fX11_comesBy_r f) (v + 1) (md a τ' M0) a (nI d) (nI (k + 1)) 0 (nI i) = fX11_comesBy_19 (fX11_comesBy_r f) v (md a τ'' M0) a (nI d) (nI (k + 1)) x3 (nI (i + 1)) := by
            rw [← e1]
            show fX11_comesBy_19_b _ _ _ _ _ _ _ _ = _
            unfold fX11_comesBy_19_b
            rw [md_r0, Option.bind_some, md_s0, Option.bind_some, hr'.2.2.1, if_neg (nI_ge hi (by omega)), if_pos rfl, nI_1]
          rw [e0]
          rcases e2 with ⟨rfl, q1, q2⟩ | ⟨rfl, q1⟩
          · exact ihv (i + 1) τ'' (by omega) (by omega) q1 (sp_np_row q2)
          · obtain ⟨v, rfl⟩ : ∃ v', v = v' + 1 := ⟨v - 1, by omega⟩
            rw [up19]
            exact ⟨1, τ'', rfl, Or.inr ⟨rfl, q1⟩⟩
        · have : i = n := by omega
          subst this
          refine ⟨0, τ', ?_, Or.inl ⟨rfl, hg, sp_np_end hnp⟩⟩
          show fX11_comesBy_19_b _ _ _ _ _ _ _ _ = _
          unfold fX11_comesBy_19_b
          rw [md_r0, Option.bind_some, md_s0, Option.bind_some, hr'.2.2.1, if_pos (nI_le (Nat.le_refl _) (by omega)), if_pos (Or.inl rfl)]
    obtain ⟨r, τ'', e1, e2⟩ := outer ah_fu 0 (md_A τ 13 g0) (by omega) (by unfold ah_fu; omega) gd0 sp_np_0
    refine ⟨r, τ'', ?_, ?_⟩
    · show fX11_comesBy_s _ _ _ _ _ = _
      unfold fX11_comesBy_s
      rw [md_ob, Option.bind_some, if_neg (nI_ne0 (by omega) (by omega)), ek, Option.bind_some]
      exact e1
    · rcases e2 with ⟨q1, q2, q3⟩ | ⟨q1, i, j, q2, q3, q4, q5⟩
      · exact Or.inl ⟨q1, q3, q2.1, q2.2.2⟩
      · exact Or.inr ⟨q1, sp_fst_way q2, q3, q4, fun hh => by omega, fun hd0 k' hk' => by
          have : k = k' := by omega
          subst this
          exact ⟨i, j, q2, q5 hd0⟩⟩
/-- the reference's fewest -/
theorem md_fewest (hr : rf_S (τ.1 1) n m) (hw : mw τ n m w) {K : Nat} (hK : K ≤ 4) : ∃ r τ', fX11_fewestBy (md a τ M0) a (nI K) = some (r, md a τ' M0) ∧ te τ τ' ∧ sp_few n m w (τ.1 1) K r (τ'.2.2 21) := by
  unfold fX11_fewestBy
  rw [md_ob, Option.bind_some, md_p21, Option.bind_some]
  have key := pl_run (fun f (τ' : md_T) k => fX11_fewestBy_8 f (md a τ' M0) a (nI K) (nI k)) (K + 1) (fun k τ' => tb 0 τ τ' ∧ τ'.2.2 21 = -4 ∧ ∀ j, j < k → ¬ sp_way n m w j (τ.1 1)) (fun r => ∃ τ', r.2 = md a τ' M0 ∧ te τ τ' ∧ sp_few n m w (τ.1 1) K r.1 (τ'.2.2 21)) ?_ ?_ ah_fu (md_V τ 21 (-4)) 0 (by omega) (by unfold ah_fu; omega) ⟨⟨fun _ _ => rfl, tf_V tf.rfl' (by decide) _, rfl, fun q hq => by omega⟩, md_V1 _ _ _, fun j hj => by omega⟩
  · obtain ⟨⟨r, N⟩, e1, τ', rfl, e2, e3⟩ := key
    exact ⟨r, τ', e1, e2, e3⟩
  · rintro f τ' k hk ⟨⟨h1, h2, h3, h4⟩, h5, h6⟩
    obtain ⟨r, τ'', e1, e2⟩ := md_search (a := a) (M0 := M0) (n := n) (m := m) (w := w) k 0 6 τ' (τ.1 1) (by omega) (by omega) (rf_S_sq hr h1) (sx_of_sq h1) (mw_of hw h3)
    have step : fX11_fewestBy_8 (f + 1) (md a τ' M0) a (nI K) (nI k) = if r = 0 then fX11_fewestBy_8 f (md a τ'' M0) a (nI K) (nI (k + 1)) else some (nI k, md a τ'' M0) := by
      show fX11_fewestBy_8_b _ _ _ _ _ = _
      unfold fX11_fewestBy_8_b fX11_comesBy
      rw [if_neg (nI_nlt (by omega) (by omega)), show (0 : Int32) = nI 0 from rfl, e1, Option.bind_some, nI_1]
    rcases e2 with ⟨rfl, q2, ⟨q3, q4, q5, q6⟩, q7⟩ | ⟨rfl, q2, ⟨q3, q4, q5, q6⟩, q7, q8, q9⟩
    · refine Or.inl ⟨τ'', ?_, ⟨fun q hq => (q3 q hq).trans (h1 q hq), h2.trans q4, q5.trans h3, fun q hq => by omega⟩, q7.trans h5, fun j hj => ?_⟩
      · show fX11_fewestBy_8 (f + 1) (md a τ' M0) a (nI K) (nI k) = _
        rw [step, if_pos rfl]
      · by_cases e : j = k
        · subst e; exact q2
        · exact h6 j (by omega)
    · refine Or.inr ⟨(nI k, md a τ'' M0), ?_, τ'', rfl, ⟨fun q hq => (q3 q hq).trans (h1 q hq), h2.trans q4⟩, Or.inl ⟨k, by omega, q2, h6, rfl, fun hk0 => (q8 hk0).trans h5, fun k' hk' => q9 rfl k' hk'⟩⟩
      show fX11_fewestBy_8 (f + 1) (md a τ' M0) a (nI K) (nI k) = _
      rw [step, if_neg (by decide)]
  · rintro f τ' ⟨⟨h1, h2, h3, h4⟩, h5, h6⟩
    refine ⟨(-4, md a τ' M0), ?_, τ', rfl, ⟨h1, h2⟩, Or.inr ⟨fun k hk => h6 k (by omega), rfl, h5⟩⟩
    show fX11_fewestBy_8_b _ _ _ _ _ = _
    unfold fX11_fewestBy_8_b
    rw [if_pos (nI_lt (by omega) (by omega))]
end MS
