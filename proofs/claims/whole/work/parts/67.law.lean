/-! PURE LEVEL, 28: law: all captains of one kind -/
/-- the row with all captains of a kind and figure -/
def sp_all (S : Nat → Int32) (k f : Int32) (i : Nat) : Nat → Int32 := pl_fd (fun S i => upd (upd S (3 + 2 * i) k) (3 + 2 * i + 1) f) S 0 i
theorem sp_all_succ (S : Nat → Int32) (k f : Int32) (i : Nat) : sp_all S k f (i + 1) = upd (upd (sp_all S k f i) (3 + 2 * i) k) (3 + 2 * i + 1) f := by
  unfold sp_all
  rw [pl_fd_snoc, Nat.zero_add]
theorem sp_all_out (S : Nat → Int32) (k f : Int32) (i : Nat) {q : Nat} (h : q < 3 ∨ 3 + 2 * i ≤ q) : sp_all S k f i q = S q := by
  induction i with
  | zero => rfl
  | succ i ih => rw [sp_all_succ, pk_un (by omega), pk_un (by omega), ih (by omega)]
theorem sp_all_in (S : Nat → Int32) (k f : Int32) {i j : Nat} (h : j < i) : sp_all S k f i (3 + 2 * j) = k ∧ sp_all S k f i (3 + 2 * j + 1) = f := by
  induction i with
  | zero => omega
  | succ i ih =>
    rw [sp_all_succ]
    by_cases e : j = i
    · subst e
      exact ⟨by rw [pk_un (by omega), pk_us], pk_us⟩
    · rw [pk_un (by omega), pk_un (by omega), pk_un (by omega), pk_un (by omega)]
      exact ih (by omega)
theorem rf_S_all {S : Nat → Int32} {n m kd fg : Nat} (h : rf_S S n m) (hk : kd < 8) (hf : fg < 10) : rf_S (sp_all S (nI kd) (nI fg) n) n m := by
  obtain ⟨hn, hm, h0, h1, h2, h3⟩ := h
  refine ⟨hn, hm, (sp_all_out S _ _ n (by omega)).trans h0, (sp_all_out S _ _ n (by omega)).trans h1, fun i hi => ⟨kd, fg, hk, hf, sp_all_in S _ _ hi⟩, fun j hj => ?_⟩
  rw [sp_all_out S _ _ n (by omega)]
  exact h3 j hj
def sp_lwF (n m g : Nat) (w : Int32) (A B : Nat → Int32) (s : (Nat → Int32) × Int32) (k : Nat) : ((Nat → Int32) × Int32) ⊕ Int32 := .inl (sp_go s.1 n m (A k) (B k), if sp_go s.1 n m (A k) (B k) (13 + 5 * g) = w then s.2 else s.2 + 1)
def sp_law (τ : md_T) (n m : Nat) (x y k f : Int32) : Int32 := if sp_is 8 k = 0 then -1 else if sp_is 10 f = 0 then -1 else if sp_mw τ n m x y = 0 then pl_fe (sp_lwF n m x.toNatClampNeg (τ.1 1 (13 + 5 * x.toNatClampNeg)) (fun k => τ.1 8 (100 * y.toNatClampNeg + 2 * k)) (fun k => τ.1 8 (100 * y.toNatClampNeg + 2 * k + 1))) (fun s => s.2) (sp_all (τ.1 1) k f n, 0) 0 ((τ.1 7 y.toNatClampNeg).toNatClampNeg / 2) else sp_mw τ n m x y
section LAW
variable {b a : Nat} {M M0 : ah_h} {τ : md_T} {n m z : Nat} {F1 : fl_T}
theorem cl_runZ {α : Type} (L : Nat → ah_h → α → Nat → Option (Int32 × ah_h × Nat)) (zz K : Nat) (f : (Nat → Int32) × α → Nat → ((Nat → Int32) × α) ⊕ Int32) (fin : (Nat → Int32) × α → Int32)
    (hs : ∀ w F S x k, k < K → rf b M F S n m → (∃ S' x' F', f (S, x) k = .inl (S', x') ∧ L (w + 1) (fl (b + 10) F M) x k = L w (fl (b + 10) F' M) x' (k + 1) ∧ rf b M F' S' n m) ∨ ∃ r F', f (S, x) k = .inr r ∧ L (w + 1) (fl (b + 10) F M) x k = some (r, fl (b + 10) F' M, zz))
    (he : ∀ w F S x, rf b M F S n m → ∃ F', L (w + 1) (fl (b + 10) F M) x K = some (fin (S, x), fl (b + 10) F' M, zz)) :
    ∀ (w : Nat) (F : fl_T) (S : Nat → Int32) (x : α), K < w → rf b M F S n m → ∃ F', L w (fl (b + 10) F M) x 0 = some (pl_fe f fin (S, x) 0 K, fl (b + 10) F' M, zz) := by
  have key : ∀ (w : Nat) (F : fl_T) (S : Nat → Int32) (x : α) (k : Nat), k ≤ K → K - k < w → rf b M F S n m → ∃ F', L w (fl (b + 10) F M) x k = some (pl_fe f fin (S, x) k (K - k), fl (b + 10) F' M, zz) := by
    intro w
    induction w with
    | zero => intro F S x k _ h; omega
    | succ w ih =>
      intro F S x k hk hw hr
      by_cases hkK : k < K
      · obtain ⟨c, hc⟩ : ∃ c, K - k = c + 1 := ⟨K - k - 1, by omega⟩
        rcases hs w F S x k hkK hr with ⟨S', x', F', e1, e2, e3⟩ | ⟨r, F', e1, e2⟩
        · rw [hc, pl_fe_l e1, e2, show c = K - (k + 1) by omega]
          exact ih F' S' x' (k + 1) (by omega) (by omega) e3
        · rw [hc, pl_fe_r e1]
          exact ⟨F', e2⟩
      · have : k = K := by omega
        subst this
        rw [Nat.sub_self]
        exact he w F S x hr
  intro w F S x hw hr
  exact key w F S x 0 (by omega) (by omega) hr
theorem fl_setAll {c : Nat} {F : fl_T} {v : Nat × List Value} (h0 : F.1 0 = nI n) (hn : n ≤ 5) (hc : c < a ∨ a + 9 ≤ c ∨ c = a + 2) (ho : ah_oc M c = some v) : ∃ F', fX2_setAllCaptains (fl a F M) a c = some (fl a F' M) ∧ F'.1 = F.1 ∧ F'.2.2 = F.2.2 ∧ ∀ i, F'.2.1 i = if i < n then some c else F.2.1 i := by
  have ho' : ∀ F, ah_oc (fl a F M) c = some v := fun F => by
    unfold ah_oc at ho ⊢
    rw [fl_out hc]; exact ho
  have := pl_run (fun w (F' : fl_T) k => fX2_setAllCaptains_2 w (fl a F' M) a c (nI k)) n (fun k F' => F'.1 = F.1 ∧ F'.2.2 = F.2.2 ∧ ∀ i, F'.2.1 i = if i < k then some c else F.2.1 i) (fun r => ∃ F', r = fl a F' M ∧ F'.1 = F.1 ∧ F'.2.2 = F.2.2 ∧ ∀ i, F'.2.1 i = if i < n then some c else F.2.1 i) ?_ ?_ ah_fu F 0 (by omega) (by unfold ah_fu; omega) ⟨rfl, rfl, fun i => by rw [if_neg (by omega)]⟩
  · obtain ⟨r, e, F', rfl, h1⟩ := this
    refine ⟨F', ?_, h1⟩
    unfold fX2_setAllCaptains
    rw [fl_ob, Option.bind_some]
    exact e
  · rintro w F' k hk ⟨h1, h2, h3⟩
    refine Or.inl ⟨fl_C F' (va_up F'.2.1 k (some c)), ?_, h1, h2, fun i => ?_⟩
    · show fX2_setAllCaptains_2_b (fX2_setAllCaptains_2 w) (fl a F' M) a c (nI k) = _
      unfold fX2_setAllCaptains_2_b
      rw [fl_i0, Option.bind_some, h1, h0, if_neg (nI_ge hk (by omega)), fl_r3, Option.bind_some, ho', Option.bind_some, fl_sr (by omega), Option.bind_some, nI_1]
    · show va_up F'.2.1 k (some c) i = _
      unfold va_up
      by_cases e : i = k
      · rw [if_pos e, if_pos (by omega)]
      · rw [if_neg e, h3]
        by_cases e2 : i < k
        · rw [if_pos e2, if_pos (by omega)]
        · rw [if_neg e2, if_neg (by omega)]
  · rintro w F' ⟨h1, h2, h3⟩
    refine ⟨_, ?_, F', rfl, h1, h2, h3⟩
    show fX2_setAllCaptains_2_b (fX2_setAllCaptains_2 w) (fl a F' M) a c (nI n) = _
    unfold fX2_setAllCaptains_2_b
    rw [fl_i0, Option.bind_some, h1, h0, if_pos (nI_le (Nat.le_refl _) (by omega))]
theorem rf_all {F F' : fl_T} {S : Nat → Int32} {c kd fg : Nat} (h : rf b M F S n m) (hc : rf_a b c) (hp : cp M c kd fg) (e1 : F'.1 = F.1) (e2 : F'.2.2 = F.2.2) (e3 : ∀ i, F'.2.1 i = if i < n then some c else F.2.1 i) : rf b M F' (sp_all S (nI kd) (nI fg) n) n m := by
  obtain ⟨h1, h2, h3, h4, h5, h6, h7⟩ := h
  have hn := h1.1
  refine ⟨rf_S_all h1 hp.2.1 hp.2.2, by rw [e1]; exact h2, by rw [e1]; exact h3, by rw [e1, sp_all_out S _ _ n (by omega)]; exact h4, fun i hi => ?_, fun j hj => ?_, fun i hi => ?_⟩
  · rw [e3 i]
    by_cases hin : i < n
    · rw [if_pos hin]
      exact ⟨c, kd, fg, rfl, hc, hp, fun _ => sp_all_in S _ _ hin⟩
    · rw [if_neg hin]
      obtain ⟨c', kd', fg', q1, q2, q3, -⟩ := h5 i hi
      exact ⟨c', kd', fg', q1, q2, q3, fun hh => absurd hh hin⟩
  · rw [e2, sp_all_out S _ _ n (by omega), sp_all_out S _ _ n (by omega), sp_all_out S _ _ n (by omega), sp_all_out S _ _ n (by omega), sp_all_out S _ _ n (by omega)]
    exact h6 j hj
  · rw [e2, sp_cw_congr (S := S) (fun k => sp_all_out S _ _ n (by omega))]
    exact h7 i hi
/-- a captain more -/
theorem cs_more {N : ah_h} (h : cs b M τ n m F1) (hN : ∀ q e, M q = some e → N q = some e) : cs b N τ n m F1 := by
  have hc : ∀ c e, rf_a b c → M c = some e → N c = some e := fun c e _ => hN c e
  obtain ⟨o1, f, o2, o3⟩ := h.o
  refine ⟨⟨hN _ _ o1, f, hN _ _ o2, o3⟩, fa_ofS h.f1 (fun q e _ _ _ => hN q e), rf_keepS h.r1 hc, ?_, ?_, fun d hd => sr_ofS (h.sh d hd) (fun q e _ => hN q e) ⟨rfl, rfl, rfl, rfl, rfl, fun _ _ => rfl⟩, ?_, fun i hi => ?_, ?_, ?_⟩
  · obtain ⟨F2, k⟩ := h.f2
    exact ⟨F2, fa_ofS k (fun q e _ _ _ => hN q e)⟩
  · obtain ⟨F3, k1, k2⟩ := h.f3
    refine ⟨F3, fa_ofS k1 (fun q e _ _ _ => hN q e), ?_⟩
    rcases k2 with k2 | ⟨k2, n3, m3, k3⟩
    · exact Or.inl k2
    · exact Or.inr ⟨k2, n3, m3, rf_keepS k3 hc⟩
  · obtain ⟨f, g1, g2⟩ := h.g0
    exact ⟨f, hN _ _ g1, g2⟩
  · obtain ⟨f, g1⟩ := h.g1 i hi
    exact ⟨f, hN _ _ g1⟩
  · obtain ⟨f, g1⟩ := h.wa
    exact ⟨f, hN _ _ g1⟩
  · obtain ⟨f, g1⟩ := h.ch
    exact ⟨f, hN _ _ g1⟩
theorem fl_swap_cap {X : fl_T} {N : ah_h} (hz : a + 9 ≤ z) (o : ∀ q, q ≠ z → N q = fl a X M q) : ∃ M1, N = fl a X M1 ∧ (∀ q, q ≠ z → M1 q = M q) ∧ M1 z = N z := by
  refine ⟨fun q => if q = z then N z else M q, ?_, fun q hq => if_neg hq, if_pos rfl⟩
  funext q
  by_cases e : q = z
  · subst e
    rw [fl_out (by omega)]
    exact (if_pos rfl).symm
  · rw [o q e]
    unfold fl
    dsimp only
    rw [if_neg e]
theorem c_law (h : cs b M τ n m F1) (hz : b + 69 ≤ z) (hN : ∀ q, z ≤ q → M q = none) (x y k f : Int32) : ∃ M1 z', fX10_law M z b x y k f = some (sp_law τ n m x y k f, M1, z') ∧ cs b M1 τ n m F1 ∧ (∀ q, b + 53 ≤ q → q < z → M1 q = M q) ∧ z ≤ z' ∧ z' ≤ z + 1 ∧ ∀ q, z' ≤ q → M1 q = none := by
  have keep : ∀ v : Int32, ∃ M1 z', some (v, M, z) = some (v, M1, z') ∧ cs b M1 τ n m F1 ∧ (∀ q, b + 53 ≤ q → q < z → M1 q = M q) ∧ z ≤ z' ∧ z' ≤ z + 1 ∧ ∀ q, z' ≤ q → M1 q = none := fun v => ⟨M, z, rfl, h, fun _ _ _ => rfl, Nat.le_refl _, by omega, hN⟩
  unfold fX10_law sp_law
  rw [h.o.ob, Option.bind_some, c_kf, Option.bind_some, cs_mw h, Option.bind_some]
  rcases sp_is_cases (n := 8) (by decide) k with hk | ⟨kd, hkd, rfl, hk⟩
  · rw [if_pos hk, if_pos rfl, if_pos hk]; exact keep _
  have hk' : ¬ sp_is 8 (nI kd) = 0 := by rw [hk]; decide
  rw [if_neg hk', if_neg hk']
  rcases sp_is_cases (n := 10) (by decide) f with hf | ⟨fg, hfg, rfl, hf⟩
  · rw [if_pos hf, if_pos hf]; exact keep _
  have hf' : ¬ sp_is 10 (nI fg) = 0 := by rw [hf]; decide
  rw [if_neg hf', if_neg hf']
  have hm := h.r1.1.2.1
  rcases sp_mw_cases (cs_ts h) hm n x y with ⟨-, h2, h3⟩ | ⟨h1, g, d, K, hg, rfl, rfl, ht⟩
  · rw [if_neg h3, if_neg h2]; exact keep _
  have hd := ht.1
  have hK := ht.2.2.2.2.1
  have hn5 := h.r1.1.1
  obtain ⟨X, eX, rX⟩ := cs_become h
  obtain ⟨N, eN, hcp, oN⟩ := c_cap (fl (b + 10) X M) z hkd hfg
  obtain ⟨M1, rfl, o1, z1⟩ := fl_swap_cap (a := b + 10) (z := z) (by omega) oN
  have hcp1 : cp M1 z kd fg := ⟨by rw [z1]; exact hcp.1, hcp.2⟩
  have mono : ∀ q e, M q = some e → M1 q = some e := fun q e hq => by
    rw [o1 q (fun ee => by rw [ee, hN z (Nat.le_refl _)] at hq; cases hq)]; exact hq
  have h' : cs b M1 τ n m F1 := cs_more h mono
  have rX1 : rf b M1 X (τ.1 1) n m := rf_keepS rX (fun c e _ => mono c e)
  obtain ⟨F', e1, e2, e3, e4⟩ := fl_setAll (a := b + 10) (c := z) (M := M1) (F := X) rX1.2.1 hn5 (by omega) (cp_oc hcp1)
  have r1 := rf_all rX1 (show rf_a b z from Or.inr (Or.inr (Or.inr hz))) hcp1 e2 e3 e4
  rw [h1, if_pos (by decide), if_pos rfl, h.o.r4, Option.bind_some, h.o.sh hd, Option.bind_some, h.o.r1, Option.bind_some, h.o.r0, Option.bind_some, eX, Option.bind_some, (cs_mind h X).o.r1, Option.bind_some, eN, Option.bind_some]
  dsimp only
  rw [e1, Option.bind_some, (sp_K ht).1, (sp_K ht).2, nI_clamp (show g < 2 ^ 31 by omega)]
  have run := cl_runZ (b := b) (M := M1) (n := n) (m := m) (fun w N (x : Int32) k => fX10_law_65 w N (z + 1) b (nI g) (b + 29 + 2 * d) x (nI k)) (z + 1) K (sp_lwF n m g (τ.1 1 (13 + 5 * g)) (fun k => τ.1 8 (100 * d + 2 * k)) (fun k => τ.1 8 (100 * d + 2 * k + 1))) (fun s => s.2) (fun w F S x k hk hr => Or.inl ?_) (fun w F S x hr => ⟨F, ?_⟩) ah_fu F' (sp_all (τ.1 1) (nI kd) (nI fg) n) 0 (by unfold ah_fu; omega) r1
  · obtain ⟨Y, eY⟩ := run
    refine ⟨fl (b + 10) Y M1, z + 1, eY, cs_mind h' Y, fun q h1 h2 => ?_, by omega, Nat.le_refl _, fun q hq => ?_⟩
    · rw [fl_out (by omega), o1 q (by omega)]
    · rw [fl_out (by omega), o1 q (by omega)]; exact hN q (by omega)
  · obtain ⟨F', e1, e2⟩ := cs_hold h' ht hk hr
    refine ⟨_, _, F', rfl, ?_, e2⟩
    have hc := cs_mind h' F
    have hc' := cs_mind h' F'
    show fX10_law_65_b _ _ _ _ _ _ _ _ = _
    unfold fX10_law_65_b fX10_law_110
    rw [cs_meetings hc ht, Option.bind_some, if_neg (nI_ge hk (by omega)), hc.o.r1, Option.bind_some, e1, Option.bind_some, hc'.o.r1, Option.bind_some, (rf_ab e2 hg).1, Option.bind_some, (rf_ab e2 hg).2, Option.bind_some, hc'.o.r0, Option.bind_some, (fa_ab hc'.f1 hc'.r1 hg).1, Option.bind_some, (fa_ab hc'.f1 hc'.r1 hg).2, Option.bind_some, nI_1]
    dsimp only
    split <;> rfl
  · have hc := cs_mind h' F
    show fX10_law_65_b _ _ _ _ _ _ _ _ = _
    unfold fX10_law_65_b
    rw [cs_meetings hc ht, Option.bind_some, if_pos (nI_le (Nat.le_refl _) (by omega))]
theorem m_law (hS : rf_S (τ.1 1) n m) (hs : ts τ) (x y k f : Int32) : qm (fX11_law (md a τ M0) a x y k f) a M0 τ (sp_law τ n m x y k f) := by
  have hm := hS.2.1
  have hn5 := hS.1
  have e0 : fX11_law (md a τ M0) a x y k f = fX11_law_42 (md a τ M0) a x y k f (if sp_is m x = 0 then -1 else if sp_is 8 k = 0 then -1 else if sp_is 10 f = 0 then -1 else sp_wm τ n y) := by
    unfold fX11_law fX11_law_41
    rw [md_ob, Option.bind_some, md_isMan hS.2.2.2.1 (by omega), Option.bind_some, md_isIn7, Option.bind_some, md_isIn9, Option.bind_some, md_wrongMeetings hS hs, Option.bind_some]
    split
    · rfl
    split
    · rfl
    split <;> rfl
  rw [e0]
  unfold fX11_law_42 sp_law
  rcases sp_is_cases (n := 8) (by decide) k with hk | ⟨kd, hkd, rfl, hk⟩
  · rw [if_pos hk, if_pos hk]
    have : (if sp_is m x = 0 then (-1 : Int32) else -1) = -1 := by split <;> rfl
    rw [this, if_neg (by decide)]
    exact ⟨τ, rfl, te.rfl'⟩
  have hk' : ¬ sp_is 8 (nI kd) = 0 := by rw [hk]; decide
  rw [if_neg hk', if_neg hk']
  rcases sp_is_cases (n := 10) (by decide) f with hf | ⟨fg, hfg, rfl, hf⟩
  · rw [if_pos hf, if_pos hf]
    have : (if sp_is m x = 0 then (-1 : Int32) else -1) = -1 := by split <;> rfl
    rw [this, if_neg (by decide)]
    exact ⟨τ, rfl, te.rfl'⟩
  have hf' : ¬ sp_is 10 (nI fg) = 0 := by rw [hf]; decide
  rw [if_neg hf', if_neg hf']
  show qm (if sp_mw τ n m x y = 0 then _ else some (sp_mw τ n m x y, _)) a M0 τ _
  rcases sp_mw_cases hs hm n x y with ⟨-, h2, h3⟩ | ⟨h1, g, d, K, hg, rfl, rfl, ht⟩
  · rw [if_neg h2, if_neg h2]; exact ⟨τ, rfl, te.rfl'⟩
  · have hd := ht.1
    have hK := ht.2.2.2.2.1
    obtain ⟨τ1, eb, ei, es⟩ := ti_begin (a := a) (M0 := M0) (τ := τ)
    rw [if_pos h1, if_pos h1, eb, Option.bind_some, (sp_K ht).1, (sp_K ht).2, nI_clamp (show g < 2 ^ 31 by omega)]
    have lp := pl_runK (fun w (S : Nat → Int32) i => fX11_law_59 w (md a (md_A τ1 1 S) M0) a (nI g) (nI d) (nI kd) (nI fg) (nI i)) n (fun i S => S = sp_all (τ.1 1) (nI kd) (nI fg) i) (fun S => fX11_law_117 ah_fu (md a (md_A τ1 1 S) M0) a (nI g) (nI d) (S (13 + 5 * g)) 0 0) ?_ ?_ ah_fu (τ.1 1) 0 (by omega) (by unfold ah_fu; omega) rfl
    · obtain ⟨S', e1, rfl⟩ := lp
      have e2 : fX11_law_59 ah_fu (md a τ1 M0) a (nI g) (nI d) (nI kd) (nI fg) 0 = fX11_law_117 ah_fu (md a (md_A τ1 1 (sp_all (τ.1 1) (nI kd) (nI fg) n)) M0) a (nI g) (nI d) (τ.1 1 (13 + 5 * g)) 0 0 := by
        rw [← sp_all_out (τ.1 1) (nI kd) (nI fg) n (q := 13 + 5 * g) (by omega), ← e1]
        show fX11_law_59 ah_fu (md a τ1 M0) a (nI g) (nI d) (nI kd) (nI fg) (nI 0) = fX11_law_59 ah_fu (md a (md_A τ1 1 (τ.1 1)) M0) a (nI g) (nI d) (nI kd) (nI fg) (nI 0)
        rw [← es, md_Aself]
      rw [e2]
      have hS' := rf_S_all hS hkd hfg
      have run := ml_run (n := n) (m := m) (τ := τ) (a := a) (M0 := M0) (fun w N (x : Int32) k => fX11_law_117 w N a (nI g) (nI d) (τ.1 1 (13 + 5 * g)) x (nI k)) K (sp_lwF n m g (τ.1 1 (13 + 5 * g)) (fun k => τ.1 8 (100 * d + 2 * k)) (fun k => τ.1 8 (100 * d + 2 * k + 1))) (fun s => s.2) (fun w τ' x k hk hr hi => Or.inl ?_) (fun w τ' x hr hi => ?_) ah_fu (md_A τ1 1 (sp_all (τ.1 1) (nI kd) (nI fg) n)) 0 (by unfold ah_fu; omega) (by rw [md_A1]; exact hS') (ti_A ei _)
      · rw [md_A1] at run
        exact run
      · obtain ⟨τ'', e1, e2, e3, -⟩ := md_told (a := a) (M0 := M0) hi hr ht hk
        have hr' := rf_S_go hr (τ.1 8 (100 * d + 2 * k)) (τ.1 8 (100 * d + 2 * k + 1))
        refine ⟨_, _, τ'', rfl, ?_, e2, hr', e3⟩
        show fX11_law_117_b _ _ _ _ _ _ _ _ = _
        unfold fX11_law_117_b fX11_law_154
        rw [md_meetings (sp_td_of ht hi.2), Option.bind_some, if_neg (nI_ge hk (by omega)), e1, Option.bind_some]
        dsimp only
        rw [md_get0 (by omega), Option.bind_some, e2, nI_1, show x + 0 = x from Int32.add_zero x]
        split <;> rfl
      · obtain ⟨τ'', e1, e2, -⟩ := ti_end (a := a) (M0 := M0) hi
        refine ⟨τ'', ?_, e2⟩
        show fX11_law_117_b _ _ _ _ _ _ _ _ = _
        unfold fX11_law_117_b
        rw [md_meetings (sp_td_of ht hi.2), Option.bind_some, if_pos (nI_le (Nat.le_refl _) (by omega)), e1, Option.bind_some]
    · rintro w S i hi rfl
      refine ⟨_, ?_, (sp_all_succ (τ.1 1) (nI kd) (nI fg) i).symm⟩
      show fX11_law_59_b _ _ _ _ _ _ _ _ = _
      unfold fX11_law_59_b
      rw [md_r0, Option.bind_some, md_s0, Option.bind_some, md_A1, sp_all_out _ _ _ i (by omega), hS.2.2.1, if_neg (nI_ge hi (by omega)), Option.bind_some]
      rw [show (3 + 2 * nI i : Int32) = nI (3 + 2 * i) by rw [show (3 : Int32) = nI 3 from rfl, show (2 : Int32) = nI 2 from rfl, pk_mul, nI_add], md_si (k := 1) (by decide) (by decide) (by decide) (show 3 + 2 * i < 73 by omega), Option.bind_some, md_r0, Option.bind_some, nI_1, md_si (k := 1) (by decide) (by decide) (by decide) (show 3 + 2 * i + 1 < 73 by omega), Option.bind_some, md_A1, md_AA, md_A1, md_AA, nI_1]
    · rintro w S rfl
      show fX11_law_59_b _ _ _ _ _ _ _ _ = _
      unfold fX11_law_59_b
      rw [md_r0, Option.bind_some, md_s0, Option.bind_some, md_A1, sp_all_out _ _ _ n (q := 0) (by omega), hS.2.2.1, if_pos (nI_le (Nat.le_refl _) (by omega)), md_get0 (by omega), Option.bind_some, md_A1]
theorem p_law (h : wd b M z τ) (x y k f : Int32) : ∃ v M1 M2 τ' z', fX10_law M z b x y k f = some (v, M1, z') ∧ fX11_law M1 (b + 53) x y k f = some (v, M2) ∧ wd b M2 z' τ' ∧ z ≤ z' ∧ z' ≤ z + 1 := by
  obtain ⟨⟨n, m, F1, hc⟩, hma, ho, hz, hn⟩ := id h
  obtain ⟨M1, z', e1, e2, e3, e4, e5, e6⟩ := c_law hc hz hn x y k f
  obtain ⟨τ2, f1, f2⟩ := m_law (a := b + 53) (M0 := M1) hc.r1.1 (cs_ts hc) x y k f
  obtain ⟨h1, h2⟩ := wd_ofz h e2 e3 e4 e6 f2
  rw [h1] at f1
  exact ⟨_, M1, _, τ2, z', e1, f1, h2, e4, e5⟩
end LAW
