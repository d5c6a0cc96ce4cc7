/-! PURE LEVEL, 15: calls that hold meetings in mind: where, letter, together, moved, seeded, judge -/
def fr (b : Nat) (M M' : ah_h) : Prop := ∀ q, b + 53 ≤ q → M' q = M q
theorem fr.rfl' {b : Nat} {M : ah_h} : fr b M M := fun _ _ => rfl
theorem fr_mind {b : Nat} {M : ah_h} (X : fl_T) : fr b M (fl (b + 10) X M) := fun q h1 => fl_out (by omega)
/-- a question to the class -/
def qc (o : Option (Int32 × ah_h)) (b : Nat) (M : ah_h) (τ : md_T) (n m : Nat) (F1 : fl_T) (v : Int32) : Prop := ∃ M', o = some (v, M') ∧ cs b M' τ n m F1 ∧ fr b M M'
/-- .. to the reference -/
def qm (o : Option (Int32 × ah_h)) (a : Nat) (M0 : ah_h) (τ : md_T) (v : Int32) : Prop := ∃ τ', o = some (v, md a τ' M0) ∧ te τ τ'
section RUNS
variable {b a : Nat} {M M0 : ah_h} {τ : md_T} {n m : Nat} {F1 : fl_T}
theorem qc_ref (h : cs b M τ n m F1) {o : Option (Int32 × ah_h)} {v : Int32} (e : o = some (v, M)) : qc o b M τ n m F1 v := ⟨M, e, h, fr.rfl'⟩
theorem qc_mind (h : cs b M τ n m F1) {o : Option (Int32 × ah_h)} {v : Int32} (e : ∃ X, o = some (v, fl (b + 10) X M)) : qc o b M τ n m F1 v := by
  obtain ⟨X, e⟩ := e
  exact ⟨_, e, cs_mind h X, fr_mind X⟩
theorem cl_run {α : Type} (L : Nat → ah_h → α → Nat → Option (Int32 × ah_h)) (K : Nat) (f : (Nat → Int32) × α → Nat → ((Nat → Int32) × α) ⊕ Int32) (fin : (Nat → Int32) × α → Int32)
    (hs : ∀ w F S x k, k < K → rf b M F S n m → (∃ S' x' F', f (S, x) k = .inl (S', x') ∧ L (w + 1) (fl (b + 10) F M) x k = L w (fl (b + 10) F' M) x' (k + 1) ∧ rf b M F' S' n m) ∨ ∃ r F', f (S, x) k = .inr r ∧ L (w + 1) (fl (b + 10) F M) x k = some (r, fl (b + 10) F' M))
    (he : ∀ w F S x, rf b M F S n m → ∃ F', L (w + 1) (fl (b + 10) F M) x K = some (fin (S, x), fl (b + 10) F' M)) :
    ∀ (w : Nat) (F : fl_T) (S : Nat → Int32) (x : α), K < w → rf b M F S n m → ∃ F', L w (fl (b + 10) F M) x 0 = some (pl_fe f fin (S, x) 0 K, fl (b + 10) F' M) := by
  have key : ∀ (w : Nat) (F : fl_T) (S : Nat → Int32) (x : α) (k : Nat), k ≤ K → K - k < w → rf b M F S n m → ∃ F', L w (fl (b + 10) F M) x k = some (pl_fe f fin (S, x) k (K - k), fl (b + 10) F' M) := by
    intro w
    induction w with
    | zero => intro F S x k _ h; omega
    | succ w ih =>
      intro F S x k hk hw hr
      by_cases hkK : k < K
      · obtain ⟨c, hc⟩ : ∃ c, K - k = c + 1 := ⟨K - k - 1, by omega⟩
        rcases hs w F S x k hkK hr with ⟨S', x', F', e1, e2, e3⟩ | ⟨r, F', e1, e2⟩
        · rw [hc, pl_fe_l e1, e2, show c = K - (k + 1) by omega]
          exact ih F' S' x' (k + 1) (by omega) (by omega) e3
        · rw [hc, pl_fe_r e1]
          exact ⟨F', e2⟩
      · have : k = K := by omega
        subst this
        rw [Nat.sub_self]
        exact he w F S x hr
  intro w F S x hw hr
  exact key w F S x 0 (by omega) (by omega) hr
theorem ml_run {α : Type} (L : Nat → ah_h → α → Nat → Option (Int32 × ah_h)) (K : Nat) (f : (Nat → Int32) × α → Nat → ((Nat → Int32) × α) ⊕ Int32) (fin : (Nat → Int32) × α → Int32)
    (hs : ∀ w τ' x k, k < K → rf_S (τ'.1 1) n m → ti τ τ' → (∃ S' x' τ'', f (τ'.1 1, x) k = .inl (S', x') ∧ L (w + 1) (md a τ' M0) x k = L w (md a τ'' M0) x' (k + 1) ∧ τ''.1 1 = S' ∧ rf_S S' n m ∧ ti τ τ'') ∨ ∃ r τ'', f (τ'.1 1, x) k = .inr r ∧ L (w + 1) (md a τ' M0) x k = some (r, md a τ'' M0) ∧ te τ τ'')
    (he : ∀ w τ' x, rf_S (τ'.1 1) n m → ti τ τ' → ∃ τ'', L (w + 1) (md a τ' M0) x K = some (fin (τ'.1 1, x), md a τ'' M0) ∧ te τ τ'') :
    ∀ (w : Nat) (τ' : md_T) (x : α), K < w → rf_S (τ'.1 1) n m → ti τ τ' → qm (L w (md a τ' M0) x 0) a M0 τ (pl_fe f fin (τ'.1 1, x) 0 K) := by
  have key : ∀ (w : Nat) (τ' : md_T) (x : α) (k : Nat), k ≤ K → K - k < w → rf_S (τ'.1 1) n m → ti τ τ' → qm (L w (md a τ' M0) x k) a M0 τ (pl_fe f fin (τ'.1 1, x) k (K - k)) := by
    intro w
    induction w with
    | zero => intro τ' x k _ h; omega
    | succ w ih =>
      intro τ' x k hk hw hr ht
      by_cases hkK : k < K
      · obtain ⟨c, hc⟩ : ∃ c, K - k = c + 1 := ⟨K - k - 1, by omega⟩
        rcases hs w τ' x k hkK hr ht with ⟨S', x', τ'', e1, e2, e3, e4, e5⟩ | ⟨r, τ'', e1, e2, e3⟩
        · rw [hc, pl_fe_l e1, e2, show c = K - (k + 1) by omega, ← e3]
          rw [← e3] at e4
          exact ih τ'' x' (k + 1) (by omega) (by omega) e4 e5
        · rw [hc, pl_fe_r e1]
          exact ⟨τ'', e2, e3⟩
      · have : k = K := by omega
        subst this
        rw [Nat.sub_self]
        exact he w τ' x hr ht
  intro w τ' x hw hr ht
  exact key w τ' x 0 (by omega) (by omega) hr ht
/-- a told meeting, by the class -/
theorem cs_hold (h : cs b M τ n m F1) {d K k : Nat} (ht : sp_td τ n d K) (hk : k < K) {F : fl_T} {S : Nat → Int32} (hr : rf b M F S n m) : ∃ F', fX2_holdTold (fl (b + 10) F M) (b + 10) (b + 29 + 2 * d) (nI k) = some (fl (b + 10) F' M) ∧ rf b M F' (sp_go S n m (τ.1 8 (100 * d + 2 * k)) (τ.1 8 (100 * d + 2 * k + 1))) n m := by
  obtain ⟨hd, k5, k6, k7, hK, -⟩ := ht
  obtain ⟨el, H, he⟩ := cs_row (cs_mind h F) hd k5 (by decide) k6 k7 (by omega)
  obtain ⟨F', e1, e2⟩ := fl_step hr (a := b + 10) (Or.inr (Or.inl rfl)) (τ.1 8 (100 * d + 2 * k)) (τ.1 8 (100 * d + 2 * k + 1))
  refine ⟨F', ?_, e2⟩
  unfold fX2_holdTold
  rw [fl_ob, Option.bind_some, H.one rfl (by omega) (by omega), Option.bind_some, H.other rfl (by omega) (by omega), Option.bind_some, he _ (by omega), he _ (by omega), show 100 * d + (2 * k + 1) = 100 * d + 2 * k + 1 by omega, e1, Option.bind_some]
theorem cs_meetings (h : cs b M τ n m F1) {d K : Nat} (ht : sp_td τ n d K) : fX7_meetings M (b + 29 + 2 * d) = some (nI K) := by
  obtain ⟨hd, k5, k6, k7, hK, -⟩ := ht
  obtain ⟨el, H, he⟩ := cs_row h hd k5 (by decide) k6 k7 (by omega)
  rw [H.meetings rfl (by omega), show 2 * K / 2 = K by omega]
theorem cs_told (h : cs b M τ n m F1) {d K k : Nat} (ht : sp_td τ n d K) (hk : k < K) : fX7_one M (b + 29 + 2 * d) (nI k) = some (τ.1 8 (100 * d + 2 * k)) ∧ fX7_other M (b + 29 + 2 * d) (nI k) = some (τ.1 8 (100 * d + 2 * k + 1)) := by
  obtain ⟨hd, k5, k6, k7, hK, -⟩ := ht
  obtain ⟨el, H, he⟩ := cs_row h hd k5 (by decide) k6 k7 (by omega)
  rw [H.one rfl (by omega) (by omega), H.other rfl (by omega) (by omega), he _ (by omega), he _ (by omega)]
  exact ⟨rfl, rfl⟩
/-- .. by the reference -/
theorem sp_td_of {τ' : md_T} {d K : Nat} (ht : sp_td τ n d K) (hf : tf τ τ') : sp_td τ' n d K := by
  obtain ⟨hd, k5, k6, k7, hK, k8⟩ := ht
  refine ⟨hd, ?_, ?_, ?_, hK, ?_⟩
  · rw [hf.2.1 5 (by decide) (by decide)]; exact k5
  · rw [hf.2.1 6 (by decide) (by decide)]; exact k6
  · rw [hf.2.1 7 (by decide) (by decide)]; exact k7
  · rw [hf.2.1 8 (by decide) (by decide)]; exact k8
theorem md_meetings {d K : Nat} (ht : sp_td τ n d K) : fX11_meetings (md a τ M0) a (nI d) = some (nI K) := by
  obtain ⟨hd, k5, k6, k7, hK, k8⟩ := ht
  unfold fX11_meetings
  rw [md_ob, Option.bind_some, md_r6, Option.bind_some, md_k7 hd, Option.bind_some, k7, show (2 : Int32) = nI 2 from rfl, pk_div (by omega) (by decide) (by decide), show 2 * K / 2 = K by omega]
theorem md_first {d K k : Nat} (ht : sp_td τ n d K) (hk : k < K) : fX11_first (md a τ M0) a (nI d) (nI k) = some (τ.1 8 (100 * d + 2 * k)) := by
  obtain ⟨hd, k5, k6, k7, hK, k8⟩ := ht
  unfold fX11_first
  rw [md_ob, Option.bind_some, md_r7, Option.bind_some, show (100 * nI d + 2 * nI k : Int32) = nI (100 * d + 2 * k) by rw [show (100 : Int32) = nI 100 from rfl, show (2 : Int32) = nI 2 from rfl, pk_mul, pk_mul, nI_add], md_k8 (by omega), Option.bind_some]
theorem md_second {d K k : Nat} (ht : sp_td τ n d K) (hk : k < K) : fX11_second (md a τ M0) a (nI d) (nI k) = some (τ.1 8 (100 * d + 2 * k + 1)) := by
  obtain ⟨hd, k5, k6, k7, hK, k8⟩ := ht
  unfold fX11_second
  rw [md_ob, Option.bind_some, md_r7, Option.bind_some, show (100 * nI d + 2 * nI k + 1 : Int32) = nI (100 * d + 2 * k + 1) by rw [show (100 : Int32) = nI 100 from rfl, show (2 : Int32) = nI 2 from rfl, pk_mul, pk_mul, nI_add, nI_1], md_k8 (by omega), Option.bind_some]
theorem md_told {τ' : md_T} (hi : ti τ τ') (hS : rf_S (τ'.1 1) n m) {d K k : Nat} (ht : sp_td τ n d K) (hk : k < K) : ∃ τ'', fX11_meetsTold (md a τ' M0) a (nI d) (nI k) = some (sp_mm (τ'.1 1) n m (τ.1 8 (100 * d + 2 * k)) (τ.1 8 (100 * d + 2 * k + 1)), md a τ'' M0) ∧ τ''.1 1 = sp_go (τ'.1 1) n m (τ.1 8 (100 * d + 2 * k)) (τ.1 8 (100 * d + 2 * k + 1)) ∧ ti τ τ'' ∧ (sp_mm (τ'.1 1) n m (τ.1 8 (100 * d + 2 * k)) (τ.1 8 (100 * d + 2 * k + 1)) = 1 → τ''.2.2 12 = nI (sp_g (τ'.1 1) m (τ.1 8 (100 * d + 2 * k))) ∧ τ''.2.2 13 = nI (sp_g (τ'.1 1) m (τ.1 8 (100 * d + 2 * k + 1)))) := by
  have ht' := sp_td_of ht hi.2
  have e8 := hi.2.2.1 8 (by decide) (by decide)
  unfold fX11_meetsTold
  rw [md_ob, Option.bind_some, md_first ht' hk, Option.bind_some, md_second ht' hk, Option.bind_some, md_may hS, Option.bind_some, Option.bind_some, Option.bind_some, e8]
  rcases sp_mm_cases hS (τ.1 8 (100 * d + 2 * k)) (τ.1 8 (100 * d + 2 * k + 1)) with ⟨e, eg⟩ | ⟨i, j, g1, g2, -, -, -, -, -, -, -, -, -, -, -, -, -, em, -, -, -⟩
  · rw [if_pos e, eg, e]
    exact ⟨τ', rfl, rfl, hi, fun hh => absurd hh (by decide)⟩
  · rw [if_neg (by rw [em]; decide), md_step hS em, Option.bind_some, em]
    exact ⟨_, rfl, rfl, ti_V (ti_V (ti_A hi _) (by decide) _) (by decide) _, fun _ => ⟨rfl, rfl⟩⟩
theorem rf_ab {F : fl_T} {S : Nat → Int32} (hr : rf b M F S n m) {g : Nat} (hg : g < m) : ah_gr (fl (b + 10) F M) (b + 10) 2 5 = some (b + 10 + 4) ∧ ah_ai (fl (b + 10) F M) (b + 10 + 4) (nI g) = some (S (13 + 5 * g)) := by
  have hm := hr.1.2.1
  refine ⟨fl_r5, ?_⟩
  rw [fl_ai (by decide) (by decide) (show g < fl_n 4 from (by show g < 12; omega)), (hr.2.2.2.2.2.1 g (by omega)).1]
/-! where -/
def sp_whF (n m : Nat) (A B : Nat → Int32) (s : (Nat → Int32) × Unit) (k : Nat) : ((Nat → Int32) × Unit) ⊕ Int32 := .inl (sp_go s.1 n m (A k) (B k), ())
def sp_where (τ : md_T) (n m : Nat) (x y : Int32) : Int32 := if sp_mw τ n m x y = 0 then pl_fe (sp_whF n m (fun k => τ.1 8 (100 * y.toNatClampNeg + 2 * k)) (fun k => τ.1 8 (100 * y.toNatClampNeg + 2 * k + 1))) (fun s => s.1 (13 + 5 * x.toNatClampNeg)) (τ.1 1, ()) 0 ((τ.1 7 y.toNatClampNeg).toNatClampNeg / 2) else sp_mw τ n m x y
theorem sp_K {d K : Nat} (ht : sp_td τ n d K) : (τ.1 7 (nI d).toNatClampNeg).toNatClampNeg / 2 = K ∧ (nI d).toNatClampNeg = d := by
  obtain ⟨hd, k5, k6, k7, hK, k8⟩ := ht
  rw [nI_clamp (by omega), k7, nI_clamp (by omega)]
  exact ⟨by omega, rfl⟩
theorem c_where (h : cs b M τ n m F1) (x y : Int32) : qc (fX10_where M b x y) b M τ n m F1 (sp_where τ n m x y) := by
  unfold fX10_where sp_where
  rw [h.o.ob, Option.bind_some, cs_mw h, Option.bind_some]
  have hm := h.r1.1.2.1
  rcases sp_mw_cases (cs_ts h) hm n x y with ⟨-, h2, h3⟩ | ⟨h1, g, d, K, hg, rfl, rfl, ht⟩
  · rw [if_neg h3, if_neg h2]; exact qc_ref h rfl
  · have hd := ht.1
    have hK := ht.2.2.2.2.1
    obtain ⟨X, eX, rX⟩ := cs_become h
    rw [h1, if_pos (by decide), if_pos rfl, h.o.r4, Option.bind_some, h.o.sh hd, Option.bind_some, h.o.r1, Option.bind_some, h.o.r0, Option.bind_some, eX, Option.bind_some, (sp_K ht).1, (sp_K ht).2, nI_clamp (by omega)]
    apply qc_mind h
    refine cl_run (α := Unit) (fun w N _ k => fX10_where_35 w N b (nI g) (b + 29 + 2 * d) (nI k)) K _ _ (fun w F S x k hk hr => Or.inl ?_) (fun w F S x hr => ⟨F, ?_⟩) ah_fu X (τ.1 1) () (by unfold ah_fu; omega) rX
    · obtain ⟨F', e1, e2⟩ := cs_hold h ht hk hr
      refine ⟨_, (), F', rfl, ?_, e2⟩
      have hc := cs_mind h F
      show fX10_where_35_b _ _ _ _ _ _ = _
      unfold fX10_where_35_b
      rw [cs_meetings hc ht, Option.bind_some, if_neg (nI_ge hk (by omega)), hc.o.r1, Option.bind_some, e1, Option.bind_some, nI_1]
    · have hc := cs_mind h F
      show fX10_where_35_b _ _ _ _ _ _ = _
      unfold fX10_where_35_b
      rw [cs_meetings hc ht, Option.bind_some, if_pos (nI_le (Nat.le_refl _) (by omega)), hc.o.r1, Option.bind_some, (rf_ab hr hg).1, Option.bind_some, (rf_ab hr hg).2, Option.bind_some]
theorem m_where (hS : rf_S (τ.1 1) n m) (hs : ts τ) (x y : Int32) : qm (fX11_where (md a τ M0) a x y) a M0 τ (sp_where τ n m x y) := by
  have hm := hS.2.1
  have e0 : fX11_where (md a τ M0) a x y = fX11_where_17 (md a τ M0) a x y (sp_mw τ n m x y) := by
    unfold fX11_where sp_mw
    rw [md_ob, Option.bind_some, md_isMan hS.2.2.2.1 (by omega), Option.bind_some, md_wrongMeetings hS hs, Option.bind_some]
    split <;> rfl
  rw [e0]
  unfold fX11_where_17 sp_where
  rcases sp_mw_cases hs hm n x y with ⟨-, h2, h3⟩ | ⟨h1, g, d, K, hg, rfl, rfl, ht⟩
  · rw [if_neg h2, if_neg h2]; exact ⟨τ, rfl, te.rfl'⟩
  · have hd := ht.1
    have hK := ht.2.2.2.2.1
    obtain ⟨τ1, eb, ei, es⟩ := ti_begin (a := a) (M0 := M0) (τ := τ)
    rw [if_pos h1, if_pos h1, eb, Option.bind_some, (sp_K ht).1, (sp_K ht).2, nI_clamp (by omega), ← es]
    rw [← es] at hS
    refine ml_run (n := n) (m := m) (α := Unit) (fun w N _ k => fX11_where_31 w N a (nI g) (nI d) (nI k)) K _ _ (fun w τ' x k hk hr hi => Or.inl ?_) (fun w τ' x hr hi => ?_) ah_fu τ1 () (by unfold ah_fu; omega) hS ei
    · obtain ⟨τ'', e1, e2, e3, -⟩ := md_told (a := a) (M0 := M0) hi hr ht hk
      refine ⟨_, (), τ'', rfl, ?_, e2, rf_S_go hr _ _, e3⟩
      show fX11_where_31_b _ _ _ _ _ _ = _
      unfold fX11_where_31_b
      rw [md_meetings (sp_td_of ht hi.2), Option.bind_some, if_neg (nI_ge hk (by omega)), e1, Option.bind_some, nI_1]
    · obtain ⟨τ'', e1, e2, -⟩ := ti_end (a := a) (M0 := M0) hi
      refine ⟨τ'', ?_, e2⟩
      show fX11_where_31_b _ _ _ _ _ _ = _
      unfold fX11_where_31_b
      rw [md_meetings (sp_td_of ht hi.2), Option.bind_some, if_pos (nI_le (Nat.le_refl _) (by omega)), md_get0 (by omega), Option.bind_some, e1, Option.bind_some]
end RUNS
