/-! PURE LEVEL, 26: put, copy, both -/
/-- what is put in keeps its lowest bits -/
def sp_wv (t : Nat) (v : Int32) : Int32 := if t = 0 then v.toInt8.toInt32 else if t = 1 then v.toInt16.toInt32 else v
section SHW
variable {b a : Nat} {M M0 : ah_h} {τ : md_T} {n m z : Nat} {F1 : fl_T}
theorem shA_write {h s t k : Nat} {el : Nat → Int32} (H : shA M h none (nI t) (nI s) el) (hs : s ≤ 100) (ht : t < 3) (hk : k < s) (v : Int32) : ∃ M3, fX7_write M h (nI k) v = some M3 ∧ shA M3 h none (nI t) (nI s) (upd el k (sp_wv t v)) ∧ ∀ q, q ≠ h + 1 → M3 q = M q := by
  have key : ∀ v, ∃ M3, ah_si M (h + 1) (nI k) v = some M3 ∧ shA M3 h none (nI t) (nI s) (upd el k v) ∧ ∀ q, q ≠ h + 1 → M3 q = M q := fun v => by
    refine ⟨_, ah_si_at H.2 (by omega) (by decide), ⟨?_, ah_up_self _ _ _⟩, fun q hq => ah_up_ne _ _ hq⟩
    rw [ah_up_ne _ _ (by omega)]; exact H.1
  obtain ⟨M3, e1, e2, e3⟩ := key (sp_wv t v)
  refine ⟨M3, ?_, e2, e3⟩
  unfold fX7_write
  rw [H.ob, Option.bind_some, H.hasPlace rfl, Option.bind_some, sp_is_in (by omega) hk, if_neg (by decide), H.i1, Option.bind_some, H.r3, Option.bind_some, Option.bind_some, Option.bind_some]
  rcases (show t = 0 ∨ t = 1 ∨ t = 2 by omega) with rfl | rfl | rfl
  · rw [if_pos (by decide), show v.toInt8.toInt32 = sp_wv 0 v from rfl, e1, Option.bind_some]
  · rw [if_neg (by decide), if_pos (by decide), show v.toInt16.toInt32 = sp_wv 1 v from rfl, e1, Option.bind_some]
  · rw [if_neg (by decide), if_neg (by decide)]
    rw [show sp_wv 2 v = v from rfl] at e1
    rw [e1, Option.bind_some]
theorem md_put77 {d k : Nat} (hd : d < 8) (hk : k < 100) (v : Int32) : fX11_put_77 (md a τ M0) (a + 8) (100 * nI d + nI k) v = some (0, md a (md_A τ 8 (upd (τ.1 8) (100 * d + k) v)) M0) := by
  unfold fX11_put_77
  rw [show (100 * nI d + nI k : Int32) = nI (100 * d + k) by rw [show (100 : Int32) = nI 100 from rfl, pk_mul, nI_add], md_si (k := 8) (by decide) (by decide) (by decide) (show 100 * d + k < 800 by omega), Option.bind_some]
theorem p_put (h : wd b M z τ) (x y u : Int32) : ∃ v M1 M2 τ', fX10_put M b x y u = some (v, M1) ∧ fX11_put M1 (b + 53) x y u = some (v, M2) ∧ wd b M2 z τ' := by
  obtain ⟨⟨n, m, F1, hc⟩, hma, ho, hz, hn⟩ := id h
  have ec : fX10_put M b x y u = if 0 ≤ sp_wr τ x (-1) then ((ah_ar M (b + 28) 3 x).bind fun v5 => (fX7_hasPlace M v5 y).bind fun v6 => if v6 = 0 then some (-13, M) else ((ah_ar M (b + 28) 3 x).bind fun v10 => (fX7_write M v10 y u).bind fun v11 => some (0, v11))) else some (sp_wr τ x (-1), M) := by
    unfold fX10_put
    rw [hc.o.ob, Option.bind_some, co_refRow hc.o hc.sh, Option.bind_some, hc.o.r4, Option.bind_some, Option.bind_some]
  have bad : ∀ w, fX10_put M b x y u = some (w, M) → (fX11_put (md (b + 53) τ M) (b + 53) x y u = some (w, md (b + 53) τ M)) → ∃ v M1 M2 τ', fX10_put M b x y u = some (v, M1) ∧ fX11_put M1 (b + 53) x y u = some (v, M2) ∧ wd b M2 z τ' := fun w e1 e2 => ⟨w, M, M, τ, e1, wd_same h (fun N => fX11_put N (b + 53) x y u) e2, h⟩
  have eM0 : ∀ N, ¬ sp_wr τ x (-1) = 0 → fX11_put (md (b + 53) τ N) (b + 53) x y u = some (sp_wr τ x (-1), md (b + 53) τ N) := fun N e => by
    unfold fX11_put
    rw [md_ob, Option.bind_some, md_wrongRow, Option.bind_some, if_neg e]
  rcases sp_wr_cases (cs_ts hc) x (-1) with ⟨l1, l2, l3⟩ | ⟨l1, d, t, s, hd, rfl, k5, ht, hs, k6, k7, -⟩
  · exact bad _ (by rw [ec, if_neg l3]) (eM0 M l2)
  obtain ⟨el, H, hel⟩ := cs_row hc hd k5 ht k6 k7 hs
  have eM : ∀ N, fX11_put (md (b + 53) τ N) (b + 53) (nI d) y u = if sp_is s y = 0 then some (-13, md (b + 53) τ N) else fX11_put_77 (md (b + 53) τ N) (b + 53 + 8) (100 * nI d + y) (sp_wv t u) := fun N => by
    unfold fX11_put
    rw [md_ob, Option.bind_some, md_wrongRow, Option.bind_some, if_pos l1, md_r6, Option.bind_some, md_k7 hd, Option.bind_some, k7, md_isInN _ y (show s < 2 ^ 31 by omega) rfl, Option.bind_some, md_r7, Option.bind_some]
    simp only [md_r5, md_k6 hd, Option.bind_some, k6]
    by_cases c : sp_is s y = 0
    · rw [if_pos c, if_pos c]
    rw [if_neg c, if_neg c]
    rcases (show t = 0 ∨ t = 1 ∨ t = 2 by omega) with rfl | rfl | rfl
    · rw [if_pos (by decide)]; rfl
    · rw [if_neg (by decide), if_pos (by decide)]; rfl
    · rw [if_neg (by decide), if_neg (by decide)]; rfl
  have ec' : fX10_put M b (nI d) y u = if sp_is s y = 0 then some (-13, M) else ((fX7_write M (b + 29 + 2 * d) y u).bind fun v11 => some (0, v11)) := by
    rw [ec, l1, if_pos (by decide), hc.o.sh hd, Option.bind_some, H.hasPlace rfl, Option.bind_some, Option.bind_some]
  rcases sp_is_cases (n := s) (by omega) y with hy | ⟨k, hk, rfl, hy⟩
  · exact bad (-13) (by rw [ec', if_pos hy]) (by rw [eM, if_pos hy])
  have hy' : ¬ sp_is s (nI k) = 0 := by rw [hy]; decide
  obtain ⟨M1, e1, H1, o1⟩ := shA_write H hs ht hk u
  have hcs : cs b M1 (md_A τ 8 (upd (τ.1 8) (100 * d + k) (sp_wv t u))) n m F1 := by
    refine cs_shelf hc hd (fun q e h1 h2 hq => by rw [o1 q h2]; exact hq) rfl rfl rfl (fun d' _ e => ?_) ?_
    · refine ⟨rfl, rfl, rfl, rfl, rfl, fun j hj => ?_⟩
      show upd (τ.1 8) (100 * d + k) (sp_wv t u) (100 * d' + j) = _
      rw [pk_un (by omega)]
    · refine ⟨none, nI t, nI s, _, H1, Or.inr (Or.inr ⟨k5, rfl, t, s, ht, hs, rfl, rfl, k6, k7, fun j hj => ?_⟩)⟩
      show upd el k (sp_wv t u) j = upd (τ.1 8) (100 * d + k) (sp_wv t u) (100 * d + j)
      by_cases e : j = k
      · subst e; rw [pk_us, pk_us]
      · rw [pk_un e, pk_un (by omega), hel j hj]
  obtain ⟨g1, g2⟩ := wd_of h hcs (fun q hq => o1 q (by omega)) te.rfl'
  refine ⟨0, M1, _, _, ?_, ?_, g2⟩
  · rw [ec', if_neg hy', e1, Option.bind_some]
  · conv => lhs; rw [← g1]
    rw [eM, if_neg hy', md_put77 hd (by omega)]
/-! copy -/
theorem sp_sub_lt {s i c : Nat} (hs : s ≤ 100) (hi : i < 2 ^ 31) (hc : c < 2 ^ 31) : nI s - nI i < nI c ↔ s < i + c := by
  rw [Int32.lt_iff_toInt_lt, Int32.toInt_sub, nI_toInt (by omega), nI_toInt hi, nI_toInt hc, Int.bmod_eq_of_le (by omega) (by omega)]
  constructor <;> intro h <;> omega
theorem shA.stretch {h s : Nat} {cap : Option Nat} {so : Int32} {el : Nat → Int32} (H : shA M h cap so (nI s) el) (hs : s ≤ 100) (x y : Int32) : fX7_hasStretch M h x y = some 0 ∧ (x < 0 ∨ y < 0 ∨ ∃ i c : Nat, i < 2 ^ 31 ∧ c < 2 ^ 31 ∧ x = nI i ∧ y = nI c ∧ s < i + c) ∨ fX7_hasStretch M h x y = some 1 ∧ ∃ i c : Nat, x = nI i ∧ y = nI c ∧ i + c ≤ s := by
  unfold fX7_hasStretch
  rw [H.ob, Option.bind_some, H.i2, Option.bind_some, Option.bind_some]
  by_cases a1 : x < 0
  · rw [if_pos a1]; exact Or.inl ⟨rfl, Or.inl a1⟩
  rw [if_neg a1]
  by_cases a2 : y < 0
  · rw [if_pos a2]; exact Or.inl ⟨rfl, Or.inr (Or.inl a2)⟩
  rw [if_neg a2]
  obtain ⟨i, hi, rfl⟩ := nI_of a1
  obtain ⟨c, hc, rfl⟩ := nI_of a2
  by_cases a3 : s < i
  · rw [if_pos (nI_lt a3 hi)]
    exact Or.inl ⟨rfl, Or.inr (Or.inr ⟨i, c, hi, hc, rfl, rfl, by omega⟩)⟩
  rw [if_neg (nI_nlt (by omega) (by omega))]
  by_cases a4 : s < i + c
  · rw [if_pos ((sp_sub_lt hs hi hc).mpr a4)]
    exact Or.inl ⟨rfl, Or.inr (Or.inr ⟨i, c, hi, hc, rfl, rfl, a4⟩)⟩
  · rw [if_neg (fun q => a4 ((sp_sub_lt hs hi hc).mp q))]
    exact Or.inr ⟨rfl, i, c, rfl, rfl, by omega⟩
theorem md_cpy {d e i j c : Nat} (hd : d < 8) (he : e < 8) (hi : i + c ≤ 100) (hj : j + c ≤ 100) : ∃ g, fX11_copy_122 ah_fu (md a τ M0) a (nI d) (nI i) (nI e) (nI j) (nI c) 0 = some (nI c, md a (md_A τ 8 g) M0) ∧ ∀ q, g q = if 100 * e + j ≤ q ∧ q < 100 * e + j + c then τ.1 8 (100 * d + i + (q - (100 * e + j))) else τ.1 8 q := by
  have ix : ∀ u v w : Nat, ((100 * nI u + nI v) + nI w : Int32) = nI (100 * u + v + w) := fun u v w => by rw [show (100 : Int32) = nI 100 from rfl, pk_mul, nI_add, nI_add]
  have step : ∀ (w k p : Nat) (g : Nat → Int32), p < c → fX11_copy_147 (fX11_copy_122 w) (md a (md_A τ 8 g) M0) a (nI d) (nI i) (nI e) (nI j) (nI c) (nI k) (nI p) = fX11_copy_122 w (md a (md_A τ 8 (upd g (100 * e + j + p) (g (100 * d + i + p)))) M0) a (nI d) (nI i) (nI e) (nI j) (nI c) (nI (k + 1)) := fun w k p g hp => by
    unfold fX11_copy_147
    rw [md_r7, Option.bind_some, Option.bind_some, ix, md_k8 (by omega), Option.bind_some, ix, md_si (k := 8) (by decide) (by decide) (by decide) (show 100 * e + j + p < 800 by omega), Option.bind_some, md_A1, md_AA, nI_1]
  by_cases hij : i ≤ j
  · have := pl_run (fun w (g : Nat → Int32) k => fX11_copy_122 w (md a (md_A τ 8 g) M0) a (nI d) (nI i) (nI e) (nI j) (nI c) (nI k)) c (fun k g => ∀ q, g q = if 100 * e + j + (c - k) ≤ q ∧ q < 100 * e + j + c then τ.1 8 (100 * d + i + (q - (100 * e + j))) else τ.1 8 q) (fun r => ∃ g, r = (nI c, md a (md_A τ 8 g) M0) ∧ ∀ q, g q = if 100 * e + j ≤ q ∧ q < 100 * e + j + c then τ.1 8 (100 * d + i + (q - (100 * e + j))) else τ.1 8 q) ?_ ?_ ah_fu (τ.1 8) 0 (by omega) (by unfold ah_fu; omega) (fun q => by rw [if_neg (by omega)])
    · obtain ⟨r, e, g, rfl, h1⟩ := this
      refine ⟨g, ?_, h1⟩
      rw [← e]
      show _ = fX11_copy_122 ah_fu (md a (md_A τ 8 (τ.1 8)) M0) a _ _ _ _ _ (nI 0)
      rw [md_Aself]
      rfl
    · intro w g k hk hg
      refine Or.inl ⟨upd g (100 * e + j + (c - 1 - k)) (g (100 * d + i + (c - 1 - k))), ?_, fun q => ?_⟩
      · show fX11_copy_122_b (fX11_copy_122 w) (md a (md_A τ 8 g) M0) a (nI d) (nI i) (nI e) (nI j) (nI c) (nI k) = _
        unfold fX11_copy_122_b
        rw [if_neg (nI_ge hk (by omega)), if_pos (nI_le hij (by omega)), show (nI c - 1 - nI k : Int32) = nI (c - 1 - k) by rw [show (1 : Int32) = nI 1 from rfl, pk_sub (by omega), pk_sub (by omega)], step w k _ g (by omega)]
      · by_cases eq : q = 100 * e + j + (c - 1 - k)
        · subst eq
          rw [pk_us, if_pos (by omega), hg, if_neg (by omega)]
          exact congrArg (τ.1 8) (by omega)
        · rw [pk_un eq, hg]
          by_cases hc1 : 100 * e + j + (c - k) ≤ q ∧ q < 100 * e + j + c
          · rw [if_pos hc1, if_pos (by omega)]
          · rw [if_neg hc1, if_neg (by omega)]
    · intro w g hg
      refine ⟨_, ?_, g, rfl, fun q => ?_⟩
      · show fX11_copy_122_b (fX11_copy_122 w) (md a (md_A τ 8 g) M0) a (nI d) (nI i) (nI e) (nI j) (nI c) (nI c) = _
        unfold fX11_copy_122_b
        rw [if_pos (nI_le (Nat.le_refl _) (by omega))]
      · rw [hg, Nat.sub_self, Nat.add_zero]
  · have := pl_run (fun w (g : Nat → Int32) k => fX11_copy_122 w (md a (md_A τ 8 g) M0) a (nI d) (nI i) (nI e) (nI j) (nI c) (nI k)) c (fun k g => ∀ q, g q = if 100 * e + j ≤ q ∧ q < 100 * e + j + k then τ.1 8 (100 * d + i + (q - (100 * e + j))) else τ.1 8 q) (fun r => ∃ g, r = (nI c, md a (md_A τ 8 g) M0) ∧ ∀ q, g q = if 100 * e + j ≤ q ∧ q < 100 * e + j + c then τ.1 8 (100 * d + i + (q - (100 * e + j))) else τ.1 8 q) ?_ ?_ ah_fu (τ.1 8) 0 (by omega) (by unfold ah_fu; omega) (fun q => by rw [if_neg (by omega)])
    · obtain ⟨r, e, g, rfl, h1⟩ := this
      refine ⟨g, ?_, h1⟩
      rw [← e]
      show _ = fX11_copy_122 ah_fu (md a (md_A τ 8 (τ.1 8)) M0) a _ _ _ _ _ (nI 0)
      rw [md_Aself]
      rfl
    · intro w g k hk hg
      refine Or.inl ⟨upd g (100 * e + j + k) (g (100 * d + i + k)), ?_, fun q => ?_⟩
      · show fX11_copy_122_b (fX11_copy_122 w) (md a (md_A τ 8 g) M0) a (nI d) (nI i) (nI e) (nI j) (nI c) (nI k) = _
        unfold fX11_copy_122_b
        rw [if_neg (nI_ge hk (by omega)), if_neg (nI_ge (by omega) (by omega)), step w k _ g (by omega)]
      · by_cases eq : q = 100 * e + j + k
        · subst eq
          rw [pk_us, if_pos (by omega), hg, if_neg (by omega)]
          exact congrArg (τ.1 8) (by omega)
        · rw [pk_un eq, hg]
          by_cases hc1 : 100 * e + j ≤ q ∧ q < 100 * e + j + k
          · rw [if_pos hc1, if_pos (by omega)]
          · rw [if_neg hc1, if_neg (by omega)]
    · intro w g hg
      refine ⟨_, ?_, g, rfl, hg⟩
      show fX11_copy_122_b (fX11_copy_122 w) (md a (md_A τ 8 g) M0) a (nI d) (nI i) (nI e) (nI j) (nI c) (nI c) = _
      unfold fX11_copy_122_b
      rw [if_pos (nI_le (Nat.le_refl _) (by omega))]
end SHW
