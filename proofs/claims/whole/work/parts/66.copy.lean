/-! PURE LEVEL, 27: copy, both -/
section SHC
variable {b a : Nat} {M M0 : ah_h} {τ : md_T} {n m z : Nat} {F1 : fl_T}
theorem sr_hold {d : Nat} (h : sr b M τ d) : (τ.1 5 d = 0 ∧ fX7_holdsNothing M (b + 29 + 2 * d) = some 1) ∨ (τ.1 5 d = 1 ∧ fX7_holdsNothing M (b + 29 + 2 * d) = some 0 ∧ fX7_holdsRow M (b + 29 + 2 * d) = some 0) ∨
    (τ.1 5 d = 2 ∧ fX7_holdsNothing M (b + 29 + 2 * d) = some 0 ∧ fX7_holdsRow M (b + 29 + 2 * d) = some 1 ∧ ∃ t s el, t < 3 ∧ s ≤ 100 ∧ τ.1 6 d = nI t ∧ τ.1 7 d = nI s ∧ shA M (b + 29 + 2 * d) none (nI t) (nI s) el ∧ ∀ k, k < 100 → el k = τ.1 8 (100 * d + k)) := by
  obtain ⟨cap, so, si, el, H, hc⟩ := h
  unfold fX7_holdsNothing fX7_holdsRow
  rw [H.ob, Option.bind_some, H.q0, Option.bind_some, H.i1, Option.bind_some, Option.bind_some, Option.bind_some]
  rcases hc with ⟨k1, rfl, rfl⟩ | ⟨k1, rfl, c, kd, fg, rfl, -⟩ | ⟨k1, rfl, t, s, ht, hs, rfl, rfl, k6, k7, k8⟩
  · exact Or.inl ⟨k1, rfl⟩
  · exact Or.inr (Or.inl ⟨k1, rfl, rfl⟩)
  · refine Or.inr (Or.inr ⟨k1, ?_, ?_, t, s, el, ht, hs, k6, k7, H, k8⟩)
    · rw [if_pos rfl, if_pos (nI_pos' (by omega))]
    · rw [if_neg (nI_pos (by omega))]
theorem ah_cpy_at {p q c i j : Nat} {f g : Nat → Int32} (h1 : M p = some (ah_I 100 f)) (h2 : M q = some (ah_I 100 g)) (hi : i + c ≤ 100) (hj : j + c ≤ 100) : ah_cpy M p (nI i) q (nI j) (nI c) = some (ah_up M q (ah_I 100 (va_cpy f g i j c))) := by
  unfold ah_cpy
  rw [h1, h2]
  show (if ¬ nI i < 0 ∧ ¬ nI j < 0 ∧ ¬ nI c < 0 ∧ (nI i).toNatClampNeg + (nI c).toNatClampNeg ≤ 100 ∧ (nI j).toNatClampNeg + (nI c).toNatClampNeg ≤ 100 then some (ah_up M q (ah_I 100 (va_cpy f g (nI i).toNatClampNeg (nI j).toNatClampNeg (nI c).toNatClampNeg))) else none) = _
  rw [nI_clamp (by omega), nI_clamp (by omega), nI_clamp (by omega), if_pos ⟨nI_pos (by omega), nI_pos (by omega), nI_pos (by omega), hi, hj⟩]
theorem p_copy (h : wd b M z τ) (x i y j u : Int32) : ∃ v M1 M2 τ', fX10_copy M b x i y j u = some (v, M1) ∧ fX11_copy M1 (b + 53) x i y j u = some (v, M2) ∧ wd b M2 z τ' := by
  obtain ⟨⟨n, m, F1, hc⟩, hma, ho, hz, hn⟩ := id h
  have bad : ∀ w, fX10_copy M b x i y j u = some (w, M) → (fX11_copy (md (b + 53) τ M) (b + 53) x i y j u = some (w, md (b + 53) τ M)) → ∃ v M1 M2 τ', fX10_copy M b x i y j u = some (v, M1) ∧ fX11_copy M1 (b + 53) x i y j u = some (v, M2) ∧ wd b M2 z τ' := fun w e1 e2 => ⟨w, M, M, τ, e1, wd_same h (fun N => fX11_copy N (b + 53) x i y j u) e2, h⟩
  have c0 : fX10_copy M b x i y j u = if sp_is 8 x = 0 then some (-1, M) else if sp_is 8 y = 0 then some (-1, M) else ((ah_ar M (b + 28) 3 x).bind fun v6 => (ah_ar M (b + 28) 3 y).bind fun v8 => (fX7_holdsNothing M v6).bind fun v9 => if v9 = 0 then ((fX7_holdsNothing M v8).bind fun v12 => if v12 = 0 then ((fX7_holdsRow M v6).bind fun v15 => if v15 = 0 then (some ((-12), M)) else ((fX7_holdsRow M v8).bind fun v18 => if v18 = 0 then (some ((-12), M)) else ((ah_gi M v6 7 1).bind fun v21 => (ah_gi M v8 7 1).bind fun v22 => if v21 = v22 then ((fX7_hasStretch M v6 i u).bind fun v24 => if v24 = 0 then (some ((-13), M)) else ((fX7_hasStretch M v8 j u).bind fun v27 => if v27 = 0 then (some ((-13), M)) else ((ah_gr M v6 7 3).bind fun v30 => (ah_gr M v8 7 3).bind fun v31 => (ah_cpy M v30 i v31 j u).bind fun M32 => some (u, M32)))) else (some ((-12), M))))) else (some ((-11), M))) else (some ((-11), M))) := by
    unfold fX10_copy
    rw [hc.o.ob, Option.bind_some, co_isShelf, Option.bind_some, co_isShelf, Option.bind_some]
    simp only [hc.o.r4, Option.bind_some]
  have m0 : ∀ N, fX11_copy (md (b + 53) τ N) (b + 53) x i y j u = if sp_is 8 x = 0 then some (-1, md (b + 53) τ N) else if sp_is 8 y = 0 then some (-1, md (b + 53) τ N) else ((ah_ai (md (b + 53) τ N) (b + 53 + 5) x).bind fun v6 => if v6 = 0 then (some ((-11), (md (b + 53) τ N))) else ((ah_ai (md (b + 53) τ N) (b + 53 + 5) y).bind fun v9 => if v9 = 0 then (some ((-11), (md (b + 53) τ N))) else ((ah_ai (md (b + 53) τ N) (b + 53 + 5) x).bind fun v12 => if v12 = 2 then ((ah_ai (md (b + 53) τ N) (b + 53 + 5) y).bind fun v15 => if v15 = 2 then ((ah_ai (md (b + 53) τ N) (b + 53 + 6) x).bind fun v18 => (ah_ai (md (b + 53) τ N) (b + 53 + 6) y).bind fun v20 => if v18 = v20 then (if u < 0 then (some ((-13), (md (b + 53) τ N))) else (if i < 0 then (some ((-13), (md (b + 53) τ N))) else (if j < 0 then (some ((-13), (md (b + 53) τ N))) else ((ah_ai (md (b + 53) τ N) (b + 53 + 7) x).bind fun v26 => if (v26 - i) < u then (some ((-13), (md (b + 53) τ N))) else ((ah_ai (md (b + 53) τ N) (b + 53 + 7) y).bind fun v29 => if u ≤ (v29 - j) then (fX11_copy_122 ah_fu (md (b + 53) τ N) (b + 53) x i y j u 0) else (some ((-13), (md (b + 53) τ N)))))))) else (some ((-12), (md (b + 53) τ N)))) else (some ((-12), (md (b + 53) τ N)))) else (some ((-12), (md (b + 53) τ N)))))) := fun N => by
    unfold fX11_copy
    rw [md_ob, Option.bind_some, md_isShelf, Option.bind_some, md_isShelf, Option.bind_some]
    simp only [md_r4, md_r5, md_r6, Option.bind_some]
  rcases sp_is_cases (n := 8) (by decide) x with hx | ⟨d, hd, rfl, hx⟩
  · exact bad (-1) (by rw [c0, if_pos hx]) (by rw [m0, if_pos hx])
  have hx' : ¬ sp_is 8 (nI d) = 0 := by rw [hx]; decide
  rcases sp_is_cases (n := 8) (by decide) y with hy | ⟨e, he, rfl, hy⟩
  · exact bad (-1) (by rw [c0, if_neg hx', if_pos hy]) (by rw [m0, if_neg hx', if_pos hy])
  have hy' : ¬ sp_is 8 (nI e) = 0 := by rw [hy]; decide
  rw [if_neg hx', if_neg hy', hc.o.sh hd, Option.bind_some, hc.o.sh he, Option.bind_some] at c0
  have m1 := m0
  simp only [if_neg hx', if_neg hy', md_k5 hd, md_k5 he, md_k6 hd, md_k6 he, md_k7 hd, md_k7 he, Option.bind_some] at m1
  clear m0
  rcases sr_hold (hc.sh d hd) with ⟨k1, k2⟩ | ⟨k1, k2, k3⟩ | ⟨k1, k2, k3, t, s, el, ht, hs, k6, k7, H, k8⟩
  · exact bad (-11) (by rw [c0, k2, Option.bind_some, if_neg (by decide)]) (by rw [m1, k1, if_pos rfl])
  · rcases sr_hold (hc.sh e he) with ⟨l1, l2⟩ | ⟨l1, l2, l3⟩ | ⟨l1, l2, l3, t', s', el', ht', hs', l6, l7, H', l8⟩
    · exact bad (-11) (by rw [c0, k2, Option.bind_some, if_pos rfl, l2, Option.bind_some, if_neg (by decide)]) (by rw [m1, k1, if_neg (by decide), l1, if_pos rfl])
    · exact bad (-12) (by rw [c0, k2, Option.bind_some, if_pos rfl, l2, Option.bind_some, if_pos rfl, k3, Option.bind_some, if_pos rfl]) (by rw [m1, k1, if_neg (by decide), l1, if_neg (by decide), if_neg (by decide)])
    · exact bad (-12) (by rw [c0, k2, Option.bind_some, if_pos rfl, l2, Option.bind_some, if_pos rfl, k3, Option.bind_some, if_pos rfl]) (by rw [m1, k1, if_neg (by decide), l1, if_neg (by decide), if_neg (by decide)])
  · rcases sr_hold (hc.sh e he) with ⟨l1, l2⟩ | ⟨l1, l2, l3⟩ | ⟨l1, l2, l3, t', s', el', ht', hs', l6, l7, H', l8⟩
    · exact bad (-11) (by rw [c0, k2, Option.bind_some, if_pos rfl, l2, Option.bind_some, if_neg (by decide)]) (by rw [m1, k1, if_neg (by decide), l1, if_pos rfl])
    · exact bad (-12) (by rw [c0, k2, Option.bind_some, if_pos rfl, l2, Option.bind_some, if_pos rfl, k3, Option.bind_some, if_neg (by decide), l3, Option.bind_some, if_pos rfl]) (by rw [m1, k1, if_neg (by decide), l1, if_neg (by decide), if_pos rfl, if_neg (by decide)])
    rw [k2, Option.bind_some, if_pos rfl, l2, Option.bind_some, if_pos rfl, k3, Option.bind_some, if_neg (by decide), l3, Option.bind_some, if_neg (by decide), H.i1, Option.bind_some, H'.i1, Option.bind_some, H.r3, H'.r3] at c0
    have m2 := m1
    simp only [k1, l1, if_neg (show ¬ (2 : Int32) = 0 by decide), if_true, k6, l6, k7, l7] at m2
    clear m1
    by_cases ett : ¬ nI t = nI t'
    · exact bad (-12) (by rw [c0, if_neg ett]) (by rw [m2, if_neg ett])
    have ett := Classical.not_not.mp ett
    rw [if_pos ett] at c0
    have m3 : ∀ N, _ := fun N => by have := m2 N; rw [if_pos ett] at this; exact this
    clear m2
    have bad13 : (fX7_hasStretch M (b + 29 + 2 * d) i u = some 0 ∨ (fX7_hasStretch M (b + 29 + 2 * d) i u = some 1 ∧ fX7_hasStretch M (b + 29 + 2 * e) j u = some 0)) → fX10_copy M b (nI d) i (nI e) j u = some (-13, M) := fun hh => by
      rcases hh with q | ⟨q1, q2⟩
      · rw [c0, q, Option.bind_some, if_pos rfl]
      · rw [c0, q1, Option.bind_some, if_neg (by decide), q2, Option.bind_some, if_pos rfl]
    rcases H.stretch hs i u with ⟨q1, q2⟩ | ⟨q1, i', c, rfl, rfl, q2⟩
    · refine bad (-13) (bad13 (Or.inl q1)) ?_
      rw [m3]
      by_cases a1 : u < 0
      · rw [if_pos a1]
      by_cases a2 : i < 0
      · rw [if_neg a1, if_pos a2]
      by_cases a3 : j < 0
      · rw [if_neg a1, if_neg a2, if_pos a3]
      rw [if_neg a1, if_neg a2, if_neg a3]
      rcases q2 with q2 | q2 | ⟨i', c, hi', hc', rfl, rfl, q2⟩
      · exact absurd q2 a2
      · exact absurd q2 a1
      · rw [if_pos ((sp_sub_lt hs hi' hc').mpr q2)]
    rcases H'.stretch hs' j (nI c) with ⟨r1, r2⟩ | ⟨r1, j', c', rfl, ec', r2⟩
    · refine bad (-13) (bad13 (Or.inr ⟨q1, r1⟩)) ?_
      rw [m3, if_neg (nI_pos (by omega)), if_neg (nI_pos (by omega))]
      by_cases a3 : j < 0
      · rw [if_pos a3]
      rw [if_neg a3, if_neg (fun q => absurd ((sp_sub_lt hs (by omega) (by omega)).mp q) (by omega))]
      rcases r2 with r2 | r2 | ⟨j', c', hj', hc', rfl, ec', r2⟩
      · exact absurd r2 a3
      · exact absurd r2 (nI_pos (by omega))
      · have : c = c' := (nI_eq (by omega) hc').mp ec'
        subst this
        rw [if_neg (show ¬ nI c ≤ nI s' - nI j' by rw [Int32.not_le, sp_sub_lt hs' hj' (by omega)]; exact r2)]
    · have hcs' : c ≤ 100 := by omega
      have hj2 : j' + c ≤ s' := by
        by_cases hc2 : c' < 2 ^ 31
        · have : c = c' := (nI_eq (by omega) hc2).mp ec'
          omega
        · omega
      obtain ⟨g, f1, f2⟩ := md_cpy (a := b + 53) (τ := τ) (M0 := ah_up M (b + 29 + 2 * e + 1) (ah_I 100 (va_cpy el el' i' j' c))) hd he (show i' + c ≤ 100 by omega) (show j' + c ≤ 100 by omega)
      have hcs : cs b (ah_up M (b + 29 + 2 * e + 1) (ah_I 100 (va_cpy el el' i' j' c))) (md_A τ 8 g) n m F1 := by
        refine cs_shelf hc he (fun q e' h1 h2 hq => by rw [ah_up_ne _ _ h2]; exact hq) rfl rfl rfl (fun d' _ e' => ?_) ?_
        · refine ⟨rfl, rfl, rfl, rfl, rfl, fun k hk => ?_⟩
          show g (100 * d' + k) = _
          rw [f2, if_neg (by omega)]
        · refine ⟨none, nI t', nI s', va_cpy el el' i' j' c, ⟨?_, ah_up_self _ _ _⟩, Or.inr (Or.inr ⟨l1, rfl, t', s', ht', hs', rfl, rfl, l6, l7, fun k hk => ?_⟩)⟩
          · rw [ah_up_ne _ _ (by omega)]; exact H'.1
          · show va_cpy el el' i' j' c k = g (100 * e + k)
            rw [f2]
            by_cases hin : j' ≤ k ∧ k < j' + c
            · rw [pk_cpy_in hin.1 hin.2, if_pos (by omega), k8 _ (by omega)]
              exact congrArg (τ.1 8) (by omega)
            · rw [pk_cpy_out (by omega), if_neg (by omega), l8 k hk]
      obtain ⟨g1, g2⟩ := wd_of h hcs (fun q hq => ah_up_ne _ _ (by omega)) te.rfl'
      refine ⟨nI c, ah_up M (b + 29 + 2 * e + 1) (ah_I 100 (va_cpy el el' i' j' c)), _, _, ?_, ?_, g2⟩
      · rw [c0, q1, Option.bind_some, if_neg (by decide), r1, Option.bind_some, if_neg (by decide), Option.bind_some, Option.bind_some, ah_cpy_at H.2 H'.2 (by omega) (by omega), Option.bind_some]
      · conv => lhs; rw [← g1]
        rw [m3, if_neg (nI_pos (by omega)), if_neg (nI_pos (by omega)), if_neg (nI_pos (by omega)), if_neg (fun q => absurd ((sp_sub_lt hs (by omega) (by omega)).mp q) (by omega)), if_pos (show nI c ≤ nI s' - nI j' by rw [← Int32.not_lt, sp_sub_lt hs' (by omega) (by omega)]; omega)]
        exact f1
end SHC
