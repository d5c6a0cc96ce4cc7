/-! PURE LEVEL, 5: the reference's gives -/
theorem sp_fd12 {σ : Type} {f : σ → Nat → σ} {s : σ} {m : Nat} (hm : m ≤ 12) (h : ∀ s j, m ≤ j → f s j = s) : pl_fd f s 0 m = pl_fd f s 0 12 := by
  have := pl_fd_add f s 0 m (12 - m)
  rw [show m + (12 - m) = 12 by omega, Nat.zero_add] at this
  rw [this]
  exact (pl_fd_id (fun s j h1 _ => h s j h1)).symm
theorem sp_sinceF_hi {g : Bool} {si : Nat → Int32} {w m : Nat} (hw : w < 2 ^ m) (b : Option Nat) (j : Nat) (h : m ≤ j) : sp_sinceF g si w b j = b := by
  unfold sp_sinceF
  rw [sp_hi hw h]
  rfl
theorem sp_sinceF_lt {g : Bool} {si : Nat → Int32} {w : Nat} {b : Option Nat} {k : Nat} (hb : ∀ j, b = some j → j < k) : ∀ j, sp_sinceF g si w b k = some j → j < k + 1 := by
  intro j h
  unfold sp_sinceF at h
  split at h
  · split at h
    · cases h; omega
    · next i =>
      have := hb i rfl
      split at h <;> (cases h; omega)
  · have := hb j h
    omega
section MDG
variable {a : Nat} {τ : md_T} {M0 : ah_h} {n m : Nat}
theorem md_bySince (h : τ.1 1 1 = nI m) (hm : m ≤ 12) {w : Nat} (hw : w < 2 ^ m) (g : Bool) {x : Int32} (hx : x = if g then 1 else 0) : fX11_bySince (md a τ M0) a (nI w) x = some (sp_I (sp_since g (fun j => τ.1 1 (13 + 5 * j + 3)) w)) := by
  subst hx
  have hw' : w < 2 ^ 31 := Nat.lt_of_lt_of_le hw (Nat.pow_le_pow_right (by decide) (by omega))
  unfold fX11_bySince sp_since
  rw [md_ob, Option.bind_some, ← sp_fd12 hm (fun b j h => sp_sinceF_hi hw b j h)]
  have := pl_loop (fun n b k => fX11_bySince_6 (md a τ M0) n a (nI w) (if g then 1 else 0) (sp_I b) (nI k)) m (sp_sinceF g (fun j => τ.1 1 (13 + 5 * j + 3)) w) sp_I (fun k b => ∀ j, b = some j → j < k) ?_ (fun s k _ hi => sp_sinceF_lt hi) ?_ ah_fu none 0 (by omega) (by unfold ah_fu; omega) (fun j h => by cases h)
  · exact this
  · intro n b k hk hi
    show fX11_bySince_6_b _ _ _ _ _ _ _ = _
    unfold fX11_bySince_6_b fX11_bySince_72 fX11_bySince_75 sp_sinceF
    rw [md_r0, Option.bind_some, md_s1, Option.bind_some, h, if_neg (nI_ge hk (by omega)), nI_1]
    simp only [pl_mb0 hw' (show k < 31 by omega)]
    by_cases hb : w.testBit k = true
    · rw [if_neg (by rw [hb]; decide), if_pos hb]
      cases b with
      | none => rw [if_pos (by decide)]; rfl
      | some j =>
        have hj := hi j rfl
        rw [if_neg (show ¬ sp_I (some j) < 0 from nI_pos (by omega))]
        show (if _ then _ else _) = _
        rw [md_get3 (by omega), show sp_I (some j) = nI j from rfl, md_get3 (by omega), Option.bind_some, Option.bind_some]
        cases g with
        | false =>
          rw [if_pos (by decide)]
          by_cases hc : τ.1 1 (13 + 5 * j + 3) ≤ τ.1 1 (13 + 5 * k + 3)
          · simp [hc, sp_I, sp_keep]
          · simp [hc, sp_I, sp_keep]
        | true =>
          rw [if_neg (by decide), Option.bind_some, Option.bind_some]
          by_cases hc : τ.1 1 (13 + 5 * k + 3) < τ.1 1 (13 + 5 * j + 3)
          · simp [hc, sp_I, sp_keep]
          · simp [hc, sp_I, sp_keep]
    · have hb' : w.testBit k = false := by simpa using hb
      rw [if_pos hb', if_neg hb]
  · intro n b _
    show fX11_bySince_6_b _ _ _ _ _ _ _ = _
    unfold fX11_bySince_6_b
    rw [md_r0, Option.bind_some, md_s1, Option.bind_some, h, if_pos (nI_le (Nat.le_refl _) (by omega))]
theorem sp_notF_hi {tr : Nat → Int32} {w m : Nat} {t : Int32} (hw : w < 2 ^ m) (r j : Nat) (h : m ≤ j) : sp_notF tr w t r j = r := by
  unfold sp_notF
  rw [sp_hi hw h]
  rfl
theorem md_notOf (h : τ.1 1 1 = nI m) (hm : m ≤ 12) {w : Nat} (hw : w < 2 ^ m) (t : Int32) : fX11_notOf (md a τ M0) a (nI w) t = some (nI (sp_not (fun j => τ.1 1 (13 + 5 * j + 1)) w t)) := by
  have hw' : w < 2 ^ 31 := Nat.lt_of_lt_of_le hw (Nat.pow_le_pow_right (by decide) (by omega))
  unfold fX11_notOf sp_not
  rw [md_ob, Option.bind_some, ← sp_fd12 hm (fun b j h => sp_notF_hi hw b j h)]
  have := pl_loop (fun n (r : Nat) k => fX11_notOf_5 (md a τ M0) n a (nI w) t (nI r) (nI k)) m (sp_notF (fun j => τ.1 1 (13 + 5 * j + 1)) w t) (fun r => nI r) (fun _ _ => True) ?_ (fun _ _ _ _ => trivial) ?_ ah_fu 0 0 (by omega) (by unfold ah_fu; omega) trivial
  · exact this
  · intro n r k hk _
    show fX11_notOf_5_b _ _ _ _ _ _ _ = _
    unfold fX11_notOf_5_b fX11_notOf_44 sp_notF
    rw [md_r0, Option.bind_some, md_s1, Option.bind_some, h, if_neg (nI_ge hk (by omega)), nI_1]
    simp only [pl_mb1 hw' (show k < 31 by omega)]
    by_cases hb : w.testBit k = true
    · rw [if_pos hb, if_pos hb, md_get1 (by omega), Option.bind_some, pl_orb (by omega)]
      by_cases hc : τ.1 1 (13 + 5 * k + 1) = t
      · simp only [if_pos hc]
      · simp only [if_neg hc]
    · rw [if_neg hb, if_neg hb]
  · intro n b _
    show fX11_notOf_5_b _ _ _ _ _ _ _ = _
    unfold fX11_notOf_5_b
    rw [md_r0, Option.bind_some, md_s1, Option.bind_some, h, if_pos (nI_le (Nat.le_refl _) (by omega))]
theorem sp_likeF_hi {to : Nat → Int32} {w m : Nat} {t : Int32} (hw : w < 2 ^ m) (r j : Nat) (h : m ≤ j) : sp_likeF to w t r j = r := by
  unfold sp_likeF
  rw [sp_hi hw h]
  rfl
theorem md_likeTongue (h : τ.1 1 1 = nI m) (hm : m ≤ 12) {w q : Nat} (hw : w < 2 ^ m) (hq : q < 12) : fX11_likeTongue (md a τ M0) a (nI w) (nI q) = some (nI (sp_like (fun j => τ.1 1 (13 + 5 * j + 2)) w (τ.1 1 (13 + 5 * q + 2)))) := by
  have hw' : w < 2 ^ 31 := Nat.lt_of_lt_of_le hw (Nat.pow_le_pow_right (by decide) (by omega))
  unfold fX11_likeTongue sp_like
  rw [md_ob, Option.bind_some, ← sp_fd12 hm (fun b j h => sp_likeF_hi hw b j h)]
  have := pl_loop (fun n (r : Nat) k => fX11_likeTongue_5 (md a τ M0) n a (nI w) (nI q) (nI r) (nI k)) m (sp_likeF (fun j => τ.1 1 (13 + 5 * j + 2)) w (τ.1 1 (13 + 5 * q + 2))) (fun r => nI r) (fun _ _ => True) ?_ (fun _ _ _ _ => trivial) ?_ ah_fu 0 0 (by omega) (by unfold ah_fu; omega) trivial
  · exact this
  · intro n r k hk _
    show fX11_likeTongue_5_b _ _ _ _ _ _ _ = _
    unfold fX11_likeTongue_5_b fX11_likeTongue_47 fX11_likeTongue_48 sp_likeF
    rw [md_r0, Option.bind_some, md_s1, Option.bind_some, h, if_neg (nI_ge hk (by omega)), nI_1]
    simp only [pl_mb1 hw' (show k < 31 by omega)]
    by_cases hb : w.testBit k = true
    · rw [if_pos hb, if_pos hb, md_get2 (by omega), Option.bind_some, md_get2 hq, Option.bind_some]
      simp only [nI_1]
      by_cases hc : τ.1 1 (13 + 5 * k + 2) = τ.1 1 (13 + 5 * q + 2)
      · simp only [if_pos hc]
      · simp only [if_neg hc]
        rw [show nI r + 0 = nI r from nI_add r 0]
    · rw [if_neg hb, if_neg hb, show nI r + 0 = nI r from nI_add r 0]
      simp only [nI_1]
  · intro n b _
    show fX11_likeTongue_5_b _ _ _ _ _ _ _ = _
    unfold fX11_likeTongue_5_b
    rw [md_r0, Option.bind_some, md_s1, Option.bind_some, h, if_pos (nI_le (Nat.le_refl _) (by omega))]
theorem sp_like_le {to : Nat → Int32} {w : Nat} {t : Int32} : sp_like to w t ≤ 12 := by
  have := pl_fd_inv (f := sp_likeF to w t) (fun j s => s ≤ j) (s := 0) (k := 0) (c := 12) (Nat.le_refl _) (fun s j _ _ h3 => by
    unfold sp_likeF
    split
    · split <;> omega
    · omega)
  exact this
theorem sp_bestF_hi {to : Nat → Int32} {w c m : Nat} (hw : c < 2 ^ m) (b : Option Nat) (j : Nat) (h : m ≤ j) : sp_bestF to w c b j = b := by
  unfold sp_bestF
  rw [sp_hi hw h]
  rfl
theorem sp_bestF_lt {to : Nat → Int32} {w c : Nat} {b : Option Nat} {k : Nat} (hb : ∀ j, b = some j → j < k) : ∀ j, sp_bestF to w c b k = some j → j < k + 1 := by
  intro j h
  unfold sp_bestF at h
  split at h
  · split at h
    · cases h; omega
    · next i =>
      have := hb i rfl
      split at h <;> (cases h; omega)
  · have := hb j h
    omega
theorem md_bestOf (h : τ.1 1 1 = nI m) (hm : m ≤ 12) {w c : Nat} (hw : w < 2 ^ m) (hc : c < 2 ^ m) : fX11_bestOf (md a τ M0) a (nI w) (nI c) = some (sp_I (sp_best (fun j => τ.1 1 (13 + 5 * j + 2)) w c)) := by
  have hc' : c < 2 ^ 31 := Nat.lt_of_lt_of_le hc (Nat.pow_le_pow_right (by decide) (by omega))
  unfold fX11_bestOf sp_best
  rw [md_ob, Option.bind_some, ← sp_fd12 hm (fun b j h => sp_bestF_hi hc b j h)]
  have := pl_loop (fun n b k => fX11_bestOf_6 (md a τ M0) n a (nI w) (nI c) (sp_I b) (nI k)) m (sp_bestF (fun j => τ.1 1 (13 + 5 * j + 2)) w c) sp_I (fun k b => ∀ j, b = some j → j < k) ?_ (fun s k _ hi => sp_bestF_lt hi) ?_ ah_fu none 0 (by omega) (by unfold ah_fu; omega) (fun j h => by cases h)
  · exact this
  · intro n b k hk hi
    show fX11_bestOf_6_b _ _ _ _ _ _ _ = _
    unfold fX11_bestOf_6_b fX11_bestOf_47 fX11_bestOf_50 sp_bestF
    rw [md_r0, Option.bind_some, md_s1, Option.bind_some, h, if_neg (nI_ge hk (by omega)), nI_1]
    simp only [pl_mb1 hc' (show k < 31 by omega)]
    by_cases hb : c.testBit k = true
    · rw [if_pos hb, if_pos hb]
      cases b with
      | none => rw [if_pos (by decide)]; rfl
      | some j =>
        have hj := hi j rfl
        rw [if_neg (show ¬ sp_I (some j) < 0 from nI_pos (by omega)), md_likeTongue h hm hw (by omega), Option.bind_some, show sp_I (some j) = nI j from rfl, md_likeTongue h hm hw (by omega), Option.bind_some]
        simp only [nI_leI (Nat.lt_of_le_of_lt sp_like_le (by decide)) (Nat.lt_of_le_of_lt sp_like_le (by decide))]
        by_cases hd : sp_like (fun j => τ.1 1 (13 + 5 * j + 2)) w (τ.1 1 (13 + 5 * k + 2)) ≤ sp_like (fun j => τ.1 1 (13 + 5 * j + 2)) w (τ.1 1 (13 + 5 * j + 2))
        · simp only [if_pos hd]; rfl
        · simp only [if_neg hd]; rfl
    · rw [if_neg hb, if_neg hb]
  · intro n b _
    show fX11_bestOf_6_b _ _ _ _ _ _ _ = _
    unfold fX11_bestOf_6_b
    rw [md_r0, Option.bind_some, md_s1, Option.bind_some, h, if_pos (nI_le (Nat.le_refl _) (by omega))]
theorem sp_not_lt {tr : Nat → Int32} {w m : Nat} {t : Int32} (hm : m ≤ 12) (hw : w < 2 ^ m) : sp_not tr w t < 2 ^ m := by
  unfold sp_not
  rw [← sp_fd12 hm (fun b j h => sp_notF_hi hw b j h)]
  have := pl_fd_inv (f := sp_notF tr w t) (fun j s => s < 2 ^ m) (s := 0) (k := 0) (c := m) (Nat.two_pow_pos m) (fun s j _ hj h3 => by
    unfold sp_notF
    split
    · split
      · exact h3
      · exact pl_or_lt h3 (by omega)
    · exact h3)
  exact this
theorem md_bySinceT (h : τ.1 1 1 = nI m) (hm : m ≤ 12) {w : Nat} (hw : w < 2 ^ m) : fX11_bySince (md a τ M0) a (nI w) 1 = some (sp_I (sp_since true (fun j => τ.1 1 (13 + 5 * j + 3)) w)) := md_bySince h hm hw true rfl
theorem md_bySinceF (h : τ.1 1 1 = nI m) (hm : m ≤ 12) {w : Nat} (hw : w < 2 ^ m) : fX11_bySince (md a τ M0) a (nI w) 0 = some (sp_I (sp_since false (fun j => τ.1 1 (13 + 5 * j + 3)) w)) := md_bySince h hm hw false rfl
/-- the captain of ship i: kind and figure -/
theorem md_gives (h : τ.1 1 1 = nI m) (hm : m ≤ 12) {i kd fg : Nat} (hi : i < 5) (hk : τ.1 1 (3 + 2 * i) = nI kd) (hk8 : kd < 8) (hf : τ.1 1 (3 + 2 * i + 1) = nI fg) (hf10 : fg < 10) :
    fX11_gives (md a τ M0) a (nI i) = some (sp_I (sp_gift (fun j => τ.1 1 (13 + 5 * j + 1)) (fun j => τ.1 1 (13 + 5 * j + 2)) (fun j => τ.1 1 (13 + 5 * j + 3)) kd fg (sp_cw (τ.1 1) (nI i) m))) := by
  unfold fX11_gives
  rw [md_ob, Option.bind_some, md_aboard h hm, Option.bind_some, md_figure hi, Option.bind_some, hf]
  have hw := sp_cw_lt (τ.1 1) (nI i) m
  generalize sp_cw (τ.1 1) (nI i) m = w at hw ⊢
  have hw12 : w < 2 ^ 12 := Nat.lt_of_lt_of_le hw (Nat.pow_le_pow_right (by decide) hm)
  have hw' : w < 2 ^ 31 := Nat.lt_trans hw12 (by decide)
  by_cases h0 : w = 0
  · subst h0
    rw [if_pos (show nI 0 = 0 from rfl)]
    rfl
  · have hp := sp_pc_pos hw12 h0
    rw [if_neg (nI_ne0 (by omega) hw'), md_kind hi, Option.bind_some, hk]
    have at0 : ∀ u, u < 2 ^ m → u ≠ 0 → fX11_at (md a τ M0) (nI u) 0 = some (nI (sp_nth u 0)) := fun u hu hu0 => by
      have hu12 : u < 2 ^ 12 := Nat.lt_of_lt_of_le hu (Nat.pow_le_pow_right (by decide) hm)
      exact (sp_at0 (md a τ M0) hu12 (sp_pc_pos hu12 hu0)).1
    have rm4 : nI fg - nI fg / 4 * 4 = nI (fg % 4) := pk_rem (d := 4) (by omega) (by decide) (by decide)
    have pc12 : sp_pc w ≤ 12 := pl_fd_inv (f := fun c k => c + (w.testBit k).toNat) (fun j s => s ≤ j) (s := 0) (k := 0) (c := 12) (Nat.le_refl _) (fun s j _ _ h3 => by cases w.testBit j <;> simp <;> omega)
    have nn : ∀ u, u < 2 ^ m → (nI u = 0) = (u = 0) := fun u hu => propext (by
      have hu12 : u < 2 ^ 12 := Nat.lt_of_lt_of_le hu (Nat.pow_le_pow_right (by decide) hm)
      rw [show (0 : Int32) = nI 0 from rfl, nI_eq (Nat.lt_trans hu12 (by decide)) (by decide)])
    have hnot := sp_not_lt (tr := fun j => τ.1 1 (13 + 5 * j + 1)) (t := nI (fg % 4)) hm hw
    have hclr : pl_clr w fg < 2 ^ m := Nat.lt_of_le_of_lt (pl_clr_le w fg) hw
    rcases (show kd = 0 ∨ kd = 1 ∨ kd = 2 ∨ kd = 3 ∨ kd = 4 ∨ kd = 5 ∨ kd = 6 ∨ kd = 7 by omega) with rfl | rfl | rfl | rfl | rfl | rfl | rfl | rfl
    · rw [if_neg (by decide), if_neg (by decide), if_neg (by decide), if_neg (by decide), if_neg (by decide), if_neg (by decide), if_neg (by decide), at0 w hw h0]
      simp [sp_gift, h0, sp_I]
    · rw [if_pos (by decide), sp_bits _ (by omega), Option.bind_some, if_neg (nI_ne0 hp (by omega)), pk_rem (by omega) hp (by omega), (sp_at0 _ hw12 (Nat.mod_lt _ hp)).1]
      simp [sp_gift, h0, sp_I]
    · rw [if_neg (by decide), if_pos (by decide), md_bySinceT h hm hw]
      simp [sp_gift, h0]
    · rw [if_neg (by decide), if_neg (by decide), if_pos (by decide), md_bySinceF h hm hw]
      simp [sp_gift, h0]
    · rw [if_neg (by decide), if_neg (by decide), if_neg (by decide), if_pos (by decide), rm4, md_notOf h hm hw, Option.bind_some]
      unfold fX11_gives_114
      simp only [nn _ hnot]
      by_cases hu : sp_not (fun j => τ.1 1 (13 + 5 * j + 1)) w (nI (fg % 4)) = 0
      · rw [if_pos hu, at0 w hw h0]
        simp [sp_gift, h0, hu, sp_I]
      · rw [if_neg hu, at0 _ hnot hu]
        simp [sp_gift, h0, hu, sp_I]
    · rw [if_neg (by decide), if_neg (by decide), if_neg (by decide), if_neg (by decide), if_pos (by decide), rm4, md_notOf h hm hw, Option.bind_some]
      unfold fX11_gives_142
      simp only [nn _ hnot]
      by_cases hu : sp_not (fun j => τ.1 1 (13 + 5 * j + 1)) w (nI (fg % 4)) = 0
      · rw [if_pos hu, md_bestOf h hm hw hw]
        simp [sp_gift, h0, hu]
      · rw [if_neg hu, md_bestOf h hm hw hnot]
        simp [sp_gift, h0, hu]
    · rw [if_neg (by decide), if_neg (by decide), if_neg (by decide), if_neg (by decide), if_neg (by decide), if_pos (by decide)]
      simp only [pl_mb1 hw' (show fg < 31 by omega)]
      by_cases hb : w.testBit fg = true
      · rw [if_pos hb]
        simp [sp_gift, h0, hb, sp_I]
      · rw [if_neg hb, at0 w hw h0]
        simp [sp_gift, h0, hb, sp_I]
    · rw [if_neg (by decide), if_neg (by decide), if_neg (by decide), if_neg (by decide), if_neg (by decide), if_neg (by decide), if_pos (by decide), pl_nand (by omega)]
      unfold fX11_gives_186
      simp only [nn _ hclr]
      by_cases hu : pl_clr w fg = 0
      · rw [if_pos hu, md_bySinceF h hm hw]
        simp [sp_gift, h0, hu]
      · rw [if_neg hu, md_bySinceF h hm hclr]
        simp [sp_gift, h0, hu]
end MDG
