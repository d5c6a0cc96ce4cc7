/-! PURE LEVEL, 7: whom the class's captains give -/
section CG
variable {a : Nat} {F : fl_T} {M0 : ah_h} {m : Nat}
theorem cg_new {w : Nat} (c : Nat) (hw : w < 2 ^ 12) : fX5_gift (fl a F M0) c a (nI w) = some (sp_I (sp_since true (F.2.2 7) w)) := by
  have hw' : w < 2 ^ 31 := Nat.lt_trans hw (by decide)
  unfold fX5_gift sp_since
  have := pl_loop (fun n b k => fX5_gift_6 (fl a F M0) n a (nI w) (sp_I b) (nI k)) 12 (sp_sinceF true (F.2.2 7) w) sp_I (fun k b => ∀ j, b = some j → j < k) ?_ (fun s k _ hi => sp_sinceF_lt hi) ?_ ah_fu none 0 (by omega) (by decide) (fun j h => by cases h)
  · exact this
  · intro n b k hk hi
    show fX5_gift_6_b _ _ _ _ _ _ = _
    unfold fX5_gift_6_b fX5_gift_42 fX5_gift_45 sp_sinceF
    rw [if_neg (pl_n12 hk), sp_has _ hw' (by omega), Option.bind_some, nI_1]
    by_cases hb : w.testBit k = true
    · rw [if_pos hb, if_pos hb, if_neg (by decide)]
      cases b with
      | none => rw [if_pos (by decide)]; rfl
      | some j =>
        have hj := hi j rfl
        rw [if_neg (show ¬ sp_I (some j) < 0 from nI_pos (by omega)), fl_r8, Option.bind_some, fl_ai (by decide) (by decide) (show k < fl_n 7 from hk), Option.bind_some, Option.bind_some, show sp_I (some j) = nI j from rfl, fl_ai (by decide) (by decide) (show j < fl_n 7 from (by show j < 12; omega)), Option.bind_some]
        by_cases hc : F.2.2 7 k < F.2.2 7 j
        · simp [hc, sp_I, sp_keep]
        · simp [hc, sp_I, sp_keep]
    · rw [if_neg hb, if_neg hb, if_pos rfl]
  · intro n b _
    show fX5_gift_6_b _ _ _ _ _ _ = _
    unfold fX5_gift_6_b
    rw [if_pos (pl_12 (by omega) (by decide))]
theorem cg_old {w : Nat} (c : Nat) (hw : w < 2 ^ 12) : fX6_gift (fl a F M0) c a (nI w) = some (sp_I (sp_since false (F.2.2 7) w)) := by
  have hw' : w < 2 ^ 31 := Nat.lt_trans hw (by decide)
  unfold fX6_gift sp_since
  have := pl_loop (fun n b k => fX6_gift_6 (fl a F M0) n a (nI w) (sp_I b) (nI k)) 12 (sp_sinceF false (F.2.2 7) w) sp_I (fun k b => ∀ j, b = some j → j < k) ?_ (fun s k _ hi => sp_sinceF_lt hi) ?_ ah_fu none 0 (by omega) (by decide) (fun j h => by cases h)
  · exact this
  · intro n b k hk hi
    show fX6_gift_6_b _ _ _ _ _ _ = _
    unfold fX6_gift_6_b fX6_gift_42 fX6_gift_45 sp_sinceF
    rw [if_neg (pl_n12 hk), sp_has _ hw' (by omega), Option.bind_some, nI_1]
    by_cases hb : w.testBit k = true
    · rw [if_pos hb, if_pos hb, if_neg (by decide)]
      cases b with
      | none => rw [if_pos (by decide)]; rfl
      | some j =>
        have hj := hi j rfl
        rw [if_neg (show ¬ sp_I (some j) < 0 from nI_pos (by omega)), fl_r8, Option.bind_some, fl_ai (by decide) (by decide) (show k < fl_n 7 from hk), Option.bind_some, Option.bind_some, show sp_I (some j) = nI j from rfl, fl_ai (by decide) (by decide) (show j < fl_n 7 from (by show j < 12; omega)), Option.bind_some]
        by_cases hc : F.2.2 7 j ≤ F.2.2 7 k
        · simp [hc, sp_I, sp_keep]
        · simp [hc, sp_I, sp_keep]
    · rw [if_neg hb, if_neg hb, if_pos rfl]
  · intro n b _
    show fX6_gift_6_b _ _ _ _ _ _ = _
    unfold fX6_gift_6_b
    rw [if_pos (pl_12 (by omega) (by decide))]
theorem cg_unwanted {w c kd fg : Nat} (hw : w < 2 ^ 12) (hc : cp (fl a F M0) c kd fg) : fX9_unwanted (fl a F M0) c a (nI w) = some (nI (if sp_not (F.2.2 5) w (nI (fg % 4)) = 0 then w else sp_not (F.2.2 5) w (nI (fg % 4)))) := by
  have hw' : w < 2 ^ 31 := Nat.lt_trans hw (by decide)
  have hfg := hc.2.2
  have rm4 : nI fg - nI fg / 4 * 4 = nI (fg % 4) := pk_rem (d := 4) (by omega) (by decide) (by decide)
  unfold fX9_unwanted sp_not
  have := pl_loop (fun n (r : Nat) k => fX9_unwanted_5 (fl a F M0) n c a (nI w) (nI r) (nI k)) 12 (sp_notF (F.2.2 5) w (nI (fg % 4))) (fun r => nI (if r = 0 then w else r)) (fun _ r => r < 2 ^ 12) ?_ ?_ ?_ ah_fu 0 0 (by omega) (by decide) (by decide)
  · exact this
  · intro n r k hk _
    show fX9_unwanted_5_b _ _ _ _ _ _ _ = _
    unfold fX9_unwanted_5_b fX9_unwanted_44 sp_notF
    rw [if_neg (pl_n12 hk), sp_has _ hw' (by omega), Option.bind_some, nI_1]
    by_cases hb : w.testBit k = true
    · rw [if_pos hb, if_pos hb, if_neg (by decide), fl_r6, Option.bind_some, fl_ai (by decide) (by decide) (show k < fl_n 5 from hk), Option.bind_some, cp_fg hc, Option.bind_some, rm4, pl_orb (by omega)]
      by_cases he : F.2.2 5 k = nI (fg % 4)
      · simp only [if_pos he]
      · simp only [if_neg he]
    · rw [if_neg hb, if_neg hb, if_pos rfl]
  · intro r k hk hr
    show sp_notF (F.2.2 5) w (nI (fg % 4)) r k < 2 ^ 12
    unfold sp_notF
    split
    · split
      · exact hr
      · exact pl_or_lt hr hk
    · exact hr
  · intro n r hr
    show fX9_unwanted_5_b _ _ _ _ _ _ _ = _
    unfold fX9_unwanted_5_b
    rw [if_pos (pl_12 (by omega) (by decide))]
    by_cases h0 : r = 0
    · subst h0; rw [if_pos (show nI 0 = 0 from rfl), if_pos rfl]
    · rw [if_neg (nI_ne0 (by omega) (Nat.lt_trans hr (by decide))), if_neg h0]
theorem cg_speakers (h : F.1 1 = nI m) (hm : m ≤ 12) {w : Nat} (hw : w < 2 ^ m) (t : Int32) : fX2_speakers (fl a F M0) a (nI w) t = some (nI (sp_like (F.2.2 6) w t)) := by
  have hw' : w < 2 ^ 31 := Nat.lt_of_lt_of_le hw (Nat.pow_le_pow_right (by decide) (by omega))
  unfold fX2_speakers sp_like
  rw [fl_ob, Option.bind_some, ← sp_fd12 hm (fun b j h => sp_likeF_hi hw b j h)]
  have := pl_loop (fun n (r : Nat) k => fX2_speakers_5 (fl a F M0) n a (nI w) t (nI r) (nI k)) m (sp_likeF (F.2.2 6) w t) (fun r => nI r) (fun _ _ => True) ?_ (fun _ _ _ _ => trivial) ?_ ah_fu 0 0 (by omega) (by unfold ah_fu; omega) trivial
  · exact this
  · intro n r k hk _
    show fX2_speakers_5_b _ _ _ _ _ _ _ = _
    unfold fX2_speakers_5_b fX2_speakers_37 sp_likeF
    rw [fl_i1, Option.bind_some, h, if_neg (nI_ge hk (by omega)), sp_has _ hw' (by omega), Option.bind_some]
    simp only [nI_1]
    by_cases hb : w.testBit k = true
    · rw [if_pos hb, if_pos hb, if_neg (by decide), fl_r7, Option.bind_some, fl_ai (by decide) (by decide) (show k < fl_n 6 from (by show k < 12; omega)), Option.bind_some]
      by_cases he : F.2.2 6 k = t
      · simp only [if_pos he]
      · simp only [if_neg he]
    · rw [if_neg hb, if_neg hb, if_pos rfl]
  · intro n r _
    show fX2_speakers_5_b _ _ _ _ _ _ _ = _
    unfold fX2_speakers_5_b
    rw [fl_i1, Option.bind_some, h, if_pos (nI_le (Nat.le_refl _) (by omega))]
/-- a speaker of his own tongue counts himself -/
theorem sp_like_pos {to : Nat → Int32} {w k : Nat} (hk : k < 12) (hb : w.testBit k = true) : 0 < sp_like to w (to k) := by
  have mono : ∀ (c j r : Nat), r ≤ pl_fd (sp_likeF to w (to k)) r j c := by
    intro c
    induction c with
    | zero => intro j r; exact Nat.le_refl _
    | succ c ih =>
      intro j r
      refine Nat.le_trans ?_ (ih (j + 1) _)
      unfold sp_likeF
      split
      · split <;> omega
      · omega
  have key : ∀ (c j r : Nat), j ≤ k → k < j + c → 0 < pl_fd (sp_likeF to w (to k)) r j c := by
    intro c
    induction c with
    | zero => intro j r h1 h2; omega
    | succ c ih =>
      intro j r h1 h2
      show 0 < pl_fd _ (sp_likeF to w (to k) r j) (j + 1) c
      by_cases e : j = k
      · subst e
        have : sp_likeF to w (to j) r j = r + 1 := by simp [sp_likeF, hb]
        rw [this]
        exact Nat.lt_of_lt_of_le (Nat.succ_pos r) (mono c (j + 1) (r + 1))
      · exact ih (j + 1) _ (by omega) (by omega)
  exact key 12 0 0 (Nat.zero_le _) (by omega)
theorem cg_best (h : F.1 1 = nI m) (hm : m ≤ 12) {w u : Nat} (hw : w < 2 ^ m) (hu : u < 2 ^ m) (hsub : ∀ k, u.testBit k = true → w.testBit k = true) : fX0_gift_17 (fl a F M0) ah_fu a (nI w) (nI u) (-4) 0 0 = some (sp_I (sp_best (F.2.2 6) w u)) := by
  have hu' : u < 2 ^ 31 := Nat.lt_of_lt_of_le hu (Nat.pow_le_pow_right (by decide) (by omega))
  have hw12 : w < 2 ^ 12 := Nat.lt_of_lt_of_le hw (Nat.pow_le_pow_right (by decide) hm)
  unfold sp_best
  have := pl_loop (fun n (b : Option Nat) k => fX0_gift_17 (fl a F M0) n a (nI w) (nI u) (sp_I b) (nI (match b with | none => 0 | some j => sp_like (F.2.2 6) w (F.2.2 6 j))) (nI k)) 12 (sp_bestF (F.2.2 6) w u) sp_I (fun k b => ∀ j, b = some j → j < k) ?_ (fun s k _ hi => sp_bestF_lt hi) ?_ ah_fu none 0 (by omega) (by decide) (fun j h => by cases h)
  · exact this
  · intro n b k hk hi
    show fX0_gift_17_b _ _ _ _ _ _ _ _ = _
    unfold fX0_gift_17_b fX0_gift_62 sp_bestF
    rw [if_neg (pl_n12 hk), sp_has _ hu' (by omega), Option.bind_some]
    simp only [nI_1]
    by_cases hb : u.testBit k = true
    · rw [if_pos hb, if_pos hb, if_neg (by decide), fl_r7, Option.bind_some, fl_ai (by decide) (by decide) (show k < fl_n 6 from hk), Option.bind_some, cg_speakers h hm hw, Option.bind_some]
      cases b with
      | none =>
        rw [if_neg (nI_ge (sp_like_pos hk (hsub k hb)) (Nat.lt_of_le_of_lt sp_like_le (by decide)))]
        rfl
      | some j =>
        simp only [nI_leI (Nat.lt_of_le_of_lt (sp_like_le (to := F.2.2 6) (w := w) (t := F.2.2 6 k)) (by decide)) (Nat.lt_of_le_of_lt (sp_like_le (to := F.2.2 6) (w := w) (t := F.2.2 6 j)) (by decide))]
        by_cases hd : sp_like (F.2.2 6) w (F.2.2 6 k) ≤ sp_like (F.2.2 6) w (F.2.2 6 j)
        · simp only [if_pos hd]
        · simp only [if_neg hd]; rfl
    · rw [if_neg hb, if_neg hb, if_pos rfl]
  · intro n b _
    show fX0_gift_17_b _ _ _ _ _ _ _ _ = _
    unfold fX0_gift_17_b
    rw [if_pos (pl_12 (by omega) (by decide))]
theorem sp_not_sub {tr : Nat → Int32} {w : Nat} {t : Int32} (k : Nat) : (sp_not tr w t).testBit k = true → w.testBit k = true := by
  have := pl_fd_inv (f := sp_notF tr w t) (fun _ s => ∀ k, s.testBit k = true → w.testBit k = true) (s := 0) (k := 0) (c := 12) (fun k h => by simp at h) (fun s j _ _ h3 k hk => by
    unfold sp_notF at hk
    split at hk
    · next hb =>
      split at hk
      · exact h3 k hk
      · rw [pl_or_tb] at hk
        simp only [Bool.or_eq_true, decide_eq_true_eq] at hk
        rcases hk with hk | rfl
        · exact h3 k hk
        · exact hb
    · exact h3 k hk)
  exact this k
theorem sp_since_0 {g : Bool} {si : Nat → Int32} : sp_since g si 0 = none := pl_fd_id (fun s j _ _ => by simp [sp_sinceF])
theorem sp_not_0 {tr : Nat → Int32} {t : Int32} : sp_not tr 0 t = 0 := pl_fd_id (fun s j _ _ => by simp [sp_notF])
theorem sp_best_0 {to : Nat → Int32} {w : Nat} : sp_best to w 0 = none := pl_fd_id (fun s j _ _ => by simp [sp_bestF])
theorem sp_gift_0 {tr to si : Nat → Int32} {kd fg : Nat} : sp_gift tr to si kd fg 0 = none := by simp [sp_gift]
/-- the class's captain gives as the reference's -/
theorem cg_gift (h : F.1 1 = nI m) (hm : m ≤ 12) {w c kd fg : Nat} (hw : w < 2 ^ m) (hc : cp (fl a F M0) c kd fg) : dv_gift (fl a F M0) c a (nI w) = some (sp_I (sp_gift (F.2.2 5) (F.2.2 6) (F.2.2 7) kd fg w)) := by
  have hw12 : w < 2 ^ 12 := Nat.lt_of_lt_of_le hw (Nat.pow_le_pow_right (by decide) hm)
  have hw' : w < 2 ^ 31 := Nat.lt_trans hw12 (by decide)
  obtain ⟨-, hkd, hfg⟩ := id hc
  have pc12 : sp_pc w ≤ 12 := pl_fd_inv (f := fun c k => c + (w.testBit k).toNat) (fun j s => s ≤ j) (s := 0) (k := 0) (c := 12) (Nat.le_refl _) (fun s j _ _ h3 => by cases w.testBit j <;> simp <;> omega)
  have hoc := cp_oc hc
  have hob := cp_ob hc
  have hnot := sp_not_lt (tr := F.2.2 5) (t := nI (fg % 4)) hm hw
  have hsel : (if sp_not (F.2.2 5) w (nI (fg % 4)) = 0 then w else sp_not (F.2.2 5) w (nI (fg % 4))) < 2 ^ m := by split <;> assumption
  have hsel12 := Nat.lt_of_lt_of_le hsel (Nat.pow_le_pow_right (n := 2) (by decide) hm)
  have hsub : ∀ k, (if sp_not (F.2.2 5) w (nI (fg % 4)) = 0 then w else sp_not (F.2.2 5) w (nI (fg % 4))).testBit k = true → w.testBit k = true := by
    intro k hk
    split at hk
    · exact hk
    · exact sp_not_sub k hk
  unfold dv_gift
  rw [hoc, Option.bind_some]
  rcases (show kd = 0 ∨ kd = 1 ∨ kd = 2 ∨ kd = 3 ∨ kd = 4 ∨ kd = 5 ∨ kd = 6 ∨ kd = 7 by omega) with rfl | rfl | rfl | rfl | rfl | rfl | rfl | rfl
  · show fX1_gift (fl a F M0) c a (nI w) = _
    rw [cg_cap _ c a hw12]
    by_cases h0 : w = 0
    · simp [sp_gift, h0, sp_I]
    · simp [sp_gift, h0, sp_I]
  · show fX4_gift (fl a F M0) c a (nI w) = _
    unfold fX4_gift fX4_gift_20
    rw [sp_bc _ hw12, Option.bind_some, cp_fg hc, Option.bind_some]
    by_cases h0 : w = 0
    · subst h0
      rw [if_neg (show ¬ (1 : Int32) ≤ nI (sp_pc 0) by decide), show (0 : Int32) = nI 0 from rfl, cg_lot _ hw' 12 0 0 ah_fu rfl (by decide) (by decide), sp_gift_0]
      exact congrArg some (by decide +kernel)
    · have hp := sp_pc_pos hw12 h0
      rw [if_pos (show (1 : Int32) ≤ nI (sp_pc w) from nI_le (a := 1) (by omega) (by omega)), if_neg (nI_ne0 hp (by omega)), pk_rem (by omega) hp (by omega), show (0 : Int32) = nI 0 from rfl, cg_lot _ hw' 12 0 _ ah_fu rfl (Nat.lt_of_lt_of_le (Nat.mod_lt _ hp) (by omega)) (by decide), ← sp_nth_eq]
      have := (sp_at0 (fl a F M0) hw12 (Nat.mod_lt fg hp)).2.1
      have e : sp_N (sp_nth w (fg % sp_pc w)) = nI (sp_nth w (fg % sp_pc w)) := by unfold sp_N; rw [if_neg (by omega)]
      rw [e]
      simp [sp_gift, h0, sp_I]
  · show fX5_gift (fl a F M0) c a (nI w) = _
    rw [cg_new c hw12]
    by_cases h0 : w = 0
    · subst h0; rw [sp_gift_0, sp_since_0]
    · simp [sp_gift, h0]
  · show fX6_gift (fl a F M0) c a (nI w) = _
    rw [cg_old c hw12]
    by_cases h0 : w = 0
    · subst h0; rw [sp_gift_0, sp_since_0]
    · simp [sp_gift, h0]
  · show fX9_gift (fl a F M0) c a (nI w) = _
    unfold fX9_gift
    rw [show ah_ob (fl a F M0) c 9 = _ from hob, Option.bind_some, cg_unwanted hw12 hc, Option.bind_some, hoc, Option.bind_some, cg_cap _ c a hsel12, Option.bind_some]
    by_cases h0 : w = 0
    · subst h0; rw [sp_gift_0, sp_not_0]; rfl
    · have : ¬ (if sp_not (F.2.2 5) w (nI (fg % 4)) = 0 then w else sp_not (F.2.2 5) w (nI (fg % 4))) = 0 := by split <;> assumption
      rw [if_neg this]
      simp [sp_gift, h0, sp_I]
  · show fX0_gift (fl a F M0) c a (nI w) = _
    unfold fX0_gift
    rw [show ah_ob (fl a F M0) c 0 = _ from hob, Option.bind_some, cg_unwanted hw12 hc, Option.bind_some, cg_best h hm hw hsel hsub]
    by_cases h0 : w = 0
    · subst h0; rw [sp_gift_0, sp_not_0]; exact congrArg (fun b => some (sp_I b)) sp_best_0
    · simp [sp_gift, h0]
  · show fX8_gift (fl a F M0) c a (nI w) = _
    unfold fX8_gift
    rw [cp_fg hc, Option.bind_some, sp_has _ hw' (by omega), Option.bind_some, hoc, Option.bind_some, cg_cap _ c a hw12, Option.bind_some, Option.bind_some]
    by_cases h0 : w = 0
    · subst h0; simp [sp_gift, sp_I]
    · by_cases hb : w.testBit fg = true
      · rw [if_pos hb, if_neg (by decide)]
        simp [sp_gift, h0, hb, sp_I]
      · rw [if_neg hb, if_pos rfl, if_neg h0]
        simp [sp_gift, h0, hb, sp_I]
  · show fX3_gift (fl a F M0) c a (nI w) = _
    unfold fX3_gift fX3_gift_22
    have hclr : pl_clr w fg < 2 ^ 12 := Nat.lt_of_le_of_lt (pl_clr_le w fg) hw12
    rw [cp_fg hc, Option.bind_some, pl_nand (by omega), hoc, Option.bind_some, cg_old c hw12, Option.bind_some, Option.bind_some, cg_old c hclr, Option.bind_some]
    by_cases h0 : w = 0
    · subst h0
      have e : pl_clr 0 fg = 0 := Nat.zero_and _
      rw [e, if_pos (show nI 0 = 0 from rfl), sp_gift_0, sp_since_0]
    · by_cases hu : pl_clr w fg = 0
      · rw [if_pos (by rw [hu]; rfl)]
        simp [sp_gift, h0, hu]
      · rw [if_neg (nI_ne0 (by omega) (Nat.lt_trans hclr (by decide)))]
        simp [sp_gift, h0, hu]
end CG
