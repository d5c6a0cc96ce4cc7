-- X10_judge
def fX10_judge_33_b   (k33 : ah_h → Nat → Nat → Int32 → Option (Int32 × ah_h))  (M : ah_h) (a0 : Nat) (a3 : Nat) (x4 : Int32) : Option (Int32 × ah_h) := (ah_gi M a3 7 2).bind fun v1 => if v1 ≤ (x4 + 3) then ((ah_gi M a3 7 2).bind fun v3 => if v3 ≤ x4 then (some ((-4), M)) else (some (x4, M))) else ((ah_gr M a0 10 1).bind fun v5 => (fX10_faultOfGifts M v5 a3 x4).bind fun v6 => if v6 < 0 then ((ah_gr M a0 10 1).bind fun v8 => (fX7_at M a3 x4).bind fun v9 => (fX7_at M a3 (x4 + 1)).bind fun v11 => (fX2_holdMeeting M v8 v9 v11).bind fun v13 => k33 v13.2 a0 a3 (x4 + 4)) else (some (v6, M)))
def fX10_judge_33    : Nat → ah_h → Nat → Nat → Int32 → Option (Int32 × ah_h)
  | 0 => fun _ _ _ _ => none
  | n + 1 => fun M a0 a3 x4 => fX10_judge_33_b   (fX10_judge_33    n)  M a0 a3 x4
set_option maxRecDepth 100000 in
set_option maxHeartbeats 4000000 in
theorem wX10_judge_33_b {p : Program} {l : Launch} {e : Env} {s : State} {m : MethodId} {args : Array Value} {below : List Frame} {meth : Method} {c : Code} {D : va_G} {ca : Nat → ClassId} {H0 : Heap} {z : Nat} (K : ah_K p s m args meth c D ca "ShipsThatMeet" cX10_judge 6 (some .int))   (k33 : ah_h → Nat → Nat → Int32 → Option (Int32 × ah_h)) (hk33 : ∀ (M : ah_h) (a0 : Nat) (a3 : Nat) (x4 : Int32)  (H : Heap) (locs : List Loc) (ls : Array Slot), ah_g H0 D ca M z H → ah_L H0 locs → lv_has ls 6 [(0, .ref a0), (3, .ref a3), (4, .int x4)] → ∀ Z, k33 M a0 a3 x4 = some Z → W p l e { frames := 5, cells := 0, slots := 0, locals := 117 } s m args below meth c H locs 0 0 (ah_Q below args s H0 D ca 0 0 (some (.int Z.1)) Z.2 z) (F0 m 33 ls [])) : ∀ (M : ah_h) (a0 : Nat) (a3 : Nat) (x4 : Int32)  (H : Heap) (locs : List Loc) (ls : Array Slot), ah_g H0 D ca M z H → ah_L H0 locs → lv_has ls 6 [(0, .ref a0), (3, .ref a3), (4, .int x4)] → ∀ Z, fX10_judge_33_b   k33  M a0 a3 x4 = some Z → W p l e { frames := 5, cells := 0, slots := 0, locals := 117 } s m args below meth c H locs 0 0 (ah_Q below args s H0 D ca 0 0 (some (.int Z.1)) Z.2 z) (F0 m 33 ls []) := by
  intro M a0 a3 x4 H locs ls hG hL hl Z hf
  unfold fX10_judge_33_b at hf
  refine lv_iload K.1 K.2.1 dX10_judge_33 (lv_at hl 2 rfl) ?_
  refine lv_iconst (v := 3) K.1 K.2.1 dX10_judge_35 (by decide) ?_
  refine lv_iadd K.1 K.2.1 dX10_judge_36 ?_
  refine lv_aload_n K.1 K.2.1 dX10_judge_37 rfl (lv_at hl 1 rfl) ?_
  obtain ⟨v1, ev1, hf⟩ := Option.bind_eq_some_iff.mp hf
  refine ah_geti K hG ev1 ffX10_58_7 dX10_judge_38 ?_
  refine lv_icmp_ge (tgt := 92) K.1 K.2.1 dX10_judge_41 (by decide) (fun h2 => ?_) (fun h2 => ?_)
  · rw [if_pos h2] at hf
    refine lv_iload K.1 K.2.1 dX10_judge_92 (lv_at hl 2 rfl) ?_
    refine lv_aload_n K.1 K.2.1 dX10_judge_94 rfl (lv_at hl 1 rfl) ?_
    obtain ⟨v3, ev3, hf⟩ := Option.bind_eq_some_iff.mp hf
    refine ah_geti K hG ev3 ffX10_58_7 dX10_judge_95 ?_
    refine lv_icmp_ge (tgt := 106) K.1 K.2.1 dX10_judge_98 (by decide) (fun h4 => ?_) (fun h4 => ?_)
    · rw [if_pos h4] at hf
      refine lv_bipush (v := (-4)) K.1 K.2.1 dX10_judge_106 (by decide) ?_
      have hf := Option.some.inj hf
      subst hf
      exact ah_iret K hG hL (Nat.le_refl _) (Nat.le_refl _) dX10_judge_108
    · rw [if_neg h4] at hf
      refine lv_iload K.1 K.2.1 dX10_judge_101 (lv_at hl 2 rfl) ?_
      refine lv_goto (tgt := 108) K.1 K.2.1 dX10_judge_103 (by decide) ?_
      have hf := Option.some.inj hf
      subst hf
      exact ah_iret K hG hL (Nat.le_refl _) (Nat.le_refl _) dX10_judge_108
  · rw [if_neg h2] at hf
    refine lv_aload_n K.1 K.2.1 dX10_judge_44 rfl (lv_at hl 0 rfl) ?_
    obtain ⟨v5, ev5, hf⟩ := Option.bind_eq_some_iff.mp hf
    refine ah_getr K hG ev5 ffX10_16_10 dX10_judge_45 ?_
    refine lv_aload_n K.1 K.2.1 dX10_judge_48 rfl (lv_at hl 1 rfl) ?_
    refine lv_iload K.1 K.2.1 dX10_judge_49 (lv_at hl 2 rfl) ?_
    obtain ⟨v6, ev6, hf⟩ := Option.bind_eq_some_iff.mp hf
    refine ah_callS (As := [.ref v5, .ref a3, .int x4]) (rest := []) K hG hL hl.1 (ctX10_faultOfGifts l H0 D ca M z v5 a3 x4 v6 ev6) hdX10_faultOfGifts q_644 q_645 q_50 q_646 ⟨Nat.le_of_ble_eq_true rfl, Nat.le_of_ble_eq_true rfl⟩ rfl rfl (Nat.le_of_ble_eq_true rfl) ⟨Nat.le_refl _, Nat.le_refl _⟩ dX10_judge_51 (fun H locs hG hL => ?_)
    refine lv_istore (lv' := [(5, .int v6), (0, .ref a0), (3, .ref a3), (4, .int x4)]) K.1 K.2.1 dX10_judge_54 hl (by decide) rfl (fun ls hl => ?_)
    refine lv_iload K.1 K.2.1 dX10_judge_56 (lv_at hl 0 rfl) ?_
    refine lv_if_lt (tgt := 64) K.1 K.2.1 dX10_judge_58 (by decide) (fun h7 => ?_) (fun h7 => ?_)
    · rw [if_pos h7] at hf
      refine lv_aload_n K.1 K.2.1 dX10_judge_64 rfl (lv_at hl 1 rfl) ?_
      obtain ⟨v8, ev8, hf⟩ := Option.bind_eq_some_iff.mp hf
      refine ah_getr K hG ev8 ffX10_16_10 dX10_judge_65 ?_
      refine lv_aload_n K.1 K.2.1 dX10_judge_68 rfl (lv_at hl 2 rfl) ?_
      refine lv_iload K.1 K.2.1 dX10_judge_69 (lv_at hl 3 rfl) ?_
      obtain ⟨v9, ev9, hf⟩ := Option.bind_eq_some_iff.mp hf
      obtain ⟨q10, eq10⟩ := ah_this ev9
      refine ah_callV (As := [.int x4]) (rest := [.ref v8]) K hG hL hl.1 eq10 rfl (ctX7_at l H0 D ca M z a3 x4 v9 ev9) hdX7_at q_232 q_233 q_53 q_235 q_234 ⟨Nat.le_of_ble_eq_true rfl, Nat.le_of_ble_eq_true rfl⟩ rfl rfl (Nat.le_of_ble_eq_true rfl) ⟨Nat.le_refl _, Nat.le_refl _⟩ dX10_judge_71 (fun H locs hG hL => ?_)
      refine lv_aload_n K.1 K.2.1 dX10_judge_74 rfl (lv_at hl 2 rfl) ?_
      refine lv_iload K.1 K.2.1 dX10_judge_75 (lv_at hl 3 rfl) ?_
      refine lv_iconst (v := 1) K.1 K.2.1 dX10_judge_77 (by decide) ?_
      refine lv_iadd K.1 K.2.1 dX10_judge_78 ?_
      obtain ⟨v11, ev11, hf⟩ := Option.bind_eq_some_iff.mp hf
      obtain ⟨q12, eq12⟩ := ah_this ev11
      refine ah_callV (As := [.int (x4 + 1)]) (rest := [.int v9, .ref v8]) K hG hL hl.1 eq12 rfl (ctX7_at l H0 D ca M z a3 (x4 + 1) v11 ev11) hdX7_at q_232 q_233 q_53 q_235 q_234 ⟨Nat.le_of_ble_eq_true rfl, Nat.le_of_ble_eq_true rfl⟩ rfl rfl (Nat.le_of_ble_eq_true rfl) ⟨Nat.le_refl _, Nat.le_refl _⟩ dX10_judge_79 (fun H locs hG hL => ?_)
      obtain ⟨v13, ev13, hf⟩ := Option.bind_eq_some_iff.mp hf
      obtain ⟨q14, eq14⟩ := ah_this ev13
      refine ah_callV (As := [.int v9, .int v11]) (rest := []) K hG hL hl.1 eq14 rfl (ctX2_holdMeeting l H0 D ca M z v8 v9 v11 v13 ev13) hdX2_holdMeeting q_340 q_341 q_51 q_343 q_342 ⟨Nat.le_of_ble_eq_true rfl, Nat.le_of_ble_eq_true rfl⟩ rfl rfl (Nat.le_of_ble_eq_true rfl) ⟨Nat.le_refl _, Nat.le_refl _⟩ dX10_judge_82 (fun H locs hG hL => ?_)
      refine lv_pop K.1 K.2.1 dX10_judge_85 rfl ?_
      refine lv_iinc (v := x4 + 4) (lv' := [(4, .int (x4 + 4)), (5, .int v6), (0, .ref a0), (3, .ref a3)]) K.1 K.2.1 dX10_judge_86 hl (k := 3) rfl rfl (by decide) rfl (fun ls hl => ?_)
      refine lv_goto (tgt := 33) K.1 K.2.1 dX10_judge_89 (by decide) ?_
      exact hk33 v13.2 a0 a3 (x4 + 4) _ _ _ hG hL (lv_sub hl [2, 3, 0] rfl) _ hf
    · rw [if_neg h7] at hf
      refine lv_iload K.1 K.2.1 dX10_judge_61 (lv_at hl 0 rfl) ?_
      have hf := Option.some.inj hf
      subst hf
      exact ah_iret K hG hL (Nat.le_refl _) (Nat.le_refl _) dX10_judge_63
theorem wX10_judge_33 {p : Program} {l : Launch} {e : Env} {s : State} {m : MethodId} {args : Array Value} {below : List Frame} {meth : Method} {c : Code} {D : va_G} {ca : Nat → ClassId} {H0 : Heap} {z : Nat} (K : ah_K p s m args meth c D ca "ShipsThatMeet" cX10_judge 6 (some .int))   (n : Nat) : ∀ (M : ah_h) (a0 : Nat) (a3 : Nat) (x4 : Int32)  (H : Heap) (locs : List Loc) (ls : Array Slot), ah_g H0 D ca M z H → ah_L H0 locs → lv_has ls 6 [(0, .ref a0), (3, .ref a3), (4, .int x4)] → ∀ Z, fX10_judge_33    n M a0 a3 x4 = some Z → W p l e { frames := 5, cells := 0, slots := 0, locals := 117 } s m args below meth c H locs 0 0 (ah_Q below args s H0 D ca 0 0 (some (.int Z.1)) Z.2 z) (F0 m 33 ls []) := by
  induction n with
  | zero => intro M a0 a3 x4 H locs ls hG hL hl Z hf; cases hf
  | succ n ih => exact wX10_judge_33_b K  _ ih
def fX10_judge (M : ah_h) (a0 : Nat) (x1 : Int32) : Option (Int32 × ah_h) := (ah_ob M a0 10).bind fun _ => (fX10_refusalOfRow M a0 x1).bind fun v1 => if 0 ≤ v1 then ((ah_gr M a0 10 4).bind fun v4 => (ah_ar M v4 3 x1).bind fun v5 => (ah_gr M a0 10 1).bind fun v6 => (ah_gr M a0 10 0).bind fun v7 => (fX2_become M v6 v7).bind fun v8 => fX10_judge_33 ah_fu v8 a0 v5 0) else (some (v1, M))
set_option maxRecDepth 100000 in
set_option maxHeartbeats 4000000 in
theorem ctX10_judge (l : Launch) (H0 : Heap) (D : va_G) (ca : Nat → ClassId) (M : ah_h) (z : Nat) (a0 : Nat) (x1 : Int32) (Z : Int32 × ah_h) (hf : fX10_judge M a0 x1 = some Z) : ah_ct l H0 D ca yX10_judge cX10_judge 6 (some .int) 5 117 0 0 [.ref a0, .int x1] M z (some (.int Z.1)) Z.2 z := by
  refine ah_of (by decide) (Nat.le_of_ble_eq_true rfl) ?_
  intro p e s m below meth c ls hin K hG hl
  have hL : ah_L H0 [] := ah_L.nil
  have hl : lv_has ls 6 [(0, .ref a0), (1, .int x1)] := hl
  unfold fX10_judge at hf
  obtain ⟨-, -, hf⟩ := Option.bind_eq_some_iff.mp hf
  refine lv_aload_n K.1 K.2.1 dX10_judge_0 rfl (lv_at hl 0 rfl) ?_
  refine lv_iload_n K.1 K.2.1 dX10_judge_1 rfl (lv_at hl 1 rfl) ?_
  obtain ⟨v1, ev1, hf⟩ := Option.bind_eq_some_iff.mp hf
  obtain ⟨q2, eq2⟩ := ah_this ev1
  refine ah_callV (As := [.int x1]) (rest := []) K hG hL hl.1 eq2 rfl (ctX10_refusalOfRow l H0 D ca M z a0 x1 v1 ev1) hdX10_refusalOfRow q_214 q_216 q_50 q_217 q_1 ⟨Nat.le_of_ble_eq_true rfl, Nat.le_of_ble_eq_true rfl⟩ rfl rfl (Nat.le_of_ble_eq_true rfl) ⟨Nat.le_refl _, Nat.le_refl _⟩ dX10_judge_2 (fun H locs hG hL => ?_)
  refine lv_istore_n (lv' := [(2, .int v1), (0, .ref a0), (1, .int x1)]) K.1 K.2.1 dX10_judge_5 rfl hl (by decide) rfl (fun ls hl => ?_)
  refine lv_iload_n K.1 K.2.1 dX10_judge_6 rfl (lv_at hl 0 rfl) ?_
  refine lv_if_ge (tgt := 12) K.1 K.2.1 dX10_judge_7 (by decide) (fun h3 => ?_) (fun h3 => ?_)
  · rw [if_pos h3] at hf
    refine lv_aload_n K.1 K.2.1 dX10_judge_12 rfl (lv_at hl 1 rfl) ?_
    obtain ⟨v4, ev4, hf⟩ := Option.bind_eq_some_iff.mp hf
    refine ah_getr K hG ev4 ffX10_28_10 dX10_judge_13 ?_
    refine lv_iload_n K.1 K.2.1 dX10_judge_16 rfl (lv_at hl 2 rfl) ?_
    obtain ⟨v5, ev5, hf⟩ := Option.bind_eq_some_iff.mp hf
    refine ah_aald (t := 3) K hG ev5 rfl rfl dX10_judge_17 ?_
    refine lv_astore_n (lv' := [(3, .ref v5), (2, .int v1), (0, .ref a0), (1, .int x1)]) K.1 K.2.1 dX10_judge_18 rfl hl (by decide) rfl (fun ls hl => ?_)
    refine lv_aload_n K.1 K.2.1 dX10_judge_19 rfl (lv_at hl 2 rfl) ?_
    obtain ⟨v6, ev6, hf⟩ := Option.bind_eq_some_iff.mp hf
    refine ah_getr K hG ev6 ffX10_16_10 dX10_judge_20 ?_
    refine lv_aload_n K.1 K.2.1 dX10_judge_23 rfl (lv_at hl 2 rfl) ?_
    obtain ⟨v7, ev7, hf⟩ := Option.bind_eq_some_iff.mp hf
    refine ah_getr K hG ev7 ffX10_10_10 dX10_judge_24 ?_
    obtain ⟨v8, ev8, hf⟩ := Option.bind_eq_some_iff.mp hf
    obtain ⟨q9, eq9⟩ := ah_this ev8
    refine ah_callV (As := [.ref v7]) (rest := []) K hG hL hl.1 eq9 rfl (ctX2_become l H0 D ca M z v6 v7 v8 ev8) hdX2_become q_243 q_244 q_51 q_246 q_245 ⟨Nat.le_of_ble_eq_true rfl, Nat.le_of_ble_eq_true rfl⟩ rfl rfl (Nat.le_of_ble_eq_true rfl) ⟨Nat.le_refl _, Nat.le_refl _⟩ dX10_judge_27 (fun H locs hG hL => ?_)
    refine lv_iconst (v := 0) K.1 K.2.1 dX10_judge_30 (by decide) ?_
    refine lv_istore (lv' := [(4, .int 0), (3, .ref v5), (2, .int v1), (0, .ref a0), (1, .int x1)]) K.1 K.2.1 dX10_judge_31 hl (by decide) rfl (fun ls hl => ?_)
    exact wX10_judge_33 K  ah_fu v8 a0 v5 0 _ _ _ hG hL (lv_sub hl [3, 1, 0] rfl) _ hf
  · rw [if_neg h3] at hf
    refine lv_iload_n K.1 K.2.1 dX10_judge_10 rfl (lv_at hl 0 rfl) ?_
    have hf := Option.some.inj hf
    subst hf
    exact ah_iret K hG hL (Nat.le_refl _) (Nat.le_refl _) dX10_judge_11
