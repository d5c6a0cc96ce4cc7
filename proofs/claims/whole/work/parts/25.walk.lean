-- X11_payBy X11_keep X11_row X11_put X11_element X11_copy X11_pay X11_toss J6_bitCount_0f7a4 X0_init X0_wages X1_gift X2_isAlone X2_takesMan X2_exchange X2_takeBack X2_speakers X2_mostAboard X3_init X3_wages X3_worthOfFailure X4_gift X5_gift
def fX11_payBy (M : ah_h) (x0 : Int32) (x1 : Int32) : Option (Int32) := if x0 = 1 then (some (6 + x1)) else if x0 = 2 then (some 5) else if x0 = 3 then (some 10) else if x0 = 4 then (some (6 * (x1 + 1))) else if x0 = 5 then (some ((6 * (x1 + 1)) + 3)) else if x0 = 6 then (some (6 - x1)) else if x0 = 7 then (some (10 + x1)) else (some 6)
set_option maxRecDepth 100000 in
set_option maxHeartbeats 4000000 in
theorem ctX11_payBy (l : Launch) (H0 : Heap) (D : va_G) (ca : Nat → ClassId) (M : ah_h) (z : Nat) (x0 : Int32) (x1 : Int32) (Z : Int32) (hf : fX11_payBy M x0 x1 = some Z) : ah_ct l H0 D ca yX11_payBy cX11_payBy 2 (some .int) 0 0 0 0 [.int x0, .int x1] M z (some (.int Z)) M z := by
  refine ah_of (by decide) (Nat.le_of_ble_eq_true rfl) ?_
  intro p e s m below meth c ls hin K hG hl
  have hL : ah_L H0 [] := ah_L.nil
  have hl : lv_has ls 2 [(0, .int x0), (1, .int x1)] := hl
  unfold fX11_payBy at hf
  refine lv_iload_n K.1 K.2.1 dX11_payBy_0 rfl (lv_at hl 0 rfl) ?_
  by_cases h1 : x0 = 1
  · rw [if_pos h1] at hf
    refine lv_tableIn (off := 43) (tgt := 44) K.1 K.2.1 dX11_payBy_1 (by rw [h1]; decide) (by rw [h1]; decide) (by rw [h1]; rfl) (by decide) ?_
    refine lv_bipush (v := 6) K.1 K.2.1 dX11_payBy_44 (by decide) ?_
    refine lv_iload_n K.1 K.2.1 dX11_payBy_46 rfl (lv_at hl 1 rfl) ?_
    refine lv_iadd K.1 K.2.1 dX11_payBy_47 ?_
    have hf := Option.some.inj hf
    subst hf
    exact ah_iret K hG hL (Nat.le_refl _) (Nat.le_refl _) dX11_payBy_48
  rw [if_neg h1] at hf
  by_cases h2 : x0 = 2
  · rw [if_pos h2] at hf
    refine lv_tableIn (off := 48) (tgt := 49) K.1 K.2.1 dX11_payBy_1 (by rw [h2]; decide) (by rw [h2]; decide) (by rw [h2]; rfl) (by decide) ?_
    refine lv_iconst (v := 5) K.1 K.2.1 dX11_payBy_49 (by decide) ?_
    have hf := Option.some.inj hf
    subst hf
    exact ah_iret K hG hL (Nat.le_refl _) (Nat.le_refl _) dX11_payBy_50
  rw [if_neg h2] at hf
  by_cases h3 : x0 = 3
  · rw [if_pos h3] at hf
    refine lv_tableIn (off := 50) (tgt := 51) K.1 K.2.1 dX11_payBy_1 (by rw [h3]; decide) (by rw [h3]; decide) (by rw [h3]; rfl) (by decide) ?_
    refine lv_bipush (v := 10) K.1 K.2.1 dX11_payBy_51 (by decide) ?_
    have hf := Option.some.inj hf
    subst hf
    exact ah_iret K hG hL (Nat.le_refl _) (Nat.le_refl _) dX11_payBy_53
  rw [if_neg h3] at hf
  by_cases h4 : x0 = 4
  · rw [if_pos h4] at hf
    refine lv_tableIn (off := 53) (tgt := 54) K.1 K.2.1 dX11_payBy_1 (by rw [h4]; decide) (by rw [h4]; decide) (by rw [h4]; rfl) (by decide) ?_
    refine lv_bipush (v := 6) K.1 K.2.1 dX11_payBy_54 (by decide) ?_
    refine lv_iload_n K.1 K.2.1 dX11_payBy_56 rfl (lv_at hl 1 rfl) ?_
    refine lv_iconst (v := 1) K.1 K.2.1 dX11_payBy_57 (by decide) ?_
    refine lv_iadd K.1 K.2.1 dX11_payBy_58 ?_
    refine lv_imul K.1 K.2.1 dX11_payBy_59 ?_
    have hf := Option.some.inj hf
    subst hf
    exact ah_iret K hG hL (Nat.le_refl _) (Nat.le_refl _) dX11_payBy_60
  rw [if_neg h4] at hf
  by_cases h5 : x0 = 5
  · rw [if_pos h5] at hf
    refine lv_tableIn (off := 60) (tgt := 61) K.1 K.2.1 dX11_payBy_1 (by rw [h5]; decide) (by rw [h5]; decide) (by rw [h5]; rfl) (by decide) ?_
    refine lv_bipush (v := 6) K.1 K.2.1 dX11_payBy_61 (by decide) ?_
    refine lv_iload_n K.1 K.2.1 dX11_payBy_63 rfl (lv_at hl 1 rfl) ?_
    refine lv_iconst (v := 1) K.1 K.2.1 dX11_payBy_64 (by decide) ?_
    refine lv_iadd K.1 K.2.1 dX11_payBy_65 ?_
    refine lv_imul K.1 K.2.1 dX11_payBy_66 ?_
    refine lv_iconst (v := 3) K.1 K.2.1 dX11_payBy_67 (by decide) ?_
    refine lv_iadd K.1 K.2.1 dX11_payBy_68 ?_
    have hf := Option.some.inj hf
    subst hf
    exact ah_iret K hG hL (Nat.le_refl _) (Nat.le_refl _) dX11_payBy_69
  rw [if_neg h5] at hf
  by_cases h6 : x0 = 6
  · rw [if_pos h6] at hf
    refine lv_tableIn (off := 69) (tgt := 70) K.1 K.2.1 dX11_payBy_1 (by rw [h6]; decide) (by rw [h6]; decide) (by rw [h6]; rfl) (by decide) ?_
    refine lv_bipush (v := 6) K.1 K.2.1 dX11_payBy_70 (by decide) ?_
    refine lv_iload_n K.1 K.2.1 dX11_payBy_72 rfl (lv_at hl 1 rfl) ?_
    refine lv_isub K.1 K.2.1 dX11_payBy_73 ?_
    have hf := Option.some.inj hf
    subst hf
    exact ah_iret K hG hL (Nat.le_refl _) (Nat.le_refl _) dX11_payBy_74
  rw [if_neg h6] at hf
  by_cases h7 : x0 = 7
  · rw [if_pos h7] at hf
    refine lv_tableIn (off := 74) (tgt := 75) K.1 K.2.1 dX11_payBy_1 (by rw [h7]; decide) (by rw [h7]; decide) (by rw [h7]; rfl) (by decide) ?_
    refine lv_bipush (v := 10) K.1 K.2.1 dX11_payBy_75 (by decide) ?_
    refine lv_iload_n K.1 K.2.1 dX11_payBy_77 rfl (lv_at hl 1 rfl) ?_
    refine lv_iadd K.1 K.2.1 dX11_payBy_78 ?_
    have hf := Option.some.inj hf
    subst hf
    exact ah_iret K hG hL (Nat.le_refl _) (Nat.le_refl _) dX11_payBy_79
  rw [if_neg h7] at hf
  have th1 := lv_neT (a := 1) h1 (by decide)
  have th2 := lv_neT (a := 2) h2 (by decide)
  have th3 := lv_neT (a := 3) h3 (by decide)
  have th4 := lv_neT (a := 4) h4 (by decide)
  have th5 := lv_neT (a := 5) h5 (by decide)
  have th6 := lv_neT (a := 6) h6 (by decide)
  have th7 := lv_neT (a := 7) h7 (by decide)
  refine lv_tableOut (tgt := 80) K.1 K.2.1 dX11_payBy_1 (by omega) (by decide) ?_
  refine lv_bipush (v := 6) K.1 K.2.1 dX11_payBy_80 (by decide) ?_
  have hf := Option.some.inj hf
  subst hf
  exact ah_iret K hG hL (Nat.le_refl _) (Nat.le_refl _) dX11_payBy_82
def fX11_keep_49    (M : ah_h) (a0 : Nat) (x1 : Int32) (x2 : Int32) (x3 : Int32) (x4 : Int32) : Option (Int32 × ah_h) := (ah_gr M a0 11 4).bind fun v1 => (ah_si M v1 x1 x2).bind fun M2 => (ah_gr M2 a0 11 8).bind fun v3 => (ah_si M2 v3 x1 x3).bind fun M4 => (ah_gr M4 a0 11 9).bind fun v5 => (ah_si M4 v5 x1 x4).bind fun M6 => some (0, M6)
set_option maxRecDepth 100000 in
set_option maxHeartbeats 4000000 in
theorem wX11_keep_49 {p : Program} {l : Launch} {e : Env} {s : State} {m : MethodId} {args : Array Value} {below : List Frame} {meth : Method} {c : Code} {D : va_G} {ca : Nat → ClassId} {H0 : Heap} {z : Nat} (K : ah_K p s m args meth c D ca "ShipsThatMeetModel" cX11_keep 5 (some .int))   : ∀ (M : ah_h) (a0 : Nat) (x1 : Int32) (x2 : Int32) (x3 : Int32) (x4 : Int32)  (H : Heap) (locs : List Loc) (ls : Array Slot), ah_g H0 D ca M z H → ah_L H0 locs → lv_has ls 5 [(0, .ref a0), (1, .int x1), (2, .int x2), (3, .int x3), (4, .int x4)] → ∀ Z, fX11_keep_49    M a0 x1 x2 x3 x4 = some Z → W p l e { frames := 2, cells := 0, slots := 0, locals := 45 } s m args below meth c H locs 0 0 (ah_Q below args s H0 D ca 0 0 (some (.int Z.1)) Z.2 z) (F0 m 49 ls []) := by
  intro M a0 x1 x2 x3 x4 H locs ls hG hL hl Z hf
  unfold fX11_keep_49 at hf
  refine lv_aload_n K.1 K.2.1 dX11_keep_49 rfl (lv_at hl 0 rfl) ?_
  obtain ⟨v1, ev1, hf⟩ := Option.bind_eq_some_iff.mp hf
  refine ah_getr K hG ev1 ffX11_22_11 dX11_keep_50 ?_
  refine lv_iload_n K.1 K.2.1 dX11_keep_53 rfl (lv_at hl 1 rfl) ?_
  refine lv_iload_n K.1 K.2.1 dX11_keep_54 rfl (lv_at hl 2 rfl) ?_
  obtain ⟨M2, eM2, hf⟩ := Option.bind_eq_some_iff.mp hf
  refine ah_iast K hG hL eM2 dX11_keep_55 (fun H locs hG hL => ?_)
  refine lv_aload_n K.1 K.2.1 dX11_keep_56 rfl (lv_at hl 0 rfl) ?_
  obtain ⟨v3, ev3, hf⟩ := Option.bind_eq_some_iff.mp hf
  refine ah_getr K hG ev3 ffX11_34_11 dX11_keep_57 ?_
  refine lv_iload_n K.1 K.2.1 dX11_keep_60 rfl (lv_at hl 1 rfl) ?_
  refine lv_iload_n K.1 K.2.1 dX11_keep_61 rfl (lv_at hl 3 rfl) ?_
  obtain ⟨M4, eM4, hf⟩ := Option.bind_eq_some_iff.mp hf
  refine ah_iast K hG hL eM4 dX11_keep_62 (fun H locs hG hL => ?_)
  refine lv_aload_n K.1 K.2.1 dX11_keep_63 rfl (lv_at hl 0 rfl) ?_
  obtain ⟨v5, ev5, hf⟩ := Option.bind_eq_some_iff.mp hf
  refine ah_getr K hG ev5 ffX11_37_11 dX11_keep_64 ?_
  refine lv_iload_n K.1 K.2.1 dX11_keep_67 rfl (lv_at hl 1 rfl) ?_
  refine lv_iload K.1 K.2.1 dX11_keep_68 (lv_at hl 4 rfl) ?_
  obtain ⟨M6, eM6, hf⟩ := Option.bind_eq_some_iff.mp hf
  refine ah_iast K hG hL eM6 dX11_keep_70 (fun H locs hG hL => ?_)
  refine lv_iconst (v := 0) K.1 K.2.1 dX11_keep_71 (by decide) ?_
  have hf := Option.some.inj hf
  subst hf
  exact ah_iret K hG hL (Nat.le_refl _) (Nat.le_refl _) dX11_keep_72
def fX11_keep (M : ah_h) (a0 : Nat) (x1 : Int32) (x2 : Int32) (x3 : Int32) (x4 : Int32) : Option (Int32 × ah_h) := (ah_ob M a0 11).bind fun _ => (fX11_isShelf M x1).bind fun v1 => if v1 = 0 then (some ((-1), M)) else ((fX11_isIn M x2.toInt64 0 1).bind fun v3 => if v3 = 0 then (some ((-1), M)) else (if x2 = 1 then ((fX11_isIn M x3.toInt64 0 7).bind fun v6 => if v6 = 0 then (some ((-1), M)) else ((fX11_isIn M x4.toInt64 0 9).bind fun v8 => if v8 = 0 then (some ((-1), M)) else (fX11_keep_49 M a0 x1 x2 x3 x4))) else (fX11_keep_49 M a0 x1 x2 x3 x4)))
set_option maxRecDepth 100000 in
set_option maxHeartbeats 4000000 in
theorem ctX11_keep (l : Launch) (H0 : Heap) (D : va_G) (ca : Nat → ClassId) (M : ah_h) (z : Nat) (a0 : Nat) (x1 : Int32) (x2 : Int32) (x3 : Int32) (x4 : Int32) (Z : Int32 × ah_h) (hf : fX11_keep M a0 x1 x2 x3 x4 = some Z) : ah_ct l H0 D ca yX11_keep cX11_keep 5 (some .int) 2 45 0 0 [.ref a0, .int x1, .int x2, .int x3, .int x4] M z (some (.int Z.1)) Z.2 z := by
  refine ah_of (by decide) (Nat.le_of_ble_eq_true rfl) ?_
  intro p e s m below meth c ls hin K hG hl
  have hL : ah_L H0 [] := ah_L.nil
  have hl : lv_has ls 5 [(0, .ref a0), (1, .int x1), (2, .int x2), (3, .int x3), (4, .int x4)] := hl
  unfold fX11_keep at hf
  obtain ⟨-, -, hf⟩ := Option.bind_eq_some_iff.mp hf
  refine lv_iload_n K.1 K.2.1 dX11_keep_0 rfl (lv_at hl 1 rfl) ?_
  obtain ⟨v1, ev1, hf⟩ := Option.bind_eq_some_iff.mp hf
  refine ah_callS (As := [.int x1]) (rest := []) K hG hL hl.1 (ctX11_isShelf l H0 D ca M z x1 v1 ev1) hdX11_isShelf q_968 q_969 q_54 q_970 ⟨Nat.le_of_ble_eq_true rfl, Nat.le_of_ble_eq_true rfl⟩ rfl rfl (Nat.le_of_ble_eq_true rfl) ⟨Nat.le_refl _, Nat.le_refl _⟩ dX11_keep_1 (fun H locs hG hL => ?_)
  refine lv_if_eq (tgt := 47) K.1 K.2.1 dX11_keep_4 (by decide) (fun h2 => ?_) (fun h2 => ?_)
  · rw [if_pos h2] at hf
    refine lv_iconst (v := (-1)) K.1 K.2.1 dX11_keep_47 (by decide) ?_
    have hf := Option.some.inj hf
    subst hf
    exact ah_iret K hG hL (Nat.le_refl _) (Nat.le_refl _) dX11_keep_48
  · rw [if_neg h2] at hf
    refine lv_iload_n K.1 K.2.1 dX11_keep_7 rfl (lv_at hl 2 rfl) ?_
    refine lv_i2l (v := x2.toInt64) K.1 K.2.1 dX11_keep_8 rfl ?_
    refine lv_lconst (v := 0) K.1 K.2.1 dX11_keep_9 (by decide) ?_
    refine lv_lconst (v := 1) K.1 K.2.1 dX11_keep_10 (by decide) ?_
    obtain ⟨v3, ev3, hf⟩ := Option.bind_eq_some_iff.mp hf
    refine ah_callS (As := [.long x2.toInt64, .long 0, .long 1]) (rest := []) K hG hL hl.1 (ctX11_isIn l H0 D ca M z x2.toInt64 0 1 v3 ev3) hdX11_isIn q_972 q_973 q_54 q_974 ⟨Nat.le_of_ble_eq_true rfl, Nat.le_of_ble_eq_true rfl⟩ rfl rfl (Nat.le_of_ble_eq_true rfl) ⟨Nat.le_refl _, Nat.le_refl _⟩ dX11_keep_11 (fun H locs hG hL => ?_)
    refine lv_if_eq (tgt := 47) K.1 K.2.1 dX11_keep_14 (by decide) (fun h4 => ?_) (fun h4 => ?_)
    · rw [if_pos h4] at hf
      refine lv_iconst (v := (-1)) K.1 K.2.1 dX11_keep_47 (by decide) ?_
      have hf := Option.some.inj hf
      subst hf
      exact ah_iret K hG hL (Nat.le_refl _) (Nat.le_refl _) dX11_keep_48
    · rw [if_neg h4] at hf
      refine lv_iload_n K.1 K.2.1 dX11_keep_17 rfl (lv_at hl 2 rfl) ?_
      refine lv_iconst (v := 1) K.1 K.2.1 dX11_keep_18 (by decide) ?_
      refine lv_icmp_ne (tgt := 49) K.1 K.2.1 dX11_keep_19 (by decide) (fun h5 => ?_) (fun h5 => ?_)
      · rw [if_neg h5] at hf
        exact wX11_keep_49 K  M a0 x1 x2 x3 x4 _ _ _ hG hL (lv_sub hl [0, 1, 2, 3, 4] rfl) _ hf
      · rw [if_pos h5] at hf
        refine lv_iload_n K.1 K.2.1 dX11_keep_22 rfl (lv_at hl 3 rfl) ?_
        refine lv_i2l (v := x3.toInt64) K.1 K.2.1 dX11_keep_23 rfl ?_
        refine lv_lconst (v := 0) K.1 K.2.1 dX11_keep_24 (by decide) ?_
        refine lv_ldc2 (v := 7) K.1 K.2.1 K.2.2.2.1 (K.2.2.2.2.1 _ q_971) dX11_keep_25 ?_
        obtain ⟨v6, ev6, hf⟩ := Option.bind_eq_some_iff.mp hf
        refine ah_callS (As := [.long x3.toInt64, .long 0, .long 7]) (rest := []) K hG hL hl.1 (ctX11_isIn l H0 D ca M z x3.toInt64 0 7 v6 ev6) hdX11_isIn q_972 q_973 q_54 q_974 ⟨Nat.le_of_ble_eq_true rfl, Nat.le_of_ble_eq_true rfl⟩ rfl rfl (Nat.le_of_ble_eq_true rfl) ⟨Nat.le_refl _, Nat.le_refl _⟩ dX11_keep_28 (fun H locs hG hL => ?_)
        refine lv_if_eq (tgt := 47) K.1 K.2.1 dX11_keep_31 (by decide) (fun h7 => ?_) (fun h7 => ?_)
        · rw [if_pos h7] at hf
          refine lv_iconst (v := (-1)) K.1 K.2.1 dX11_keep_47 (by decide) ?_
          have hf := Option.some.inj hf
          subst hf
          exact ah_iret K hG hL (Nat.le_refl _) (Nat.le_refl _) dX11_keep_48
        · rw [if_neg h7] at hf
          refine lv_iload K.1 K.2.1 dX11_keep_34 (lv_at hl 4 rfl) ?_
          refine lv_i2l (v := x4.toInt64) K.1 K.2.1 dX11_keep_36 rfl ?_
          refine lv_lconst (v := 0) K.1 K.2.1 dX11_keep_37 (by decide) ?_
          refine lv_ldc2 (v := 9) K.1 K.2.1 K.2.2.2.1 (K.2.2.2.2.1 _ q_1199) dX11_keep_38 ?_
          obtain ⟨v8, ev8, hf⟩ := Option.bind_eq_some_iff.mp hf
          refine ah_callS (As := [.long x4.toInt64, .long 0, .long 9]) (rest := []) K hG hL hl.1 (ctX11_isIn l H0 D ca M z x4.toInt64 0 9 v8 ev8) hdX11_isIn q_972 q_973 q_54 q_974 ⟨Nat.le_of_ble_eq_true rfl, Nat.le_of_ble_eq_true rfl⟩ rfl rfl (Nat.le_of_ble_eq_true rfl) ⟨Nat.le_refl _, Nat.le_refl _⟩ dX11_keep_41 (fun H locs hG hL => ?_)
          refine lv_if_ne (tgt := 49) K.1 K.2.1 dX11_keep_44 (by decide) (fun h9 => ?_) (fun h9 => ?_)
          · rw [if_neg h9] at hf
            exact wX11_keep_49 K  M a0 x1 x2 x3 x4 _ _ _ hG hL (lv_sub hl [0, 1, 2, 3, 4] rfl) _ hf
          · rw [if_pos h9] at hf
            refine lv_iconst (v := (-1)) K.1 K.2.1 dX11_keep_47 (by decide) ?_
            have hf := Option.some.inj hf
            subst hf
            exact ah_iret K hG hL (Nat.le_refl _) (Nat.le_refl _) dX11_keep_48
def fX11_row_58_b   (k58 : ah_h → Nat → Int32 → Int32 → Option (Int32 × ah_h))  (M : ah_h) (a0 : Nat) (x1 : Int32) (x4 : Int32) : Option (Int32 × ah_h) := if 100 ≤ x4 then (some (0, M)) else ((ah_gr M a0 11 7).bind fun v2 => (ah_si M v2 ((100 * x1) + x4) 0).bind fun M3 => k58 M3 a0 x1 (x4 + 1))
def fX11_row_58    : Nat → ah_h → Nat → Int32 → Int32 → Option (Int32 × ah_h)
  | 0 => fun _ _ _ _ => none
  | n + 1 => fun M a0 x1 x4 => fX11_row_58_b   (fX11_row_58    n)  M a0 x1 x4
set_option maxRecDepth 100000 in
set_option maxHeartbeats 4000000 in
theorem wX11_row_58_b {p : Program} {l : Launch} {e : Env} {s : State} {m : MethodId} {args : Array Value} {below : List Frame} {meth : Method} {c : Code} {D : va_G} {ca : Nat → ClassId} {H0 : Heap} {z : Nat} (K : ah_K p s m args meth c D ca "ShipsThatMeetModel" cX11_row 5 (some .int))   (k58 : ah_h → Nat → Int32 → Int32 → Option (Int32 × ah_h)) (hk58 : ∀ (M : ah_h) (a0 : Nat) (x1 : Int32) (x4 : Int32)  (H : Heap) (locs : List Loc) (ls : Array Slot), ah_g H0 D ca M z H → ah_L H0 locs → lv_has ls 5 [(0, .ref a0), (1, .int x1), (4, .int x4)] → ∀ Z, k58 M a0 x1 x4 = some Z → W p l e { frames := 2, cells := 0, slots := 0, locals := 45 } s m args below meth c H locs 0 0 (ah_Q below args s H0 D ca 0 0 (some (.int Z.1)) Z.2 z) (F0 m 58 ls [])) : ∀ (M : ah_h) (a0 : Nat) (x1 : Int32) (x4 : Int32)  (H : Heap) (locs : List Loc) (ls : Array Slot), ah_g H0 D ca M z H → ah_L H0 locs → lv_has ls 5 [(0, .ref a0), (1, .int x1), (4, .int x4)] → ∀ Z, fX11_row_58_b   k58  M a0 x1 x4 = some Z → W p l e { frames := 2, cells := 0, slots := 0, locals := 45 } s m args below meth c H locs 0 0 (ah_Q below args s H0 D ca 0 0 (some (.int Z.1)) Z.2 z) (F0 m 58 ls []) := by
  intro M a0 x1 x4 H locs ls hG hL hl Z hf
  unfold fX11_row_58_b at hf
  refine lv_iload K.1 K.2.1 dX11_row_58 (lv_at hl 2 rfl) ?_
  refine lv_bipush (v := 100) K.1 K.2.1 dX11_row_60 (by decide) ?_
  refine lv_icmp_ge (tgt := 84) K.1 K.2.1 dX11_row_62 (by decide) (fun h1 => ?_) (fun h1 => ?_)
  · rw [if_pos h1] at hf
    refine lv_iconst (v := 0) K.1 K.2.1 dX11_row_84 (by decide) ?_
    have hf := Option.some.inj hf
    subst hf
    exact ah_iret K hG hL (Nat.le_refl _) (Nat.le_refl _) dX11_row_85
  · rw [if_neg h1] at hf
    refine lv_aload_n K.1 K.2.1 dX11_row_65 rfl (lv_at hl 0 rfl) ?_
    obtain ⟨v2, ev2, hf⟩ := Option.bind_eq_some_iff.mp hf
    refine ah_getr K hG ev2 ffX11_31_11 dX11_row_66 ?_
    refine lv_bipush (v := 100) K.1 K.2.1 dX11_row_69 (by decide) ?_
    refine lv_iload_n K.1 K.2.1 dX11_row_71 rfl (lv_at hl 1 rfl) ?_
    refine lv_imul K.1 K.2.1 dX11_row_72 ?_
    refine lv_iload K.1 K.2.1 dX11_row_73 (lv_at hl 2 rfl) ?_
    refine lv_iadd K.1 K.2.1 dX11_row_75 ?_
    refine lv_iconst (v := 0) K.1 K.2.1 dX11_row_76 (by decide) ?_
    obtain ⟨M3, eM3, hf⟩ := Option.bind_eq_some_iff.mp hf
    refine ah_iast K hG hL eM3 dX11_row_77 (fun H locs hG hL => ?_)
    refine lv_iinc (v := x4 + 1) (lv' := [(4, .int (x4 + 1)), (0, .ref a0), (1, .int x1)]) K.1 K.2.1 dX11_row_78 hl (k := 2) rfl rfl (by decide) rfl (fun ls hl => ?_)
    refine lv_goto (tgt := 58) K.1 K.2.1 dX11_row_81 (by decide) ?_
    exact hk58 M3 a0 x1 (x4 + 1) _ _ _ hG hL (lv_sub hl [1, 2, 0] rfl) _ hf
theorem wX11_row_58 {p : Program} {l : Launch} {e : Env} {s : State} {m : MethodId} {args : Array Value} {below : List Frame} {meth : Method} {c : Code} {D : va_G} {ca : Nat → ClassId} {H0 : Heap} {z : Nat} (K : ah_K p s m args meth c D ca "ShipsThatMeetModel" cX11_row 5 (some .int))   (n : Nat) : ∀ (M : ah_h) (a0 : Nat) (x1 : Int32) (x4 : Int32)  (H : Heap) (locs : List Loc) (ls : Array Slot), ah_g H0 D ca M z H → ah_L H0 locs → lv_has ls 5 [(0, .ref a0), (1, .int x1), (4, .int x4)] → ∀ Z, fX11_row_58    n M a0 x1 x4 = some Z → W p l e { frames := 2, cells := 0, slots := 0, locals := 45 } s m args below meth c H locs 0 0 (ah_Q below args s H0 D ca 0 0 (some (.int Z.1)) Z.2 z) (F0 m 58 ls []) := by
  induction n with
  | zero => intro M a0 x1 x4 H locs ls hG hL hl Z hf; cases hf
  | succ n ih => exact wX11_row_58_b K  _ ih
def fX11_row (M : ah_h) (a0 : Nat) (x1 : Int32) (x2 : Int32) (x3 : Int32) : Option (Int32 × ah_h) := (ah_ob M a0 11).bind fun _ => (fX11_isShelf M x1).bind fun v1 => if v1 = 0 then (some ((-1), M)) else ((fX11_isIn M x2.toInt64 0 2).bind fun v3 => if v3 = 0 then (some ((-1), M)) else (if x3 ≤ 100 then (if 0 ≤ x3 then ((ah_gr M a0 11 4).bind fun v7 => (ah_si M v7 x1 2).bind fun M8 => (ah_gr M8 a0 11 5).bind fun v9 => (ah_si M8 v9 x1 x2).bind fun M10 => (ah_gr M10 a0 11 6).bind fun v11 => (ah_si M10 v11 x1 x3).bind fun M12 => fX11_row_58 ah_fu M12 a0 x1 0) else (some ((-14), M))) else (some ((-1), M))))
set_option maxRecDepth 100000 in
set_option maxHeartbeats 4000000 in
theorem ctX11_row (l : Launch) (H0 : Heap) (D : va_G) (ca : Nat → ClassId) (M : ah_h) (z : Nat) (a0 : Nat) (x1 : Int32) (x2 : Int32) (x3 : Int32) (Z : Int32 × ah_h) (hf : fX11_row M a0 x1 x2 x3 = some Z) : ah_ct l H0 D ca yX11_row cX11_row 5 (some .int) 2 45 0 0 [.ref a0, .int x1, .int x2, .int x3] M z (some (.int Z.1)) Z.2 z := by
  refine ah_of (by decide) (Nat.le_of_ble_eq_true rfl) ?_
  intro p e s m below meth c ls hin K hG hl
  have hL : ah_L H0 [] := ah_L.nil
  have hl : lv_has ls 5 [(0, .ref a0), (1, .int x1), (2, .int x2), (3, .int x3)] := hl
  unfold fX11_row at hf
  obtain ⟨-, -, hf⟩ := Option.bind_eq_some_iff.mp hf
  refine lv_iload_n K.1 K.2.1 dX11_row_0 rfl (lv_at hl 1 rfl) ?_
  obtain ⟨v1, ev1, hf⟩ := Option.bind_eq_some_iff.mp hf
  refine ah_callS (As := [.int x1]) (rest := []) K hG hL hl.1 (ctX11_isShelf l H0 D ca M z x1 v1 ev1) hdX11_isShelf q_968 q_969 q_54 q_970 ⟨Nat.le_of_ble_eq_true rfl, Nat.le_of_ble_eq_true rfl⟩ rfl rfl (Nat.le_of_ble_eq_true rfl) ⟨Nat.le_refl _, Nat.le_refl _⟩ dX11_row_1 (fun H locs hG hL => ?_)
  refine lv_if_eq (tgt := 25) K.1 K.2.1 dX11_row_4 (by decide) (fun h2 => ?_) (fun h2 => ?_)
  · rw [if_pos h2] at hf
    refine lv_iconst (v := (-1)) K.1 K.2.1 dX11_row_25 (by decide) ?_
    have hf := Option.some.inj hf
    subst hf
    exact ah_iret K hG hL (Nat.le_refl _) (Nat.le_refl _) dX11_row_26
  · rw [if_neg h2] at hf
    refine lv_iload_n K.1 K.2.1 dX11_row_7 rfl (lv_at hl 2 rfl) ?_
    refine lv_i2l (v := x2.toInt64) K.1 K.2.1 dX11_row_8 rfl ?_
    refine lv_lconst (v := 0) K.1 K.2.1 dX11_row_9 (by decide) ?_
    refine lv_ldc2 (v := 2) K.1 K.2.1 K.2.2.2.1 (K.2.2.2.2.1 _ q_1248) dX11_row_10 ?_
    obtain ⟨v3, ev3, hf⟩ := Option.bind_eq_some_iff.mp hf
    refine ah_callS (As := [.long x2.toInt64, .long 0, .long 2]) (rest := []) K hG hL hl.1 (ctX11_isIn l H0 D ca M z x2.toInt64 0 2 v3 ev3) hdX11_isIn q_972 q_973 q_54 q_974 ⟨Nat.le_of_ble_eq_true rfl, Nat.le_of_ble_eq_true rfl⟩ rfl rfl (Nat.le_of_ble_eq_true rfl) ⟨Nat.le_refl _, Nat.le_refl _⟩ dX11_row_13 (fun H locs hG hL => ?_)
    refine lv_if_eq (tgt := 25) K.1 K.2.1 dX11_row_16 (by decide) (fun h4 => ?_) (fun h4 => ?_)
    · rw [if_pos h4] at hf
      refine lv_iconst (v := (-1)) K.1 K.2.1 dX11_row_25 (by decide) ?_
      have hf := Option.some.inj hf
      subst hf
      exact ah_iret K hG hL (Nat.le_refl _) (Nat.le_refl _) dX11_row_26
    · rw [if_neg h4] at hf
      refine lv_iload_n K.1 K.2.1 dX11_row_19 rfl (lv_at hl 3 rfl) ?_
      refine lv_bipush (v := 100) K.1 K.2.1 dX11_row_20 (by decide) ?_
      refine lv_icmp_le (tgt := 27) K.1 K.2.1 dX11_row_22 (by decide) (fun h5 => ?_) (fun h5 => ?_)
      · rw [if_pos h5] at hf
        refine lv_iload_n K.1 K.2.1 dX11_row_27 rfl (lv_at hl 3 rfl) ?_
        refine lv_if_ge (tgt := 34) K.1 K.2.1 dX11_row_28 (by decide) (fun h6 => ?_) (fun h6 => ?_)
        · rw [if_pos h6] at hf
          refine lv_aload_n K.1 K.2.1 dX11_row_34 rfl (lv_at hl 0 rfl) ?_
          obtain ⟨v7, ev7, hf⟩ := Option.bind_eq_some_iff.mp hf
          refine ah_getr K hG ev7 ffX11_22_11 dX11_row_35 ?_
          refine lv_iload_n K.1 K.2.1 dX11_row_38 rfl (lv_at hl 1 rfl) ?_
          refine lv_iconst (v := 2) K.1 K.2.1 dX11_row_39 (by decide) ?_
          obtain ⟨M8, eM8, hf⟩ := Option.bind_eq_some_iff.mp hf
          refine ah_iast K hG hL eM8 dX11_row_40 (fun H locs hG hL => ?_)
          refine lv_aload_n K.1 K.2.1 dX11_row_41 rfl (lv_at hl 0 rfl) ?_
          obtain ⟨v9, ev9, hf⟩ := Option.bind_eq_some_iff.mp hf
          refine ah_getr K hG ev9 ffX11_25_11 dX11_row_42 ?_
          refine lv_iload_n K.1 K.2.1 dX11_row_45 rfl (lv_at hl 1 rfl) ?_
          refine lv_iload_n K.1 K.2.1 dX11_row_46 rfl (lv_at hl 2 rfl) ?_
          obtain ⟨M10, eM10, hf⟩ := Option.bind_eq_some_iff.mp hf
          refine ah_iast K hG hL eM10 dX11_row_47 (fun H locs hG hL => ?_)
          refine lv_aload_n K.1 K.2.1 dX11_row_48 rfl (lv_at hl 0 rfl) ?_
          obtain ⟨v11, ev11, hf⟩ := Option.bind_eq_some_iff.mp hf
          refine ah_getr K hG ev11 ffX11_28_11 dX11_row_49 ?_
          refine lv_iload_n K.1 K.2.1 dX11_row_52 rfl (lv_at hl 1 rfl) ?_
          refine lv_iload_n K.1 K.2.1 dX11_row_53 rfl (lv_at hl 3 rfl) ?_
          obtain ⟨M12, eM12, hf⟩ := Option.bind_eq_some_iff.mp hf
          refine ah_iast K hG hL eM12 dX11_row_54 (fun H locs hG hL => ?_)
          refine lv_iconst (v := 0) K.1 K.2.1 dX11_row_55 (by decide) ?_
          refine lv_istore (lv' := [(4, .int 0), (0, .ref a0), (1, .int x1), (2, .int x2), (3, .int x3)]) K.1 K.2.1 dX11_row_56 hl (by decide) rfl (fun ls hl => ?_)
          exact wX11_row_58 K  ah_fu M12 a0 x1 0 _ _ _ hG hL (lv_sub hl [1, 2, 0] rfl) _ hf
        · rw [if_neg h6] at hf
          refine lv_bipush (v := (-14)) K.1 K.2.1 dX11_row_31 (by decide) ?_
          have hf := Option.some.inj hf
          subst hf
          exact ah_iret K hG hL (Nat.le_refl _) (Nat.le_refl _) dX11_row_33
      · rw [if_neg h5] at hf
        refine lv_iconst (v := (-1)) K.1 K.2.1 dX11_row_25 (by decide) ?_
        have hf := Option.some.inj hf
        subst hf
        exact ah_iret K hG hL (Nat.le_refl _) (Nat.le_refl _) dX11_row_26
def fX11_put_77    (M : ah_h) (s0 : Nat) (s1 : Int32) (s2 : Int32) : Option (Int32 × ah_h) := (ah_si M s0 s1 s2).bind fun M1 => some (0, M1)
set_option maxRecDepth 100000 in
set_option maxHeartbeats 4000000 in
theorem wX11_put_77 {p : Program} {l : Launch} {e : Env} {s : State} {m : MethodId} {args : Array Value} {below : List Frame} {meth : Method} {c : Code} {D : va_G} {ca : Nat → ClassId} {H0 : Heap} {z : Nat} (K : ah_K p s m args meth c D ca "ShipsThatMeetModel" cX11_put 5 (some .int))   : ∀ (M : ah_h) (s0 : Nat) (s1 : Int32) (s2 : Int32)  (H : Heap) (locs : List Loc) (ls : Array Slot), ah_g H0 D ca M z H → ah_L H0 locs → lv_has ls 5 [] → ∀ Z, fX11_put_77    M s0 s1 s2 = some Z → W p l e { frames := 3, cells := 0, slots := 0, locals := 67 } s m args below meth c H locs 0 0 (ah_Q below args s H0 D ca 0 0 (some (.int Z.1)) Z.2 z) (F0 m 77 ls [.int s2, .int s1, .ref s0]) := by
  intro M s0 s1 s2 H locs ls hG hL hl Z hf
  unfold fX11_put_77 at hf
  obtain ⟨M1, eM1, hf⟩ := Option.bind_eq_some_iff.mp hf
  refine ah_iast K hG hL eM1 dX11_put_77 (fun H locs hG hL => ?_)
  refine lv_iconst (v := 0) K.1 K.2.1 dX11_put_78 (by decide) ?_
  have hf := Option.some.inj hf
  subst hf
  exact ah_iret K hG hL (Nat.le_refl _) (Nat.le_refl _) dX11_put_79
def fX11_put (M : ah_h) (a0 : Nat) (x1 : Int32) (x2 : Int32) (x3 : Int32) : Option (Int32 × ah_h) := (ah_ob M a0 11).bind fun _ => (fX11_wrongRow M a0 x1 (-1)).bind fun v1 => if v1 = 0 then ((ah_gr M a0 11 6).bind fun v4 => (ah_ai M v4 x1).bind fun v5 => (fX11_isIn M x2.toInt64 0 ((v5 - 1).toInt64)).bind fun v6 => if v6 = 0 then (some ((-13), M)) else ((ah_gr M a0 11 7).bind fun v8 => (ah_gr M a0 11 5).bind fun v9 => (ah_ai M v9 x1).bind fun v10 => if v10 = 0 then (fX11_put_77 M v8 ((100 * x1) + x2) x3.toInt8.toInt32) else ((ah_gr M a0 11 5).bind fun v12 => (ah_ai M v12 x1).bind fun v13 => if v13 = 1 then (fX11_put_77 M v8 ((100 * x1) + x2) x3.toInt16.toInt32) else (fX11_put_77 M v8 ((100 * x1) + x2) x3)))) else (some (v1, M))
set_option maxRecDepth 100000 in
set_option maxHeartbeats 4000000 in
theorem ctX11_put (l : Launch) (H0 : Heap) (D : va_G) (ca : Nat → ClassId) (M : ah_h) (z : Nat) (a0 : Nat) (x1 : Int32) (x2 : Int32) (x3 : Int32) (Z : Int32 × ah_h) (hf : fX11_put M a0 x1 x2 x3 = some Z) : ah_ct l H0 D ca yX11_put cX11_put 5 (some .int) 3 67 0 0 [.ref a0, .int x1, .int x2, .int x3] M z (some (.int Z.1)) Z.2 z := by
  refine ah_of (by decide) (Nat.le_of_ble_eq_true rfl) ?_
  intro p e s m below meth c ls hin K hG hl
  have hL : ah_L H0 [] := ah_L.nil
  have hl : lv_has ls 5 [(0, .ref a0), (1, .int x1), (2, .int x2), (3, .int x3)] := hl
  unfold fX11_put at hf
  obtain ⟨-, -, hf⟩ := Option.bind_eq_some_iff.mp hf
  refine lv_aload_n K.1 K.2.1 dX11_put_0 rfl (lv_at hl 0 rfl) ?_
  refine lv_iload_n K.1 K.2.1 dX11_put_1 rfl (lv_at hl 1 rfl) ?_
  refine lv_iconst (v := (-1)) K.1 K.2.1 dX11_put_2 (by decide) ?_
  obtain ⟨v1, ev1, hf⟩ := Option.bind_eq_some_iff.mp hf
  obtain ⟨q2, eq2⟩ := ah_this ev1
  refine ah_callV (As := [.int x1, .int (-1)]) (rest := []) K hG hL hl.1 eq2 rfl (ctX11_wrongRow l H0 D ca M z a0 x1 (-1) v1 ev1) hdX11_wrongRow q_964 q_966 q_54 q_967 q_11 ⟨Nat.le_of_ble_eq_true rfl, Nat.le_of_ble_eq_true rfl⟩ rfl rfl (Nat.le_of_ble_eq_true rfl) ⟨Nat.le_refl _, Nat.le_refl _⟩ dX11_put_3 (fun H locs hG hL => ?_)
  refine lv_istore (lv' := [(4, .int v1), (0, .ref a0), (1, .int x1), (2, .int x2), (3, .int x3)]) K.1 K.2.1 dX11_put_6 hl (by decide) rfl (fun ls hl => ?_)
  refine lv_iload K.1 K.2.1 dX11_put_8 (lv_at hl 0 rfl) ?_
  refine lv_if_eq (tgt := 16) K.1 K.2.1 dX11_put_10 (by decide) (fun h3 => ?_) (fun h3 => ?_)
  · rw [if_pos h3] at hf
    refine lv_iload_n K.1 K.2.1 dX11_put_16 rfl (lv_at hl 3 rfl) ?_
    refine lv_i2l (v := x2.toInt64) K.1 K.2.1 dX11_put_17 rfl ?_
    refine lv_lconst (v := 0) K.1 K.2.1 dX11_put_18 (by decide) ?_
    refine lv_aload_n K.1 K.2.1 dX11_put_19 rfl (lv_at hl 1 rfl) ?_
    obtain ⟨v4, ev4, hf⟩ := Option.bind_eq_some_iff.mp hf
    refine ah_getr K hG ev4 ffX11_28_11 dX11_put_20 ?_
    refine lv_iload_n K.1 K.2.1 dX11_put_23 rfl (lv_at hl 2 rfl) ?_
    obtain ⟨v5, ev5, hf⟩ := Option.bind_eq_some_iff.mp hf
    refine ah_iald K hG ev5 dX11_put_24 ?_
    refine lv_iconst (v := 1) K.1 K.2.1 dX11_put_25 (by decide) ?_
    refine lv_isub K.1 K.2.1 dX11_put_26 ?_
    refine lv_i2l (v := (v5 - 1).toInt64) K.1 K.2.1 dX11_put_27 rfl ?_
    obtain ⟨v6, ev6, hf⟩ := Option.bind_eq_some_iff.mp hf
    refine ah_callS (As := [.long x2.toInt64, .long 0, .long ((v5 - 1).toInt64)]) (rest := []) K hG hL hl.1 (ctX11_isIn l H0 D ca M z x2.toInt64 0 ((v5 - 1).toInt64) v6 ev6) hdX11_isIn q_972 q_973 q_54 q_974 ⟨Nat.le_of_ble_eq_true rfl, Nat.le_of_ble_eq_true rfl⟩ rfl rfl (Nat.le_of_ble_eq_true rfl) ⟨Nat.le_refl _, Nat.le_refl _⟩ dX11_put_28 (fun H locs hG hL => ?_)
    refine lv_if_ne (tgt := 37) K.1 K.2.1 dX11_put_31 (by decide) (fun h7 => ?_) (fun h7 => ?_)
    · rw [if_neg h7] at hf
      refine lv_aload_n K.1 K.2.1 dX11_put_37 rfl (lv_at hl 1 rfl) ?_
      obtain ⟨v8, ev8, hf⟩ := Option.bind_eq_some_iff.mp hf
      refine ah_getr K hG ev8 ffX11_31_11 dX11_put_38 ?_
      refine lv_bipush (v := 100) K.1 K.2.1 dX11_put_41 (by decide) ?_
      refine lv_iload_n K.1 K.2.1 dX11_put_43 rfl (lv_at hl 2 rfl) ?_
      refine lv_imul K.1 K.2.1 dX11_put_44 ?_
      refine lv_iload_n K.1 K.2.1 dX11_put_45 rfl (lv_at hl 3 rfl) ?_
      refine lv_iadd K.1 K.2.1 dX11_put_46 ?_
      refine lv_aload_n K.1 K.2.1 dX11_put_47 rfl (lv_at hl 1 rfl) ?_
      obtain ⟨v9, ev9, hf⟩ := Option.bind_eq_some_iff.mp hf
      refine ah_getr K hG ev9 ffX11_25_11 dX11_put_48 ?_
      refine lv_iload_n K.1 K.2.1 dX11_put_51 rfl (lv_at hl 2 rfl) ?_
      obtain ⟨v10, ev10, hf⟩ := Option.bind_eq_some_iff.mp hf
      refine ah_iald K hG ev10 dX11_put_52 ?_
      refine lv_if_ne (tgt := 61) K.1 K.2.1 dX11_put_53 (by decide) (fun h11 => ?_) (fun h11 => ?_)
      · rw [if_neg h11] at hf
        refine lv_aload_n K.1 K.2.1 dX11_put_61 rfl (lv_at hl 1 rfl) ?_
        obtain ⟨v12, ev12, hf⟩ := Option.bind_eq_some_iff.mp hf
        refine ah_getr K hG ev12 ffX11_25_11 dX11_put_62 ?_
        refine lv_iload_n K.1 K.2.1 dX11_put_65 rfl (lv_at hl 2 rfl) ?_
        obtain ⟨v13, ev13, hf⟩ := Option.bind_eq_some_iff.mp hf
        refine ah_iald K hG ev13 dX11_put_66 ?_
        refine lv_iconst (v := 1) K.1 K.2.1 dX11_put_67 (by decide) ?_
        refine lv_icmp_ne (tgt := 76) K.1 K.2.1 dX11_put_68 (by decide) (fun h14 => ?_) (fun h14 => ?_)
        · rw [if_neg h14] at hf
          refine lv_iload_n K.1 K.2.1 dX11_put_76 rfl (lv_at hl 4 rfl) ?_
          exact wX11_put_77 K  M v8 ((100 * x1) + x2) x3 _ _ _ hG hL (lv_sub hl [] rfl) _ hf
        · rw [if_pos h14] at hf
          refine lv_iload_n K.1 K.2.1 dX11_put_71 rfl (lv_at hl 4 rfl) ?_
          refine lv_i2s (v := x3.toInt16.toInt32) K.1 K.2.1 dX11_put_72 rfl ?_
          refine lv_goto (tgt := 77) K.1 K.2.1 dX11_put_73 (by decide) ?_
          exact wX11_put_77 K  M v8 ((100 * x1) + x2) x3.toInt16.toInt32 _ _ _ hG hL (lv_sub hl [] rfl) _ hf
      · rw [if_pos h11] at hf
        refine lv_iload_n K.1 K.2.1 dX11_put_56 rfl (lv_at hl 4 rfl) ?_
        refine lv_i2b (v := x3.toInt8.toInt32) K.1 K.2.1 dX11_put_57 rfl ?_
        refine lv_goto (tgt := 77) K.1 K.2.1 dX11_put_58 (by decide) ?_
        exact wX11_put_77 K  M v8 ((100 * x1) + x2) x3.toInt8.toInt32 _ _ _ hG hL (lv_sub hl [] rfl) _ hf
    · rw [if_pos h7] at hf
      refine lv_bipush (v := (-13)) K.1 K.2.1 dX11_put_34 (by decide) ?_
      have hf := Option.some.inj hf
      subst hf
      exact ah_iret K hG hL (Nat.le_refl _) (Nat.le_refl _) dX11_put_36
  · rw [if_neg h3] at hf
    refine lv_iload K.1 K.2.1 dX11_put_13 (lv_at hl 0 rfl) ?_
    have hf := Option.some.inj hf
    subst hf
    exact ah_iret K hG hL (Nat.le_refl _) (Nat.le_refl _) dX11_put_15
def fX11_element_45    (M : ah_h) (a0 : Nat) (x1 : Int32) (x2 : Int32) (s0 : Nat) (s1 : Int32) : Option (Int64 × ah_h) := (ah_pf M s0 11 11 (.int s1)).bind fun M1 => (ah_gi M1 a0 11 11).bind fun v2 => if v2 = 0 then ((ah_gr M1 a0 11 7).bind fun v4 => (ah_ai M1 v4 ((100 * x1) + x2)).bind fun v5 => some (v5.toInt64, M1)) else (some (0, M1))
set_option maxRecDepth 100000 in
set_option maxHeartbeats 4000000 in
theorem wX11_element_45 {p : Program} {l : Launch} {e : Env} {s : State} {m : MethodId} {args : Array Value} {below : List Frame} {meth : Method} {c : Code} {D : va_G} {ca : Nat → ClassId} {H0 : Heap} {z : Nat} (K : ah_K p s m args meth c D ca "ShipsThatMeetModel" cX11_element 3 (some .long))   : ∀ (M : ah_h) (a0 : Nat) (x1 : Int32) (x2 : Int32) (s0 : Nat) (s1 : Int32)  (H : Heap) (locs : List Loc) (ls : Array Slot), ah_g H0 D ca M z H → ah_L H0 locs → lv_has ls 3 [(0, .ref a0), (1, .int x1), (2, .int x2)] → ∀ Z, fX11_element_45    M a0 x1 x2 s0 s1 = some Z → W p l e { frames := 2, cells := 0, slots := 0, locals := 45 } s m args below meth c H locs 0 0 (ah_Q below args s H0 D ca 0 0 (some (.long Z.1)) Z.2 z) (F0 m 45 ls [.int s1, .ref s0]) := by
  intro M a0 x1 x2 s0 s1 H locs ls hG hL hl Z hf
  unfold fX11_element_45 at hf
  obtain ⟨M1, eM1, hf⟩ := Option.bind_eq_some_iff.mp hf
  refine ah_put K hG hL eM1 fwX11_53_11 rfl rfl dX11_element_45 (fun H locs hG hL => ?_)
  refine lv_aload_n K.1 K.2.1 dX11_element_48 rfl (lv_at hl 0 rfl) ?_
  obtain ⟨v2, ev2, hf⟩ := Option.bind_eq_some_iff.mp hf
  refine ah_geti K hG ev2 ffX11_53_11 dX11_element_49 ?_
  refine lv_if_ne (tgt := 70) K.1 K.2.1 dX11_element_52 (by decide) (fun h3 => ?_) (fun h3 => ?_)
  · rw [if_neg h3] at hf
    refine lv_lconst (v := 0) K.1 K.2.1 dX11_element_70 (by decide) ?_
    have hf := Option.some.inj hf
    subst hf
    exact ah_lret K hG hL (Nat.le_refl _) (Nat.le_refl _) dX11_element_71
  · rw [if_pos h3] at hf
    refine lv_aload_n K.1 K.2.1 dX11_element_55 rfl (lv_at hl 0 rfl) ?_
    obtain ⟨v4, ev4, hf⟩ := Option.bind_eq_some_iff.mp hf
    refine ah_getr K hG ev4 ffX11_31_11 dX11_element_56 ?_
    refine lv_bipush (v := 100) K.1 K.2.1 dX11_element_59 (by decide) ?_
    refine lv_iload_n K.1 K.2.1 dX11_element_61 rfl (lv_at hl 1 rfl) ?_
    refine lv_imul K.1 K.2.1 dX11_element_62 ?_
    refine lv_iload_n K.1 K.2.1 dX11_element_63 rfl (lv_at hl 2 rfl) ?_
    refine lv_iadd K.1 K.2.1 dX11_element_64 ?_
    obtain ⟨v5, ev5, hf⟩ := Option.bind_eq_some_iff.mp hf
    refine ah_iald K hG ev5 dX11_element_65 ?_
    refine lv_i2l (v := v5.toInt64) K.1 K.2.1 dX11_element_66 rfl ?_
    refine lv_goto (tgt := 71) K.1 K.2.1 dX11_element_67 (by decide) ?_
    have hf := Option.some.inj hf
    subst hf
    exact ah_lret K hG hL (Nat.le_refl _) (Nat.le_refl _) dX11_element_71
def fX11_element_40    (M : ah_h) (a0 : Nat) (x1 : Int32) (x2 : Int32) (s0 : Nat) : Option (Int64 × ah_h) := fX11_element_45 M a0 x1 x2 s0 2
set_option maxRecDepth 100000 in
set_option maxHeartbeats 4000000 in
theorem wX11_element_40 {p : Program} {l : Launch} {e : Env} {s : State} {m : MethodId} {args : Array Value} {below : List Frame} {meth : Method} {c : Code} {D : va_G} {ca : Nat → ClassId} {H0 : Heap} {z : Nat} (K : ah_K p s m args meth c D ca "ShipsThatMeetModel" cX11_element 3 (some .long))   : ∀ (M : ah_h) (a0 : Nat) (x1 : Int32) (x2 : Int32) (s0 : Nat)  (H : Heap) (locs : List Loc) (ls : Array Slot), ah_g H0 D ca M z H → ah_L H0 locs → lv_has ls 3 [(0, .ref a0), (1, .int x1), (2, .int x2)] → ∀ Z, fX11_element_40    M a0 x1 x2 s0 = some Z → W p l e { frames := 2, cells := 0, slots := 0, locals := 45 } s m args below meth c H locs 0 0 (ah_Q below args s H0 D ca 0 0 (some (.long Z.1)) Z.2 z) (F0 m 40 ls [.ref s0]) := by
  intro M a0 x1 x2 s0 H locs ls hG hL hl Z hf
  unfold fX11_element_40 at hf
  refine lv_iconst (v := 2) K.1 K.2.1 dX11_element_40 (by decide) ?_
  refine lv_goto (tgt := 45) K.1 K.2.1 dX11_element_41 (by decide) ?_
  exact wX11_element_45 K  M a0 x1 x2 s0 2 _ _ _ hG hL (lv_sub hl [0, 1, 2] rfl) _ hf
def fX11_element (M : ah_h) (a0 : Nat) (x1 : Int32) (x2 : Int32) : Option (Int64 × ah_h) := (ah_ob M a0 11).bind fun _ => (fX11_isShelf M x1).bind fun v1 => if v1 = 0 then (fX11_element_45 M a0 x1 x2 a0 1) else ((ah_gr M a0 11 4).bind fun v3 => (ah_ai M v3 x1).bind fun v4 => if v4 = 2 then ((ah_gr M a0 11 6).bind fun v6 => (ah_ai M v6 x1).bind fun v7 => (fX11_isIn M x2.toInt64 0 ((v7 - 1).toInt64)).bind fun v8 => if v8 = 0 then (fX11_element_40 M a0 x1 x2 a0) else (fX11_element_45 M a0 x1 x2 a0 0)) else (fX11_element_40 M a0 x1 x2 a0))
set_option maxRecDepth 100000 in
set_option maxHeartbeats 4000000 in
theorem ctX11_element (l : Launch) (H0 : Heap) (D : va_G) (ca : Nat → ClassId) (M : ah_h) (z : Nat) (a0 : Nat) (x1 : Int32) (x2 : Int32) (Z : Int64 × ah_h) (hf : fX11_element M a0 x1 x2 = some Z) : ah_ct l H0 D ca yX11_element cX11_element 3 (some .long) 2 45 0 0 [.ref a0, .int x1, .int x2] M z (some (.long Z.1)) Z.2 z := by
  refine ah_of (by decide) (Nat.le_of_ble_eq_true rfl) ?_
  intro p e s m below meth c ls hin K hG hl
  have hL : ah_L H0 [] := ah_L.nil
  have hl : lv_has ls 3 [(0, .ref a0), (1, .int x1), (2, .int x2)] := hl
  unfold fX11_element at hf
  obtain ⟨-, -, hf⟩ := Option.bind_eq_some_iff.mp hf
  refine lv_aload_n K.1 K.2.1 dX11_element_0 rfl (lv_at hl 0 rfl) ?_
  refine lv_iload_n K.1 K.2.1 dX11_element_1 rfl (lv_at hl 1 rfl) ?_
  obtain ⟨v1, ev1, hf⟩ := Option.bind_eq_some_iff.mp hf
  refine ah_callS (As := [.int x1]) (rest := [.ref a0]) K hG hL hl.1 (ctX11_isShelf l H0 D ca M z x1 v1 ev1) hdX11_isShelf q_968 q_969 q_54 q_970 ⟨Nat.le_of_ble_eq_true rfl, Nat.le_of_ble_eq_true rfl⟩ rfl rfl (Nat.le_of_ble_eq_true rfl) ⟨Nat.le_refl _, Nat.le_refl _⟩ dX11_element_2 (fun H locs hG hL => ?_)
  refine lv_if_ne (tgt := 12) K.1 K.2.1 dX11_element_5 (by decide) (fun h2 => ?_) (fun h2 => ?_)
  · rw [if_neg h2] at hf
    refine lv_aload_n K.1 K.2.1 dX11_element_12 rfl (lv_at hl 0 rfl) ?_
    obtain ⟨v3, ev3, hf⟩ := Option.bind_eq_some_iff.mp hf
    refine ah_getr K hG ev3 ffX11_22_11 dX11_element_13 ?_
    refine lv_iload_n K.1 K.2.1 dX11_element_16 rfl (lv_at hl 1 rfl) ?_
    obtain ⟨v4, ev4, hf⟩ := Option.bind_eq_some_iff.mp hf
    refine ah_iald K hG ev4 dX11_element_17 ?_
    refine lv_iconst (v := 2) K.1 K.2.1 dX11_element_18 (by decide) ?_
    refine lv_icmp_ne (tgt := 40) K.1 K.2.1 dX11_element_19 (by decide) (fun h5 => ?_) (fun h5 => ?_)
    · rw [if_neg h5] at hf
      exact wX11_element_40 K  M a0 x1 x2 a0 _ _ _ hG hL (lv_sub hl [0, 1, 2] rfl) _ hf
    · rw [if_pos h5] at hf
      refine lv_iload_n K.1 K.2.1 dX11_element_22 rfl (lv_at hl 2 rfl) ?_
      refine lv_i2l (v := x2.toInt64) K.1 K.2.1 dX11_element_23 rfl ?_
      refine lv_lconst (v := 0) K.1 K.2.1 dX11_element_24 (by decide) ?_
      refine lv_aload_n K.1 K.2.1 dX11_element_25 rfl (lv_at hl 0 rfl) ?_
      obtain ⟨v6, ev6, hf⟩ := Option.bind_eq_some_iff.mp hf
      refine ah_getr K hG ev6 ffX11_28_11 dX11_element_26 ?_
      refine lv_iload_n K.1 K.2.1 dX11_element_29 rfl (lv_at hl 1 rfl) ?_
      obtain ⟨v7, ev7, hf⟩ := Option.bind_eq_some_iff.mp hf
      refine ah_iald K hG ev7 dX11_element_30 ?_
      refine lv_iconst (v := 1) K.1 K.2.1 dX11_element_31 (by decide) ?_
      refine lv_isub K.1 K.2.1 dX11_element_32 ?_
      refine lv_i2l (v := (v7 - 1).toInt64) K.1 K.2.1 dX11_element_33 rfl ?_
      obtain ⟨v8, ev8, hf⟩ := Option.bind_eq_some_iff.mp hf
      refine ah_callS (As := [.long x2.toInt64, .long 0, .long ((v7 - 1).toInt64)]) (rest := [.ref a0]) K hG hL hl.1 (ctX11_isIn l H0 D ca M z x2.toInt64 0 ((v7 - 1).toInt64) v8 ev8) hdX11_isIn q_972 q_973 q_54 q_974 ⟨Nat.le_of_ble_eq_true rfl, Nat.le_of_ble_eq_true rfl⟩ rfl rfl (Nat.le_of_ble_eq_true rfl) ⟨Nat.le_refl _, Nat.le_refl _⟩ dX11_element_34 (fun H locs hG hL => ?_)
      refine lv_if_ne (tgt := 44) K.1 K.2.1 dX11_element_37 (by decide) (fun h9 => ?_) (fun h9 => ?_)
      · rw [if_neg h9] at hf
        refine lv_iconst (v := 0) K.1 K.2.1 dX11_element_44 (by decide) ?_
        exact wX11_element_45 K  M a0 x1 x2 a0 0 _ _ _ hG hL (lv_sub hl [0, 1, 2] rfl) _ hf
      · rw [if_pos h9] at hf
        exact wX11_element_40 K  M a0 x1 x2 a0 _ _ _ hG hL (lv_sub hl [0, 1, 2] rfl) _ hf
  · rw [if_pos h2] at hf
    refine lv_iconst (v := 1) K.1 K.2.1 dX11_element_8 (by decide) ?_
    refine lv_goto (tgt := 45) K.1 K.2.1 dX11_element_9 (by decide) ?_
    exact wX11_element_45 K  M a0 x1 x2 a0 1 _ _ _ hG hL (lv_sub hl [0, 1, 2] rfl) _ hf
def fX11_copy_147  (k122 : ah_h → Nat → Int32 → Int32 → Int32 → Int32 → Int32 → Int32 → Option (Int32 × ah_h))  (M : ah_h) (a0 : Nat) (x1 : Int32) (x2 : Int32) (x3 : Int32) (x4 : Int32) (x5 : Int32) (x6 : Int32) (s0 : Int32) : Option (Int32 × ah_h) := (ah_gr M a0 11 7).bind fun v1 => (ah_gr M a0 11 7).bind fun v2 => (ah_ai M v2 (((100 * x1) + x2) + s0)).bind fun v3 => (ah_si M v1 (((100 * x3) + x4) + s0) v3).bind fun M4 => k122 M4 a0 x1 x2 x3 x4 x5 (x6 + 1)
set_option maxRecDepth 100000 in
set_option maxHeartbeats 4000000 in
theorem wX11_copy_147 {p : Program} {l : Launch} {e : Env} {s : State} {m : MethodId} {args : Array Value} {below : List Frame} {meth : Method} {c : Code} {D : va_G} {ca : Nat → ClassId} {H0 : Heap} {z : Nat} (K : ah_K p s m args meth c D ca "ShipsThatMeetModel" cX11_copy 8 (some .int))  (k122 : ah_h → Nat → Int32 → Int32 → Int32 → Int32 → Int32 → Int32 → Option (Int32 × ah_h)) (hk122 : ∀ (M : ah_h) (a0 : Nat) (x1 : Int32) (x2 : Int32) (x3 : Int32) (x4 : Int32) (x5 : Int32) (x6 : Int32)  (H : Heap) (locs : List Loc) (ls : Array Slot), ah_g H0 D ca M z H → ah_L H0 locs → lv_has ls 8 [(0, .ref a0), (1, .int x1), (2, .int x2), (3, .int x3), (4, .int x4), (5, .int x5), (6, .int x6)] → ∀ Z, k122 M a0 x1 x2 x3 x4 x5 x6 = some Z → W p l e { frames := 2, cells := 0, slots := 0, locals := 45 } s m args below meth c H locs 0 0 (ah_Q below args s H0 D ca 0 0 (some (.int Z.1)) Z.2 z) (F0 m 122 ls [])) : ∀ (M : ah_h) (a0 : Nat) (x1 : Int32) (x2 : Int32) (x3 : Int32) (x4 : Int32) (x5 : Int32) (x6 : Int32) (s0 : Int32)  (H : Heap) (locs : List Loc) (ls : Array Slot), ah_g H0 D ca M z H → ah_L H0 locs → lv_has ls 8 [(0, .ref a0), (1, .int x1), (2, .int x2), (3, .int x3), (4, .int x4), (5, .int x5), (6, .int x6)] → ∀ Z, fX11_copy_147  k122  M a0 x1 x2 x3 x4 x5 x6 s0 = some Z → W p l e { frames := 2, cells := 0, slots := 0, locals := 45 } s m args below meth c H locs 0 0 (ah_Q below args s H0 D ca 0 0 (some (.int Z.1)) Z.2 z) (F0 m 147 ls [.int s0]) := by
  intro M a0 x1 x2 x3 x4 x5 x6 s0 H locs ls hG hL hl Z hf
  unfold fX11_copy_147 at hf
  refine lv_istore (lv' := [(7, .int s0), (0, .ref a0), (1, .int x1), (2, .int x2), (3, .int x3), (4, .int x4), (5, .int x5), (6, .int x6)]) K.1 K.2.1 dX11_copy_147 hl (by decide) rfl (fun ls hl => ?_)
  refine lv_aload_n K.1 K.2.1 dX11_copy_149 rfl (lv_at hl 1 rfl) ?_
  obtain ⟨v1, ev1, hf⟩ := Option.bind_eq_some_iff.mp hf
  refine ah_getr K hG ev1 ffX11_31_11 dX11_copy_150 ?_
  refine lv_bipush (v := 100) K.1 K.2.1 dX11_copy_153 (by decide) ?_
  refine lv_iload_n K.1 K.2.1 dX11_copy_155 rfl (lv_at hl 4 rfl) ?_
  refine lv_imul K.1 K.2.1 dX11_copy_156 ?_
  refine lv_iload K.1 K.2.1 dX11_copy_157 (lv_at hl 5 rfl) ?_
  refine lv_iadd K.1 K.2.1 dX11_copy_159 ?_
  refine lv_iload K.1 K.2.1 dX11_copy_160 (lv_at hl 0 rfl) ?_
  refine lv_iadd K.1 K.2.1 dX11_copy_162 ?_
  refine lv_aload_n K.1 K.2.1 dX11_copy_163 rfl (lv_at hl 1 rfl) ?_
  obtain ⟨v2, ev2, hf⟩ := Option.bind_eq_some_iff.mp hf
  refine ah_getr K hG ev2 ffX11_31_11 dX11_copy_164 ?_
  refine lv_bipush (v := 100) K.1 K.2.1 dX11_copy_167 (by decide) ?_
  refine lv_iload_n K.1 K.2.1 dX11_copy_169 rfl (lv_at hl 2 rfl) ?_
  refine lv_imul K.1 K.2.1 dX11_copy_170 ?_
  refine lv_iload_n K.1 K.2.1 dX11_copy_171 rfl (lv_at hl 3 rfl) ?_
  refine lv_iadd K.1 K.2.1 dX11_copy_172 ?_
  refine lv_iload K.1 K.2.1 dX11_copy_173 (lv_at hl 0 rfl) ?_
  refine lv_iadd K.1 K.2.1 dX11_copy_175 ?_
  obtain ⟨v3, ev3, hf⟩ := Option.bind_eq_some_iff.mp hf
  refine ah_iald K hG ev3 dX11_copy_176 ?_
  obtain ⟨M4, eM4, hf⟩ := Option.bind_eq_some_iff.mp hf
  refine ah_iast K hG hL eM4 dX11_copy_177 (fun H locs hG hL => ?_)
  refine lv_iinc (v := x6 + 1) (lv' := [(6, .int (x6 + 1)), (7, .int s0), (0, .ref a0), (1, .int x1), (2, .int x2), (3, .int x3), (4, .int x4), (5, .int x5)]) K.1 K.2.1 dX11_copy_178 hl (k := 7) rfl rfl (by decide) rfl (fun ls hl => ?_)
  refine lv_goto (tgt := 122) K.1 K.2.1 dX11_copy_181 (by decide) ?_
  exact hk122 M4 a0 x1 x2 x3 x4 x5 (x6 + 1) _ _ _ hG hL (lv_sub hl [2, 3, 4, 5, 6, 7, 0] rfl) _ hf
def fX11_copy_122_b   (k122 : ah_h → Nat → Int32 → Int32 → Int32 → Int32 → Int32 → Int32 → Option (Int32 × ah_h))  (M : ah_h) (a0 : Nat) (x1 : Int32) (x2 : Int32) (x3 : Int32) (x4 : Int32) (x5 : Int32) (x6 : Int32) : Option (Int32 × ah_h) := if x5 ≤ x6 then (some (x5, M)) else (if x2 ≤ x4 then (fX11_copy_147 k122 M a0 x1 x2 x3 x4 x5 x6 ((x5 - 1) - x6)) else (fX11_copy_147 k122 M a0 x1 x2 x3 x4 x5 x6 x6))
def fX11_copy_122    : Nat → ah_h → Nat → Int32 → Int32 → Int32 → Int32 → Int32 → Int32 → Option (Int32 × ah_h)
  | 0 => fun _ _ _ _ _ _ _ _ => none
  | n + 1 => fun M a0 x1 x2 x3 x4 x5 x6 => fX11_copy_122_b   (fX11_copy_122    n)  M a0 x1 x2 x3 x4 x5 x6
set_option maxRecDepth 100000 in
set_option maxHeartbeats 4000000 in
theorem wX11_copy_122_b {p : Program} {l : Launch} {e : Env} {s : State} {m : MethodId} {args : Array Value} {below : List Frame} {meth : Method} {c : Code} {D : va_G} {ca : Nat → ClassId} {H0 : Heap} {z : Nat} (K : ah_K p s m args meth c D ca "ShipsThatMeetModel" cX11_copy 8 (some .int))   (k122 : ah_h → Nat → Int32 → Int32 → Int32 → Int32 → Int32 → Int32 → Option (Int32 × ah_h)) (hk122 : ∀ (M : ah_h) (a0 : Nat) (x1 : Int32) (x2 : Int32) (x3 : Int32) (x4 : Int32) (x5 : Int32) (x6 : Int32)  (H : Heap) (locs : List Loc) (ls : Array Slot), ah_g H0 D ca M z H → ah_L H0 locs → lv_has ls 8 [(0, .ref a0), (1, .int x1), (2, .int x2), (3, .int x3), (4, .int x4), (5, .int x5), (6, .int x6)] → ∀ Z, k122 M a0 x1 x2 x3 x4 x5 x6 = some Z → W p l e { frames := 2, cells := 0, slots := 0, locals := 45 } s m args below meth c H locs 0 0 (ah_Q below args s H0 D ca 0 0 (some (.int Z.1)) Z.2 z) (F0 m 122 ls [])) : ∀ (M : ah_h) (a0 : Nat) (x1 : Int32) (x2 : Int32) (x3 : Int32) (x4 : Int32) (x5 : Int32) (x6 : Int32)  (H : Heap) (locs : List Loc) (ls : Array Slot), ah_g H0 D ca M z H → ah_L H0 locs → lv_has ls 8 [(0, .ref a0), (1, .int x1), (2, .int x2), (3, .int x3), (4, .int x4), (5, .int x5), (6, .int x6)] → ∀ Z, fX11_copy_122_b   k122  M a0 x1 x2 x3 x4 x5 x6 = some Z → W p l e { frames := 2, cells := 0, slots := 0, locals := 45 } s m args below meth c H locs 0 0 (ah_Q below args s H0 D ca 0 0 (some (.int Z.1)) Z.2 z) (F0 m 122 ls []) := by
  intro M a0 x1 x2 x3 x4 x5 x6 H locs ls hG hL hl Z hf
  unfold fX11_copy_122_b at hf
  refine lv_iload K.1 K.2.1 dX11_copy_122 (lv_at hl 6 rfl) ?_
  refine lv_iload K.1 K.2.1 dX11_copy_124 (lv_at hl 5 rfl) ?_
  refine lv_icmp_ge (tgt := 184) K.1 K.2.1 dX11_copy_126 (by decide) (fun h1 => ?_) (fun h1 => ?_)
  · rw [if_pos h1] at hf
    refine lv_iload K.1 K.2.1 dX11_copy_184 (lv_at hl 5 rfl) ?_
    have hf := Option.some.inj hf
    subst hf
    exact ah_iret K hG hL (Nat.le_refl _) (Nat.le_refl _) dX11_copy_186
  · rw [if_neg h1] at hf
    refine lv_iload_n K.1 K.2.1 dX11_copy_129 rfl (lv_at hl 2 rfl) ?_
    refine lv_iload K.1 K.2.1 dX11_copy_130 (lv_at hl 4 rfl) ?_
    refine lv_icmp_le (tgt := 140) K.1 K.2.1 dX11_copy_132 (by decide) (fun h2 => ?_) (fun h2 => ?_)
    · rw [if_pos h2] at hf
      refine lv_iload K.1 K.2.1 dX11_copy_140 (lv_at hl 5 rfl) ?_
      refine lv_iconst (v := 1) K.1 K.2.1 dX11_copy_142 (by decide) ?_
      refine lv_isub K.1 K.2.1 dX11_copy_143 ?_
      refine lv_iload K.1 K.2.1 dX11_copy_144 (lv_at hl 6 rfl) ?_
      refine lv_isub K.1 K.2.1 dX11_copy_146 ?_
      exact wX11_copy_147 K k122 hk122 M a0 x1 x2 x3 x4 x5 x6 ((x5 - 1) - x6) _ _ _ hG hL (lv_sub hl [0, 1, 2, 3, 4, 5, 6] rfl) _ hf
    · rw [if_neg h2] at hf
      refine lv_iload K.1 K.2.1 dX11_copy_135 (lv_at hl 6 rfl) ?_
      refine lv_goto (tgt := 147) K.1 K.2.1 dX11_copy_137 (by decide) ?_
      exact wX11_copy_147 K k122 hk122 M a0 x1 x2 x3 x4 x5 x6 x6 _ _ _ hG hL (lv_sub hl [0, 1, 2, 3, 4, 5, 6] rfl) _ hf
theorem wX11_copy_122 {p : Program} {l : Launch} {e : Env} {s : State} {m : MethodId} {args : Array Value} {below : List Frame} {meth : Method} {c : Code} {D : va_G} {ca : Nat → ClassId} {H0 : Heap} {z : Nat} (K : ah_K p s m args meth c D ca "ShipsThatMeetModel" cX11_copy 8 (some .int))   (n : Nat) : ∀ (M : ah_h) (a0 : Nat) (x1 : Int32) (x2 : Int32) (x3 : Int32) (x4 : Int32) (x5 : Int32) (x6 : Int32)  (H : Heap) (locs : List Loc) (ls : Array Slot), ah_g H0 D ca M z H → ah_L H0 locs → lv_has ls 8 [(0, .ref a0), (1, .int x1), (2, .int x2), (3, .int x3), (4, .int x4), (5, .int x5), (6, .int x6)] → ∀ Z, fX11_copy_122    n M a0 x1 x2 x3 x4 x5 x6 = some Z → W p l e { frames := 2, cells := 0, slots := 0, locals := 45 } s m args below meth c H locs 0 0 (ah_Q below args s H0 D ca 0 0 (some (.int Z.1)) Z.2 z) (F0 m 122 ls []) := by
  induction n with
  | zero => intro M a0 x1 x2 x3 x4 x5 x6 H locs ls hG hL hl Z hf; cases hf
  | succ n ih => exact wX11_copy_122_b K  _ ih
def fX11_copy (M : ah_h) (a0 : Nat) (x1 : Int32) (x2 : Int32) (x3 : Int32) (x4 : Int32) (x5 : Int32) : Option (Int32 × ah_h) := (ah_ob M a0 11).bind fun _ => (fX11_isShelf M x1).bind fun v1 => if v1 = 0 then (some ((-1), M)) else ((fX11_isShelf M x3).bind fun v3 => if v3 = 0 then (some ((-1), M)) else ((ah_gr M a0 11 4).bind fun v5 => (ah_ai M v5 x1).bind fun v6 => if v6 = 0 then (some ((-11), M)) else ((ah_gr M a0 11 4).bind fun v8 => (ah_ai M v8 x3).bind fun v9 => if v9 = 0 then (some ((-11), M)) else ((ah_gr M a0 11 4).bind fun v11 => (ah_ai M v11 x1).bind fun v12 => if v12 = 2 then ((ah_gr M a0 11 4).bind fun v14 => (ah_ai M v14 x3).bind fun v15 => if v15 = 2 then ((ah_gr M a0 11 5).bind fun v17 => (ah_ai M v17 x1).bind fun v18 => (ah_gr M a0 11 5).bind fun v19 => (ah_ai M v19 x3).bind fun v20 => if v18 = v20 then (if x5 < 0 then (some ((-13), M)) else (if x2 < 0 then (some ((-13), M)) else (if x4 < 0 then (some ((-13), M)) else ((ah_gr M a0 11 6).bind fun v25 => (ah_ai M v25 x1).bind fun v26 => if (v26 - x2) < x5 then (some ((-13), M)) else ((ah_gr M a0 11 6).bind fun v28 => (ah_ai M v28 x3).bind fun v29 => if x5 ≤ (v29 - x4) then (fX11_copy_122 ah_fu M a0 x1 x2 x3 x4 x5 0) else (some ((-13), M))))))) else (some ((-12), M))) else (some ((-12), M))) else (some ((-12), M))))))
set_option maxRecDepth 100000 in
set_option maxHeartbeats 4000000 in
theorem ctX11_copy (l : Launch) (H0 : Heap) (D : va_G) (ca : Nat → ClassId) (M : ah_h) (z : Nat) (a0 : Nat) (x1 : Int32) (x2 : Int32) (x3 : Int32) (x4 : Int32) (x5 : Int32) (Z : Int32 × ah_h) (hf : fX11_copy M a0 x1 x2 x3 x4 x5 = some Z) : ah_ct l H0 D ca yX11_copy cX11_copy 8 (some .int) 2 45 0 0 [.ref a0, .int x1, .int x2, .int x3, .int x4, .int x5] M z (some (.int Z.1)) Z.2 z := by
  refine ah_of (by decide) (Nat.le_of_ble_eq_true rfl) ?_
  intro p e s m below meth c ls hin K hG hl
  have hL : ah_L H0 [] := ah_L.nil
  have hl : lv_has ls 8 [(0, .ref a0), (1, .int x1), (2, .int x2), (3, .int x3), (4, .int x4), (5, .int x5)] := hl
  unfold fX11_copy at hf
  obtain ⟨-, -, hf⟩ := Option.bind_eq_some_iff.mp hf
  refine lv_iload_n K.1 K.2.1 dX11_copy_0 rfl (lv_at hl 1 rfl) ?_
  obtain ⟨v1, ev1, hf⟩ := Option.bind_eq_some_iff.mp hf
  refine ah_callS (As := [.int x1]) (rest := []) K hG hL hl.1 (ctX11_isShelf l H0 D ca M z x1 v1 ev1) hdX11_isShelf q_968 q_969 q_54 q_970 ⟨Nat.le_of_ble_eq_true rfl, Nat.le_of_ble_eq_true rfl⟩ rfl rfl (Nat.le_of_ble_eq_true rfl) ⟨Nat.le_refl _, Nat.le_refl _⟩ dX11_copy_1 (fun H locs hG hL => ?_)
  refine lv_if_eq (tgt := 14) K.1 K.2.1 dX11_copy_4 (by decide) (fun h2 => ?_) (fun h2 => ?_)
  · rw [if_pos h2] at hf
    refine lv_iconst (v := (-1)) K.1 K.2.1 dX11_copy_14 (by decide) ?_
    have hf := Option.some.inj hf
    subst hf
    exact ah_iret K hG hL (Nat.le_refl _) (Nat.le_refl _) dX11_copy_15
  · rw [if_neg h2] at hf
    refine lv_iload_n K.1 K.2.1 dX11_copy_7 rfl (lv_at hl 3 rfl) ?_
    obtain ⟨v3, ev3, hf⟩ := Option.bind_eq_some_iff.mp hf
    refine ah_callS (As := [.int x3]) (rest := []) K hG hL hl.1 (ctX11_isShelf l H0 D ca M z x3 v3 ev3) hdX11_isShelf q_968 q_969 q_54 q_970 ⟨Nat.le_of_ble_eq_true rfl, Nat.le_of_ble_eq_true rfl⟩ rfl rfl (Nat.le_of_ble_eq_true rfl) ⟨Nat.le_refl _, Nat.le_refl _⟩ dX11_copy_8 (fun H locs hG hL => ?_)
    refine lv_if_ne (tgt := 16) K.1 K.2.1 dX11_copy_11 (by decide) (fun h4 => ?_) (fun h4 => ?_)
    · rw [if_neg h4] at hf
      refine lv_aload_n K.1 K.2.1 dX11_copy_16 rfl (lv_at hl 0 rfl) ?_
      obtain ⟨v5, ev5, hf⟩ := Option.bind_eq_some_iff.mp hf
      refine ah_getr K hG ev5 ffX11_22_11 dX11_copy_17 ?_
      refine lv_iload_n K.1 K.2.1 dX11_copy_20 rfl (lv_at hl 1 rfl) ?_
      obtain ⟨v6, ev6, hf⟩ := Option.bind_eq_some_iff.mp hf
      refine ah_iald K hG ev6 dX11_copy_21 ?_
      refine lv_if_eq (tgt := 34) K.1 K.2.1 dX11_copy_22 (by decide) (fun h7 => ?_) (fun h7 => ?_)
      · rw [if_pos h7] at hf
        refine lv_bipush (v := (-11)) K.1 K.2.1 dX11_copy_34 (by decide) ?_
        have hf := Option.some.inj hf
        subst hf
        exact ah_iret K hG hL (Nat.le_refl _) (Nat.le_refl _) dX11_copy_36
      · rw [if_neg h7] at hf
        refine lv_aload_n K.1 K.2.1 dX11_copy_25 rfl (lv_at hl 0 rfl) ?_
        obtain ⟨v8, ev8, hf⟩ := Option.bind_eq_some_iff.mp hf
        refine ah_getr K hG ev8 ffX11_22_11 dX11_copy_26 ?_
        refine lv_iload_n K.1 K.2.1 dX11_copy_29 rfl (lv_at hl 3 rfl) ?_
        obtain ⟨v9, ev9, hf⟩ := Option.bind_eq_some_iff.mp hf
        refine ah_iald K hG ev9 dX11_copy_30 ?_
        refine lv_if_ne (tgt := 37) K.1 K.2.1 dX11_copy_31 (by decide) (fun h10 => ?_) (fun h10 => ?_)
        · rw [if_neg h10] at hf
          refine lv_aload_n K.1 K.2.1 dX11_copy_37 rfl (lv_at hl 0 rfl) ?_
          obtain ⟨v11, ev11, hf⟩ := Option.bind_eq_some_iff.mp hf
          refine ah_getr K hG ev11 ffX11_22_11 dX11_copy_38 ?_
          refine lv_iload_n K.1 K.2.1 dX11_copy_41 rfl (lv_at hl 1 rfl) ?_
          obtain ⟨v12, ev12, hf⟩ := Option.bind_eq_some_iff.mp hf
          refine ah_iald K hG ev12 dX11_copy_42 ?_
          refine lv_iconst (v := 2) K.1 K.2.1 dX11_copy_43 (by decide) ?_
          refine lv_icmp_ne (tgt := 72) K.1 K.2.1 dX11_copy_44 (by decide) (fun h13 => ?_) (fun h13 => ?_)
          · rw [if_neg h13] at hf
            refine lv_bipush (v := (-12)) K.1 K.2.1 dX11_copy_72 (by decide) ?_
            have hf := Option.some.inj hf
            subst hf
            exact ah_iret K hG hL (Nat.le_refl _) (Nat.le_refl _) dX11_copy_74
          · rw [if_pos h13] at hf
            refine lv_aload_n K.1 K.2.1 dX11_copy_47 rfl (lv_at hl 0 rfl) ?_
            obtain ⟨v14, ev14, hf⟩ := Option.bind_eq_some_iff.mp hf
            refine ah_getr K hG ev14 ffX11_22_11 dX11_copy_48 ?_
            refine lv_iload_n K.1 K.2.1 dX11_copy_51 rfl (lv_at hl 3 rfl) ?_
            obtain ⟨v15, ev15, hf⟩ := Option.bind_eq_some_iff.mp hf
            refine ah_iald K hG ev15 dX11_copy_52 ?_
            refine lv_iconst (v := 2) K.1 K.2.1 dX11_copy_53 (by decide) ?_
            refine lv_icmp_ne (tgt := 72) K.1 K.2.1 dX11_copy_54 (by decide) (fun h16 => ?_) (fun h16 => ?_)
            · rw [if_neg h16] at hf
              refine lv_bipush (v := (-12)) K.1 K.2.1 dX11_copy_72 (by decide) ?_
              have hf := Option.some.inj hf
              subst hf
              exact ah_iret K hG hL (Nat.le_refl _) (Nat.le_refl _) dX11_copy_74
            · rw [if_pos h16] at hf
              refine lv_aload_n K.1 K.2.1 dX11_copy_57 rfl (lv_at hl 0 rfl) ?_
              obtain ⟨v17, ev17, hf⟩ := Option.bind_eq_some_iff.mp hf
              refine ah_getr K hG ev17 ffX11_25_11 dX11_copy_58 ?_
              refine lv_iload_n K.1 K.2.1 dX11_copy_61 rfl (lv_at hl 1 rfl) ?_
              obtain ⟨v18, ev18, hf⟩ := Option.bind_eq_some_iff.mp hf
              refine ah_iald K hG ev18 dX11_copy_62 ?_
              refine lv_aload_n K.1 K.2.1 dX11_copy_63 rfl (lv_at hl 0 rfl) ?_
              obtain ⟨v19, ev19, hf⟩ := Option.bind_eq_some_iff.mp hf
              refine ah_getr K hG ev19 ffX11_25_11 dX11_copy_64 ?_
              refine lv_iload_n K.1 K.2.1 dX11_copy_67 rfl (lv_at hl 3 rfl) ?_
              obtain ⟨v20, ev20, hf⟩ := Option.bind_eq_some_iff.mp hf
              refine ah_iald K hG ev20 dX11_copy_68 ?_
              refine lv_icmp_eq (tgt := 75) K.1 K.2.1 dX11_copy_69 (by decide) (fun h21 => ?_) (fun h21 => ?_)
              · rw [if_pos h21] at hf
                refine lv_iload K.1 K.2.1 dX11_copy_75 (lv_at hl 5 rfl) ?_
                refine lv_if_lt (tgt := 116) K.1 K.2.1 dX11_copy_77 (by decide) (fun h22 => ?_) (fun h22 => ?_)
                · rw [if_pos h22] at hf
                  refine lv_bipush (v := (-13)) K.1 K.2.1 dX11_copy_116 (by decide) ?_
                  have hf := Option.some.inj hf
                  subst hf
                  exact ah_iret K hG hL (Nat.le_refl _) (Nat.le_refl _) dX11_copy_118
                · rw [if_neg h22] at hf
                  refine lv_iload_n K.1 K.2.1 dX11_copy_80 rfl (lv_at hl 2 rfl) ?_
                  refine lv_if_lt (tgt := 116) K.1 K.2.1 dX11_copy_81 (by decide) (fun h23 => ?_) (fun h23 => ?_)
                  · rw [if_pos h23] at hf
                    refine lv_bipush (v := (-13)) K.1 K.2.1 dX11_copy_116 (by decide) ?_
                    have hf := Option.some.inj hf
                    subst hf
                    exact ah_iret K hG hL (Nat.le_refl _) (Nat.le_refl _) dX11_copy_118
                  · rw [if_neg h23] at hf
                    refine lv_iload K.1 K.2.1 dX11_copy_84 (lv_at hl 4 rfl) ?_
                    refine lv_if_lt (tgt := 116) K.1 K.2.1 dX11_copy_86 (by decide) (fun h24 => ?_) (fun h24 => ?_)
                    · rw [if_pos h24] at hf
                      refine lv_bipush (v := (-13)) K.1 K.2.1 dX11_copy_116 (by decide) ?_
                      have hf := Option.some.inj hf
                      subst hf
                      exact ah_iret K hG hL (Nat.le_refl _) (Nat.le_refl _) dX11_copy_118
                    · rw [if_neg h24] at hf
                      refine lv_iload K.1 K.2.1 dX11_copy_89 (lv_at hl 5 rfl) ?_
                      refine lv_aload_n K.1 K.2.1 dX11_copy_91 rfl (lv_at hl 0 rfl) ?_
                      obtain ⟨v25, ev25, hf⟩ := Option.bind_eq_some_iff.mp hf
                      refine ah_getr K hG ev25 ffX11_28_11 dX11_copy_92 ?_
                      refine lv_iload_n K.1 K.2.1 dX11_copy_95 rfl (lv_at hl 1 rfl) ?_
                      obtain ⟨v26, ev26, hf⟩ := Option.bind_eq_some_iff.mp hf
                      refine ah_iald K hG ev26 dX11_copy_96 ?_
                      refine lv_iload_n K.1 K.2.1 dX11_copy_97 rfl (lv_at hl 2 rfl) ?_
                      refine lv_isub K.1 K.2.1 dX11_copy_98 ?_
                      refine lv_icmp_gt (tgt := 116) K.1 K.2.1 dX11_copy_99 (by decide) (fun h27 => ?_) (fun h27 => ?_)
                      · rw [if_pos h27] at hf
                        refine lv_bipush (v := (-13)) K.1 K.2.1 dX11_copy_116 (by decide) ?_
                        have hf := Option.some.inj hf
                        subst hf
                        exact ah_iret K hG hL (Nat.le_refl _) (Nat.le_refl _) dX11_copy_118
                      · rw [if_neg h27] at hf
                        refine lv_iload K.1 K.2.1 dX11_copy_102 (lv_at hl 5 rfl) ?_
                        refine lv_aload_n K.1 K.2.1 dX11_copy_104 rfl (lv_at hl 0 rfl) ?_
                        obtain ⟨v28, ev28, hf⟩ := Option.bind_eq_some_iff.mp hf
                        refine ah_getr K hG ev28 ffX11_28_11 dX11_copy_105 ?_
                        refine lv_iload_n K.1 K.2.1 dX11_copy_108 rfl (lv_at hl 3 rfl) ?_
                        obtain ⟨v29, ev29, hf⟩ := Option.bind_eq_some_iff.mp hf
                        refine ah_iald K hG ev29 dX11_copy_109 ?_
                        refine lv_iload K.1 K.2.1 dX11_copy_110 (lv_at hl 4 rfl) ?_
                        refine lv_isub K.1 K.2.1 dX11_copy_112 ?_
                        refine lv_icmp_le (tgt := 119) K.1 K.2.1 dX11_copy_113 (by decide) (fun h30 => ?_) (fun h30 => ?_)
                        · rw [if_pos h30] at hf
                          refine lv_iconst (v := 0) K.1 K.2.1 dX11_copy_119 (by decide) ?_
                          refine lv_istore (lv' := [(6, .int 0), (0, .ref a0), (1, .int x1), (2, .int x2), (3, .int x3), (4, .int x4), (5, .int x5)]) K.1 K.2.1 dX11_copy_120 hl (by decide) rfl (fun ls hl => ?_)
                          exact wX11_copy_122 K  ah_fu M a0 x1 x2 x3 x4 x5 0 _ _ _ hG hL (lv_sub hl [1, 2, 3, 4, 5, 6, 0] rfl) _ hf
                        · rw [if_neg h30] at hf
                          refine lv_bipush (v := (-13)) K.1 K.2.1 dX11_copy_116 (by decide) ?_
                          have hf := Option.some.inj hf
                          subst hf
                          exact ah_iret K hG hL (Nat.le_refl _) (Nat.le_refl _) dX11_copy_118
              · rw [if_neg h21] at hf
                refine lv_bipush (v := (-12)) K.1 K.2.1 dX11_copy_72 (by decide) ?_
                have hf := Option.some.inj hf
                subst hf
                exact ah_iret K hG hL (Nat.le_refl _) (Nat.le_refl _) dX11_copy_74
        · rw [if_pos h10] at hf
          refine lv_bipush (v := (-11)) K.1 K.2.1 dX11_copy_34 (by decide) ?_
          have hf := Option.some.inj hf
          subst hf
          exact ah_iret K hG hL (Nat.le_refl _) (Nat.le_refl _) dX11_copy_36
    · rw [if_pos h4] at hf
      refine lv_iconst (v := (-1)) K.1 K.2.1 dX11_copy_14 (by decide) ?_
      have hf := Option.some.inj hf
      subst hf
      exact ah_iret K hG hL (Nat.le_refl _) (Nat.le_refl _) dX11_copy_15
def fX11_pay (M : ah_h) (a0 : Nat) (x1 : Int32) : Option (Int32) := (ah_ob M a0 11).bind fun _ => (fX11_wrongKept M a0 x1).bind fun v1 => if v1 = 0 then ((ah_gr M a0 11 8).bind fun v4 => (ah_ai M v4 x1).bind fun v5 => (ah_gr M a0 11 9).bind fun v6 => (ah_ai M v6 x1).bind fun v7 => (fX11_payBy M v5 v7).bind fun v8 => some v8) else (some v1)
set_option maxRecDepth 100000 in
set_option maxHeartbeats 4000000 in
theorem ctX11_pay (l : Launch) (H0 : Heap) (D : va_G) (ca : Nat → ClassId) (M : ah_h) (z : Nat) (a0 : Nat) (x1 : Int32) (Z : Int32) (hf : fX11_pay M a0 x1 = some Z) : ah_ct l H0 D ca yX11_pay cX11_pay 3 (some .int) 3 66 0 0 [.ref a0, .int x1] M z (some (.int Z)) M z := by
  refine ah_of (by decide) (Nat.le_of_ble_eq_true rfl) ?_
  intro p e s m below meth c ls hin K hG hl
  have hL : ah_L H0 [] := ah_L.nil
  have hl : lv_has ls 3 [(0, .ref a0), (1, .int x1)] := hl
  unfold fX11_pay at hf
  obtain ⟨-, -, hf⟩ := Option.bind_eq_some_iff.mp hf
  refine lv_aload_n K.1 K.2.1 dX11_pay_0 rfl (lv_at hl 0 rfl) ?_
  refine lv_iload_n K.1 K.2.1 dX11_pay_1 rfl (lv_at hl 1 rfl) ?_
  obtain ⟨v1, ev1, hf⟩ := Option.bind_eq_some_iff.mp hf
  obtain ⟨q2, eq2⟩ := ah_this ev1
  refine ah_callV (As := [.int x1]) (rest := []) K hG hL hl.1 eq2 rfl (ctX11_wrongKept l H0 D ca M z a0 x1 v1 ev1) hdX11_wrongKept q_1075 q_1077 q_54 q_1078 q_31 ⟨Nat.le_of_ble_eq_true rfl, Nat.le_of_ble_eq_true rfl⟩ rfl rfl (Nat.le_of_ble_eq_true rfl) ⟨Nat.le_refl _, Nat.le_refl _⟩ dX11_pay_2 (fun H locs hG hL => ?_)
  refine lv_istore_n (lv' := [(2, .int v1), (0, .ref a0), (1, .int x1)]) K.1 K.2.1 dX11_pay_5 rfl hl (by decide) rfl (fun ls hl => ?_)
  refine lv_iload_n K.1 K.2.1 dX11_pay_6 rfl (lv_at hl 0 rfl) ?_
  refine lv_if_eq (tgt := 14) K.1 K.2.1 dX11_pay_7 (by decide) (fun h3 => ?_) (fun h3 => ?_)
  · rw [if_pos h3] at hf
    refine lv_aload_n K.1 K.2.1 dX11_pay_14 rfl (lv_at hl 1 rfl) ?_
    obtain ⟨v4, ev4, hf⟩ := Option.bind_eq_some_iff.mp hf
    refine ah_getr K hG ev4 ffX11_34_11 dX11_pay_15 ?_
    refine lv_iload_n K.1 K.2.1 dX11_pay_18 rfl (lv_at hl 2 rfl) ?_
    obtain ⟨v5, ev5, hf⟩ := Option.bind_eq_some_iff.mp hf
    refine ah_iald K hG ev5 dX11_pay_19 ?_
    refine lv_aload_n K.1 K.2.1 dX11_pay_20 rfl (lv_at hl 1 rfl) ?_
    obtain ⟨v6, ev6, hf⟩ := Option.bind_eq_some_iff.mp hf
    refine ah_getr K hG ev6 ffX11_37_11 dX11_pay_21 ?_
    refine lv_iload_n K.1 K.2.1 dX11_pay_24 rfl (lv_at hl 2 rfl) ?_
    obtain ⟨v7, ev7, hf⟩ := Option.bind_eq_some_iff.mp hf
    refine ah_iald K hG ev7 dX11_pay_25 ?_
    obtain ⟨v8, ev8, hf⟩ := Option.bind_eq_some_iff.mp hf
    refine ah_callS (As := [.int v5, .int v7]) (rest := []) K hG hL hl.1 (ctX11_payBy l H0 D ca M z v5 v7 v8 ev8) hdX11_payBy q_1265 q_1266 q_54 q_1267 ⟨Nat.le_of_ble_eq_true rfl, Nat.le_of_ble_eq_true rfl⟩ rfl rfl (Nat.le_of_ble_eq_true rfl) ⟨Nat.le_refl _, Nat.le_refl _⟩ dX11_pay_26 (fun H locs hG hL => ?_)
    have hf := Option.some.inj hf
    subst hf
    exact ah_iret K hG hL (Nat.le_refl _) (Nat.le_refl _) dX11_pay_29
  · rw [if_neg h3] at hf
    refine lv_iload_n K.1 K.2.1 dX11_pay_10 rfl (lv_at hl 0 rfl) ?_
    refine lv_goto (tgt := 29) K.1 K.2.1 dX11_pay_11 (by decide) ?_
    have hf := Option.some.inj hf
    subst hf
    exact ah_iret K hG hL (Nat.le_refl _) (Nat.le_refl _) dX11_pay_29
def fX11_toss (M : ah_h) (a0 : Nat) (x1 : Int32) : Option (Int32) := (ah_ob M a0 11).bind fun _ => (fX11_wrongKept M a0 x1).bind fun v1 => if v1 = 0 then ((ah_gr M a0 11 8).bind fun v4 => (ah_ai M v4 x1).bind fun v5 => (ah_gr M a0 11 9).bind fun v6 => (ah_ai M v6 x1).bind fun v7 => if v5 = 6 then (some (-15)) else (if v7 = 0 then (some (-15)) else (if v5 = 5 then (some (100 + v7)) else (if v5 = 7 then ((fX11_payBy M v5 v7).bind fun v12 => some (200 + v12)) else (some v7))))) else (some v1)
set_option maxRecDepth 100000 in
set_option maxHeartbeats 4000000 in
theorem ctX11_toss (l : Launch) (H0 : Heap) (D : va_G) (ca : Nat → ClassId) (M : ah_h) (z : Nat) (a0 : Nat) (x1 : Int32) (Z : Int32) (hf : fX11_toss M a0 x1 = some Z) : ah_ct l H0 D ca yX11_toss cX11_toss 5 (some .int) 3 66 0 0 [.ref a0, .int x1] M z (some (.int Z)) M z := by
  refine ah_of (by decide) (Nat.le_of_ble_eq_true rfl) ?_
  intro p e s m below meth c ls hin K hG hl
  have hL : ah_L H0 [] := ah_L.nil
  have hl : lv_has ls 5 [(0, .ref a0), (1, .int x1)] := hl
  unfold fX11_toss at hf
  obtain ⟨-, -, hf⟩ := Option.bind_eq_some_iff.mp hf
  refine lv_aload_n K.1 K.2.1 dX11_toss_0 rfl (lv_at hl 0 rfl) ?_
  refine lv_iload_n K.1 K.2.1 dX11_toss_1 rfl (lv_at hl 1 rfl) ?_
  obtain ⟨v1, ev1, hf⟩ := Option.bind_eq_some_iff.mp hf
  obtain ⟨q2, eq2⟩ := ah_this ev1
  refine ah_callV (As := [.int x1]) (rest := []) K hG hL hl.1 eq2 rfl (ctX11_wrongKept l H0 D ca M z a0 x1 v1 ev1) hdX11_wrongKept q_1075 q_1077 q_54 q_1078 q_31 ⟨Nat.le_of_ble_eq_true rfl, Nat.le_of_ble_eq_true rfl⟩ rfl rfl (Nat.le_of_ble_eq_true rfl) ⟨Nat.le_refl _, Nat.le_refl _⟩ dX11_toss_2 (fun H locs hG hL => ?_)
  refine lv_istore_n (lv' := [(2, .int v1), (0, .ref a0), (1, .int x1)]) K.1 K.2.1 dX11_toss_5 rfl hl (by decide) rfl (fun ls hl => ?_)
  refine lv_iload_n K.1 K.2.1 dX11_toss_6 rfl (lv_at hl 0 rfl) ?_
  refine lv_if_eq (tgt := 12) K.1 K.2.1 dX11_toss_7 (by decide) (fun h3 => ?_) (fun h3 => ?_)
  · rw [if_pos h3] at hf
    refine lv_aload_n K.1 K.2.1 dX11_toss_12 rfl (lv_at hl 1 rfl) ?_
    obtain ⟨v4, ev4, hf⟩ := Option.bind_eq_some_iff.mp hf
    refine ah_getr K hG ev4 ffX11_34_11 dX11_toss_13 ?_
    refine lv_iload_n K.1 K.2.1 dX11_toss_16 rfl (lv_at hl 2 rfl) ?_
    obtain ⟨v5, ev5, hf⟩ := Option.bind_eq_some_iff.mp hf
    refine ah_iald K hG ev5 dX11_toss_17 ?_
    refine lv_istore_n (lv' := [(3, .int v5), (2, .int v1), (0, .ref a0), (1, .int x1)]) K.1 K.2.1 dX11_toss_18 rfl hl (by decide) rfl (fun ls hl => ?_)
    refine lv_aload_n K.1 K.2.1 dX11_toss_19 rfl (lv_at hl 2 rfl) ?_
    obtain ⟨v6, ev6, hf⟩ := Option.bind_eq_some_iff.mp hf
    refine ah_getr K hG ev6 ffX11_37_11 dX11_toss_20 ?_
    refine lv_iload_n K.1 K.2.1 dX11_toss_23 rfl (lv_at hl 3 rfl) ?_
    obtain ⟨v7, ev7, hf⟩ := Option.bind_eq_some_iff.mp hf
    refine ah_iald K hG ev7 dX11_toss_24 ?_
    refine lv_istore (lv' := [(4, .int v7), (3, .int v5), (2, .int v1), (0, .ref a0), (1, .int x1)]) K.1 K.2.1 dX11_toss_25 hl (by decide) rfl (fun ls hl => ?_)
    refine lv_iload_n K.1 K.2.1 dX11_toss_27 rfl (lv_at hl 1 rfl) ?_
    refine lv_bipush (v := 6) K.1 K.2.1 dX11_toss_28 (by decide) ?_
    refine lv_icmp_eq (tgt := 38) K.1 K.2.1 dX11_toss_30 (by decide) (fun h8 => ?_) (fun h8 => ?_)
    · rw [if_pos h8] at hf
      refine lv_bipush (v := (-15)) K.1 K.2.1 dX11_toss_38 (by decide) ?_
      refine lv_goto (tgt := 77) K.1 K.2.1 dX11_toss_40 (by decide) ?_
      have hf := Option.some.inj hf
      subst hf
      exact ah_iret K hG hL (Nat.le_refl _) (Nat.le_refl _) dX11_toss_77
    · rw [if_neg h8] at hf
      refine lv_iload K.1 K.2.1 dX11_toss_33 (lv_at hl 0 rfl) ?_
      refine lv_if_ne (tgt := 43) K.1 K.2.1 dX11_toss_35 (by decide) (fun h9 => ?_) (fun h9 => ?_)
      · rw [if_neg h9] at hf
        refine lv_iload_n K.1 K.2.1 dX11_toss_43 rfl (lv_at hl 1 rfl) ?_
        refine lv_iconst (v := 5) K.1 K.2.1 dX11_toss_44 (by decide) ?_
        refine lv_icmp_ne (tgt := 56) K.1 K.2.1 dX11_toss_45 (by decide) (fun h10 => ?_) (fun h10 => ?_)
        · rw [if_neg h10] at hf
          refine lv_iload_n K.1 K.2.1 dX11_toss_56 rfl (lv_at hl 1 rfl) ?_
          refine lv_bipush (v := 7) K.1 K.2.1 dX11_toss_57 (by decide) ?_
          refine lv_icmp_ne (tgt := 75) K.1 K.2.1 dX11_toss_59 (by decide) (fun h11 => ?_) (fun h11 => ?_)
          · rw [if_neg h11] at hf
            refine lv_iload K.1 K.2.1 dX11_toss_75 (lv_at hl 0 rfl) ?_
            have hf := Option.some.inj hf
            subst hf
            exact ah_iret K hG hL (Nat.le_refl _) (Nat.le_refl _) dX11_toss_77
          · rw [if_pos h11] at hf
            refine lv_sipush (v := 200) K.1 K.2.1 dX11_toss_62 (by decide) ?_
            refine lv_iload_n K.1 K.2.1 dX11_toss_65 rfl (lv_at hl 1 rfl) ?_
            refine lv_iload K.1 K.2.1 dX11_toss_66 (lv_at hl 0 rfl) ?_
            obtain ⟨v12, ev12, hf⟩ := Option.bind_eq_some_iff.mp hf
            refine ah_callS (As := [.int v5, .int v7]) (rest := [.int 200]) K hG hL hl.1 (ctX11_payBy l H0 D ca M z v5 v7 v12 ev12) hdX11_payBy q_1265 q_1266 q_54 q_1267 ⟨Nat.le_of_ble_eq_true rfl, Nat.le_of_ble_eq_true rfl⟩ rfl rfl (Nat.le_of_ble_eq_true rfl) ⟨Nat.le_refl _, Nat.le_refl _⟩ dX11_toss_68 (fun H locs hG hL => ?_)
            refine lv_iadd K.1 K.2.1 dX11_toss_71 ?_
            refine lv_goto (tgt := 77) K.1 K.2.1 dX11_toss_72 (by decide) ?_
            have hf := Option.some.inj hf
            subst hf
            exact ah_iret K hG hL (Nat.le_refl _) (Nat.le_refl _) dX11_toss_77
        · rw [if_pos h10] at hf
          refine lv_bipush (v := 100) K.1 K.2.1 dX11_toss_48 (by decide) ?_
          refine lv_iload K.1 K.2.1 dX11_toss_50 (lv_at hl 0 rfl) ?_
          refine lv_iadd K.1 K.2.1 dX11_toss_52 ?_
          refine lv_goto (tgt := 77) K.1 K.2.1 dX11_toss_53 (by decide) ?_
          have hf := Option.some.inj hf
          subst hf
          exact ah_iret K hG hL (Nat.le_refl _) (Nat.le_refl _) dX11_toss_77
      · rw [if_pos h9] at hf
        refine lv_bipush (v := (-15)) K.1 K.2.1 dX11_toss_38 (by decide) ?_
        refine lv_goto (tgt := 77) K.1 K.2.1 dX11_toss_40 (by decide) ?_
        have hf := Option.some.inj hf
        subst hf
        exact ah_iret K hG hL (Nat.le_refl _) (Nat.le_refl _) dX11_toss_77
  · rw [if_neg h3] at hf
    refine lv_iload_n K.1 K.2.1 dX11_toss_10 rfl (lv_at hl 0 rfl) ?_
    have hf := Option.some.inj hf
    subst hf
    exact ah_iret K hG hL (Nat.le_refl _) (Nat.le_refl _) dX11_toss_11
def fJ6_bitCount_0f7a4 (M : ah_h) (x0 : Int32) : Option (Int32) := some ((((((((x0 - (((x0.toUInt32 >>> (Int32.toUInt32 1 &&& Int32.toUInt32 31)).toInt32) &&& 1431655765)) &&& 858993459) + ((((x0 - (((x0.toUInt32 >>> (Int32.toUInt32 1 &&& Int32.toUInt32 31)).toInt32) &&& 1431655765)).toUInt32 >>> (Int32.toUInt32 2 &&& Int32.toUInt32 31)).toInt32) &&& 858993459)) + (((((x0 - (((x0.toUInt32 >>> (Int32.toUInt32 1 &&& Int32.toUInt32 31)).toInt32) &&& 1431655765)) &&& 858993459) + ((((x0 - (((x0.toUInt32 >>> (Int32.toUInt32 1 &&& Int32.toUInt32 31)).toInt32) &&& 1431655765)).toUInt32 >>> (Int32.toUInt32 2 &&& Int32.toUInt32 31)).toInt32) &&& 858993459)).toUInt32 >>> (Int32.toUInt32 4 &&& Int32.toUInt32 31)).toInt32)) &&& 252645135) + (((((((x0 - (((x0.toUInt32 >>> (Int32.toUInt32 1 &&& Int32.toUInt32 31)).toInt32) &&& 1431655765)) &&& 858993459) + ((((x0 - (((x0.toUInt32 >>> (Int32.toUInt32 1 &&& Int32.toUInt32 31)).toInt32) &&& 1431655765)).toUInt32 >>> (Int32.toUInt32 2 &&& Int32.toUInt32 31)).toInt32) &&& 858993459)) + (((((x0 - (((x0.toUInt32 >>> (Int32.toUInt32 1 &&& Int32.toUInt32 31)).toInt32) &&& 1431655765)) &&& 858993459) + ((((x0 - (((x0.toUInt32 >>> (Int32.toUInt32 1 &&& Int32.toUInt32 31)).toInt32) &&& 1431655765)).toUInt32 >>> (Int32.toUInt32 2 &&& Int32.toUInt32 31)).toInt32) &&& 858993459)).toUInt32 >>> (Int32.toUInt32 4 &&& Int32.toUInt32 31)).toInt32)) &&& 252645135).toUInt32 >>> (Int32.toUInt32 8 &&& Int32.toUInt32 31)).toInt32)) + ((((((((x0 - (((x0.toUInt32 >>> (Int32.toUInt32 1 &&& Int32.toUInt32 31)).toInt32) &&& 1431655765)) &&& 858993459) + ((((x0 - (((x0.toUInt32 >>> (Int32.toUInt32 1 &&& Int32.toUInt32 31)).toInt32) &&& 1431655765)).toUInt32 >>> (Int32.toUInt32 2 &&& Int32.toUInt32 31)).toInt32) &&& 858993459)) + (((((x0 - (((x0.toUInt32 >>> (Int32.toUInt32 1 &&& Int32.toUInt32 31)).toInt32) &&& 1431655765)) &&& 858993459) + ((((x0 - (((x0.toUInt32 >>> (Int32.toUInt32 1 &&& Int32.toUInt32 31)).toInt32) &&& 1431655765)).toUInt32 >>> (Int32.toUInt32 2 &&& Int32.toUInt32 31)).toInt32) &&& 858993459)).toUInt32 >>> (Int32.toUInt32 4 &&& Int32.toUInt32 31)).toInt32)) &&& 252645135) + (((((((x0 - (((x0.toUInt32 >>> (Int32.toUInt32 1 &&& Int32.toUInt32 31)).toInt32) &&& 1431655765)) &&& 858993459) + ((((x0 - (((x0.toUInt32 >>> (Int32.toUInt32 1 &&& Int32.toUInt32 31)).toInt32) &&& 1431655765)).toUInt32 >>> (Int32.toUInt32 2 &&& Int32.toUInt32 31)).toInt32) &&& 858993459)) + (((((x0 - (((x0.toUInt32 >>> (Int32.toUInt32 1 &&& Int32.toUInt32 31)).toInt32) &&& 1431655765)) &&& 858993459) + ((((x0 - (((x0.toUInt32 >>> (Int32.toUInt32 1 &&& Int32.toUInt32 31)).toInt32) &&& 1431655765)).toUInt32 >>> (Int32.toUInt32 2 &&& Int32.toUInt32 31)).toInt32) &&& 858993459)).toUInt32 >>> (Int32.toUInt32 4 &&& Int32.toUInt32 31)).toInt32)) &&& 252645135).toUInt32 >>> (Int32.toUInt32 8 &&& Int32.toUInt32 31)).toInt32)).toUInt32 >>> (Int32.toUInt32 16 &&& Int32.toUInt32 31)).toInt32)) &&& 63)
set_option maxRecDepth 100000 in
set_option maxHeartbeats 4000000 in
theorem ctJ6_bitCount_0f7a4 (l : Launch) (H0 : Heap) (D : va_G) (ca : Nat → ClassId) (M : ah_h) (z : Nat) (x0 : Int32) (Z : Int32) (hf : fJ6_bitCount_0f7a4 M x0 = some Z) : ah_ct l H0 D ca yJ6_bitCount_0f7a4 cJ6_bitCount_0f7a4 1 (some .int) 0 0 0 0 [.int x0] M z (some (.int Z)) M z := by
  refine ah_of (by decide) (Nat.le_of_ble_eq_true rfl) ?_
  intro p e s m below meth c ls hin K hG hl
  have hL : ah_L H0 [] := ah_L.nil
  have hl : lv_has ls 1 [(0, .int x0)] := hl
  unfold fJ6_bitCount_0f7a4 at hf
  refine lv_iload_n K.1 K.2.1 dJ6_bitCount_0f7a4_0 rfl (lv_at hl 0 rfl) ?_
  refine lv_iload_n K.1 K.2.1 dJ6_bitCount_0f7a4_1 rfl (lv_at hl 0 rfl) ?_
  refine lv_iconst (v := 1) K.1 K.2.1 dJ6_bitCount_0f7a4_2 (by decide) ?_
  refine lv_iushr (v := (x0.toUInt32 >>> (Int32.toUInt32 1 &&& Int32.toUInt32 31)).toInt32) K.1 K.2.1 dJ6_bitCount_0f7a4_3 rfl ?_
  refine lv_ldcw (v := 1431655765) K.1 K.2.1 K.2.2.2.1 (K.2.2.2.2.1 _ q_391) dJ6_bitCount_0f7a4_4 ?_
  refine lv_iand K.1 K.2.1 dJ6_bitCount_0f7a4_7 ?_
  refine lv_isub K.1 K.2.1 dJ6_bitCount_0f7a4_8 ?_
  refine lv_istore_n (lv' := [(0, .int (x0 - (((x0.toUInt32 >>> (Int32.toUInt32 1 &&& Int32.toUInt32 31)).toInt32) &&& 1431655765)))]) K.1 K.2.1 dJ6_bitCount_0f7a4_9 rfl hl (by decide) rfl (fun ls hl => ?_)
  refine lv_iload_n K.1 K.2.1 dJ6_bitCount_0f7a4_10 rfl (lv_at hl 0 rfl) ?_
  refine lv_ldcw (v := 858993459) K.1 K.2.1 K.2.2.2.1 (K.2.2.2.2.1 _ q_392) dJ6_bitCount_0f7a4_11 ?_
  refine lv_iand K.1 K.2.1 dJ6_bitCount_0f7a4_14 ?_
  refine lv_iload_n K.1 K.2.1 dJ6_bitCount_0f7a4_15 rfl (lv_at hl 0 rfl) ?_
  refine lv_iconst (v := 2) K.1 K.2.1 dJ6_bitCount_0f7a4_16 (by decide) ?_
  refine lv_iushr (v := ((x0 - (((x0.toUInt32 >>> (Int32.toUInt32 1 &&& Int32.toUInt32 31)).toInt32) &&& 1431655765)).toUInt32 >>> (Int32.toUInt32 2 &&& Int32.toUInt32 31)).toInt32) K.1 K.2.1 dJ6_bitCount_0f7a4_17 rfl ?_
  refine lv_ldcw (v := 858993459) K.1 K.2.1 K.2.2.2.1 (K.2.2.2.2.1 _ q_392) dJ6_bitCount_0f7a4_18 ?_
  refine lv_iand K.1 K.2.1 dJ6_bitCount_0f7a4_21 ?_
  refine lv_iadd K.1 K.2.1 dJ6_bitCount_0f7a4_22 ?_
  refine lv_istore_n (lv' := [(0, .int (((x0 - (((x0.toUInt32 >>> (Int32.toUInt32 1 &&& Int32.toUInt32 31)).toInt32) &&& 1431655765)) &&& 858993459) + ((((x0 - (((x0.toUInt32 >>> (Int32.toUInt32 1 &&& Int32.toUInt32 31)).toInt32) &&& 1431655765)).toUInt32 >>> (Int32.toUInt32 2 &&& Int32.toUInt32 31)).toInt32) &&& 858993459)))]) K.1 K.2.1 dJ6_bitCount_0f7a4_23 rfl hl (by decide) rfl (fun ls hl => ?_)
  refine lv_iload_n K.1 K.2.1 dJ6_bitCount_0f7a4_24 rfl (lv_at hl 0 rfl) ?_
  refine lv_iload_n K.1 K.2.1 dJ6_bitCount_0f7a4_25 rfl (lv_at hl 0 rfl) ?_
  refine lv_iconst (v := 4) K.1 K.2.1 dJ6_bitCount_0f7a4_26 (by decide) ?_
  refine lv_iushr (v := ((((x0 - (((x0.toUInt32 >>> (Int32.toUInt32 1 &&& Int32.toUInt32 31)).toInt32) &&& 1431655765)) &&& 858993459) + ((((x0 - (((x0.toUInt32 >>> (Int32.toUInt32 1 &&& Int32.toUInt32 31)).toInt32) &&& 1431655765)).toUInt32 >>> (Int32.toUInt32 2 &&& Int32.toUInt32 31)).toInt32) &&& 858993459)).toUInt32 >>> (Int32.toUInt32 4 &&& Int32.toUInt32 31)).toInt32) K.1 K.2.1 dJ6_bitCount_0f7a4_27 rfl ?_
  refine lv_iadd K.1 K.2.1 dJ6_bitCount_0f7a4_28 ?_
  refine lv_ldcw (v := 252645135) K.1 K.2.1 K.2.2.2.1 (K.2.2.2.2.1 _ q_393) dJ6_bitCount_0f7a4_29 ?_
  refine lv_iand K.1 K.2.1 dJ6_bitCount_0f7a4_32 ?_
  refine lv_istore_n (lv' := [(0, .int (((((x0 - (((x0.toUInt32 >>> (Int32.toUInt32 1 &&& Int32.toUInt32 31)).toInt32) &&& 1431655765)) &&& 858993459) + ((((x0 - (((x0.toUInt32 >>> (Int32.toUInt32 1 &&& Int32.toUInt32 31)).toInt32) &&& 1431655765)).toUInt32 >>> (Int32.toUInt32 2 &&& Int32.toUInt32 31)).toInt32) &&& 858993459)) + (((((x0 - (((x0.toUInt32 >>> (Int32.toUInt32 1 &&& Int32.toUInt32 31)).toInt32) &&& 1431655765)) &&& 858993459) + ((((x0 - (((x0.toUInt32 >>> (Int32.toUInt32 1 &&& Int32.toUInt32 31)).toInt32) &&& 1431655765)).toUInt32 >>> (Int32.toUInt32 2 &&& Int32.toUInt32 31)).toInt32) &&& 858993459)).toUInt32 >>> (Int32.toUInt32 4 &&& Int32.toUInt32 31)).toInt32)) &&& 252645135))]) K.1 K.2.1 dJ6_bitCount_0f7a4_33 rfl hl (by decide) rfl (fun ls hl => ?_)
  refine lv_iload_n K.1 K.2.1 dJ6_bitCount_0f7a4_34 rfl (lv_at hl 0 rfl) ?_
  refine lv_iload_n K.1 K.2.1 dJ6_bitCount_0f7a4_35 rfl (lv_at hl 0 rfl) ?_
  refine lv_bipush (v := 8) K.1 K.2.1 dJ6_bitCount_0f7a4_36 (by decide) ?_
  refine lv_iushr (v := ((((((x0 - (((x0.toUInt32 >>> (Int32.toUInt32 1 &&& Int32.toUInt32 31)).toInt32) &&& 1431655765)) &&& 858993459) + ((((x0 - (((x0.toUInt32 >>> (Int32.toUInt32 1 &&& Int32.toUInt32 31)).toInt32) &&& 1431655765)).toUInt32 >>> (Int32.toUInt32 2 &&& Int32.toUInt32 31)).toInt32) &&& 858993459)) + (((((x0 - (((x0.toUInt32 >>> (Int32.toUInt32 1 &&& Int32.toUInt32 31)).toInt32) &&& 1431655765)) &&& 858993459) + ((((x0 - (((x0.toUInt32 >>> (Int32.toUInt32 1 &&& Int32.toUInt32 31)).toInt32) &&& 1431655765)).toUInt32 >>> (Int32.toUInt32 2 &&& Int32.toUInt32 31)).toInt32) &&& 858993459)).toUInt32 >>> (Int32.toUInt32 4 &&& Int32.toUInt32 31)).toInt32)) &&& 252645135).toUInt32 >>> (Int32.toUInt32 8 &&& Int32.toUInt32 31)).toInt32) K.1 K.2.1 dJ6_bitCount_0f7a4_38 rfl ?_
  refine lv_iadd K.1 K.2.1 dJ6_bitCount_0f7a4_39 ?_
  refine lv_istore_n (lv' := [(0, .int ((((((x0 - (((x0.toUInt32 >>> (Int32.toUInt32 1 &&& Int32.toUInt32 31)).toInt32) &&& 1431655765)) &&& 858993459) + ((((x0 - (((x0.toUInt32 >>> (Int32.toUInt32 1 &&& Int32.toUInt32 31)).toInt32) &&& 1431655765)).toUInt32 >>> (Int32.toUInt32 2 &&& Int32.toUInt32 31)).toInt32) &&& 858993459)) + (((((x0 - (((x0.toUInt32 >>> (Int32.toUInt32 1 &&& Int32.toUInt32 31)).toInt32) &&& 1431655765)) &&& 858993459) + ((((x0 - (((x0.toUInt32 >>> (Int32.toUInt32 1 &&& Int32.toUInt32 31)).toInt32) &&& 1431655765)).toUInt32 >>> (Int32.toUInt32 2 &&& Int32.toUInt32 31)).toInt32) &&& 858993459)).toUInt32 >>> (Int32.toUInt32 4 &&& Int32.toUInt32 31)).toInt32)) &&& 252645135) + (((((((x0 - (((x0.toUInt32 >>> (Int32.toUInt32 1 &&& Int32.toUInt32 31)).toInt32) &&& 1431655765)) &&& 858993459) + ((((x0 - (((x0.toUInt32 >>> (Int32.toUInt32 1 &&& Int32.toUInt32 31)).toInt32) &&& 1431655765)).toUInt32 >>> (Int32.toUInt32 2 &&& Int32.toUInt32 31)).toInt32) &&& 858993459)) + (((((x0 - (((x0.toUInt32 >>> (Int32.toUInt32 1 &&& Int32.toUInt32 31)).toInt32) &&& 1431655765)) &&& 858993459) + ((((x0 - (((x0.toUInt32 >>> (Int32.toUInt32 1 &&& Int32.toUInt32 31)).toInt32) &&& 1431655765)).toUInt32 >>> (Int32.toUInt32 2 &&& Int32.toUInt32 31)).toInt32) &&& 858993459)).toUInt32 >>> (Int32.toUInt32 4 &&& Int32.toUInt32 31)).toInt32)) &&& 252645135).toUInt32 >>> (Int32.toUInt32 8 &&& Int32.toUInt32 31)).toInt32)))]) K.1 K.2.1 dJ6_bitCount_0f7a4_40 rfl hl (by decide) rfl (fun ls hl => ?_)
  refine lv_iload_n K.1 K.2.1 dJ6_bitCount_0f7a4_41 rfl (lv_at hl 0 rfl) ?_
  refine lv_iload_n K.1 K.2.1 dJ6_bitCount_0f7a4_42 rfl (lv_at hl 0 rfl) ?_
  refine lv_bipush (v := 16) K.1 K.2.1 dJ6_bitCount_0f7a4_43 (by decide) ?_
  refine lv_iushr (v := (((((((x0 - (((x0.toUInt32 >>> (Int32.toUInt32 1 &&& Int32.toUInt32 31)).toInt32) &&& 1431655765)) &&& 858993459) + ((((x0 - (((x0.toUInt32 >>> (Int32.toUInt32 1 &&& Int32.toUInt32 31)).toInt32) &&& 1431655765)).toUInt32 >>> (Int32.toUInt32 2 &&& Int32.toUInt32 31)).toInt32) &&& 858993459)) + (((((x0 - (((x0.toUInt32 >>> (Int32.toUInt32 1 &&& Int32.toUInt32 31)).toInt32) &&& 1431655765)) &&& 858993459) + ((((x0 - (((x0.toUInt32 >>> (Int32.toUInt32 1 &&& Int32.toUInt32 31)).toInt32) &&& 1431655765)).toUInt32 >>> (Int32.toUInt32 2 &&& Int32.toUInt32 31)).toInt32) &&& 858993459)).toUInt32 >>> (Int32.toUInt32 4 &&& Int32.toUInt32 31)).toInt32)) &&& 252645135) + (((((((x0 - (((x0.toUInt32 >>> (Int32.toUInt32 1 &&& Int32.toUInt32 31)).toInt32) &&& 1431655765)) &&& 858993459) + ((((x0 - (((x0.toUInt32 >>> (Int32.toUInt32 1 &&& Int32.toUInt32 31)).toInt32) &&& 1431655765)).toUInt32 >>> (Int32.toUInt32 2 &&& Int32.toUInt32 31)).toInt32) &&& 858993459)) + (((((x0 - (((x0.toUInt32 >>> (Int32.toUInt32 1 &&& Int32.toUInt32 31)).toInt32) &&& 1431655765)) &&& 858993459) + ((((x0 - (((x0.toUInt32 >>> (Int32.toUInt32 1 &&& Int32.toUInt32 31)).toInt32) &&& 1431655765)).toUInt32 >>> (Int32.toUInt32 2 &&& Int32.toUInt32 31)).toInt32) &&& 858993459)).toUInt32 >>> (Int32.toUInt32 4 &&& Int32.toUInt32 31)).toInt32)) &&& 252645135).toUInt32 >>> (Int32.toUInt32 8 &&& Int32.toUInt32 31)).toInt32)).toUInt32 >>> (Int32.toUInt32 16 &&& Int32.toUInt32 31)).toInt32) K.1 K.2.1 dJ6_bitCount_0f7a4_45 rfl ?_
  refine lv_iadd K.1 K.2.1 dJ6_bitCount_0f7a4_46 ?_
  refine lv_istore_n (lv' := [(0, .int (((((((x0 - (((x0.toUInt32 >>> (Int32.toUInt32 1 &&& Int32.toUInt32 31)).toInt32) &&& 1431655765)) &&& 858993459) + ((((x0 - (((x0.toUInt32 >>> (Int32.toUInt32 1 &&& Int32.toUInt32 31)).toInt32) &&& 1431655765)).toUInt32 >>> (Int32.toUInt32 2 &&& Int32.toUInt32 31)).toInt32) &&& 858993459)) + (((((x0 - (((x0.toUInt32 >>> (Int32.toUInt32 1 &&& Int32.toUInt32 31)).toInt32) &&& 1431655765)) &&& 858993459) + ((((x0 - (((x0.toUInt32 >>> (Int32.toUInt32 1 &&& Int32.toUInt32 31)).toInt32) &&& 1431655765)).toUInt32 >>> (Int32.toUInt32 2 &&& Int32.toUInt32 31)).toInt32) &&& 858993459)).toUInt32 >>> (Int32.toUInt32 4 &&& Int32.toUInt32 31)).toInt32)) &&& 252645135) + (((((((x0 - (((x0.toUInt32 >>> (Int32.toUInt32 1 &&& Int32.toUInt32 31)).toInt32) &&& 1431655765)) &&& 858993459) + ((((x0 - (((x0.toUInt32 >>> (Int32.toUInt32 1 &&& Int32.toUInt32 31)).toInt32) &&& 1431655765)).toUInt32 >>> (Int32.toUInt32 2 &&& Int32.toUInt32 31)).toInt32) &&& 858993459)) + (((((x0 - (((x0.toUInt32 >>> (Int32.toUInt32 1 &&& Int32.toUInt32 31)).toInt32) &&& 1431655765)) &&& 858993459) + ((((x0 - (((x0.toUInt32 >>> (Int32.toUInt32 1 &&& Int32.toUInt32 31)).toInt32) &&& 1431655765)).toUInt32 >>> (Int32.toUInt32 2 &&& Int32.toUInt32 31)).toInt32) &&& 858993459)).toUInt32 >>> (Int32.toUInt32 4 &&& Int32.toUInt32 31)).toInt32)) &&& 252645135).toUInt32 >>> (Int32.toUInt32 8 &&& Int32.toUInt32 31)).toInt32)) + ((((((((x0 - (((x0.toUInt32 >>> (Int32.toUInt32 1 &&& Int32.toUInt32 31)).toInt32) &&& 1431655765)) &&& 858993459) + ((((x0 - (((x0.toUInt32 >>> (Int32.toUInt32 1 &&& Int32.toUInt32 31)).toInt32) &&& 1431655765)).toUInt32 >>> (Int32.toUInt32 2 &&& Int32.toUInt32 31)).toInt32) &&& 858993459)) + (((((x0 - (((x0.toUInt32 >>> (Int32.toUInt32 1 &&& Int32.toUInt32 31)).toInt32) &&& 1431655765)) &&& 858993459) + ((((x0 - (((x0.toUInt32 >>> (Int32.toUInt32 1 &&& Int32.toUInt32 31)).toInt32) &&& 1431655765)).toUInt32 >>> (Int32.toUInt32 2 &&& Int32.toUInt32 31)).toInt32) &&& 858993459)).toUInt32 >>> (Int32.toUInt32 4 &&& Int32.toUInt32 31)).toInt32)) &&& 252645135) + (((((((x0 - (((x0.toUInt32 >>> (Int32.toUInt32 1 &&& Int32.toUInt32 31)).toInt32) &&& 1431655765)) &&& 858993459) + ((((x0 - (((x0.toUInt32 >>> (Int32.toUInt32 1 &&& Int32.toUInt32 31)).toInt32) &&& 1431655765)).toUInt32 >>> (Int32.toUInt32 2 &&& Int32.toUInt32 31)).toInt32) &&& 858993459)) + (((((x0 - (((x0.toUInt32 >>> (Int32.toUInt32 1 &&& Int32.toUInt32 31)).toInt32) &&& 1431655765)) &&& 858993459) + ((((x0 - (((x0.toUInt32 >>> (Int32.toUInt32 1 &&& Int32.toUInt32 31)).toInt32) &&& 1431655765)).toUInt32 >>> (Int32.toUInt32 2 &&& Int32.toUInt32 31)).toInt32) &&& 858993459)).toUInt32 >>> (Int32.toUInt32 4 &&& Int32.toUInt32 31)).toInt32)) &&& 252645135).toUInt32 >>> (Int32.toUInt32 8 &&& Int32.toUInt32 31)).toInt32)).toUInt32 >>> (Int32.toUInt32 16 &&& Int32.toUInt32 31)).toInt32)))]) K.1 K.2.1 dJ6_bitCount_0f7a4_47 rfl hl (by decide) rfl (fun ls hl => ?_)
  refine lv_iload_n K.1 K.2.1 dJ6_bitCount_0f7a4_48 rfl (lv_at hl 0 rfl) ?_
  refine lv_bipush (v := 63) K.1 K.2.1 dJ6_bitCount_0f7a4_49 (by decide) ?_
  refine lv_iand K.1 K.2.1 dJ6_bitCount_0f7a4_51 ?_
  have hf := Option.some.inj hf
  subst hf
  exact ah_iret K hG hL (Nat.le_refl _) (Nat.le_refl _) dJ6_bitCount_0f7a4_52
def fX0_init (M : ah_h) (a0 : Nat) (x1 : Int32) : Option (ah_h) := (fX9_init M a0 5 x1).bind fun v1 => some v1
set_option maxRecDepth 100000 in
set_option maxHeartbeats 4000000 in
theorem ctX0_init (l : Launch) (H0 : Heap) (D : va_G) (ca : Nat → ClassId) (M : ah_h) (z : Nat) (a0 : Nat) (x1 : Int32) (Z : ah_h) (hf : fX0_init M a0 x1 = some Z) : ah_ct l H0 D ca yX0_init cX0_init 2 none 3 64 0 0 [.ref a0, .int x1] M z none Z z := by
  refine ah_of (by decide) (Nat.le_of_ble_eq_true rfl) ?_
  intro p e s m below meth c ls hin K hG hl
  have hL : ah_L H0 [] := ah_L.nil
  have hl : lv_has ls 2 [(0, .ref a0), (1, .int x1)] := hl
  unfold fX0_init at hf
  refine lv_aload_n K.1 K.2.1 dX0_init_0 rfl (lv_at hl 0 rfl) ?_
  refine lv_iconst (v := 5) K.1 K.2.1 dX0_init_1 (by decide) ?_
  refine lv_iload_n K.1 K.2.1 dX0_init_2 rfl (lv_at hl 1 rfl) ?_
  obtain ⟨v1, ev1, hf⟩ := Option.bind_eq_some_iff.mp hf
  refine ah_callI (As := [.int 5, .int x1]) (rest := []) K hG hL hl.1 (ctX9_init l H0 D ca M z a0 5 x1 v1 ev1) rfl hdX9_init q_300 q_289 q_58 q_290 ⟨Nat.le_of_ble_eq_true rfl, Nat.le_of_ble_eq_true rfl⟩ rfl rfl (Nat.le_of_ble_eq_true rfl) ⟨Nat.le_refl _, Nat.le_refl _⟩ dX0_init_3 (fun H locs hG hL => ?_)
  have hf := Option.some.inj hf
  subst hf
  exact ah_vret K hG hL (Nat.le_refl _) (Nat.le_refl _) dX0_init_6
def fX0_wages (M : ah_h) (a0 : Nat) : Option (Int32) := (ah_oc M a0).bind fun q2 => (fX9_wages M a0).bind fun v1 => some (v1 + 3)
set_option maxRecDepth 100000 in
set_option maxHeartbeats 4000000 in
theorem ctX0_wages (l : Launch) (H0 : Heap) (D : va_G) (ca : Nat → ClassId) (M : ah_h) (z : Nat) (a0 : Nat) (Z : Int32) (hf : fX0_wages M a0 = some Z) : ah_ct l H0 D ca yX0_wages cX0_wages 1 (some .int) 2 40 0 0 [.ref a0] M z (some (.int Z)) M z := by
  refine ah_of (by decide) (Nat.le_of_ble_eq_true rfl) ?_
  intro p e s m below meth c ls hin K hG hl
  have hL : ah_L H0 [] := ah_L.nil
  have hl : lv_has ls 1 [(0, .ref a0)] := hl
  unfold fX0_wages at hf
  refine lv_aload_n K.1 K.2.1 dX0_wages_0 rfl (lv_at hl 0 rfl) ?_
  obtain ⟨q2, eq2, hf⟩ := Option.bind_eq_some_iff.mp hf
  obtain ⟨v1, ev1, hf⟩ := Option.bind_eq_some_iff.mp hf
  refine ah_callUC (n := 0) (As := []) (rest := []) K hG hL hl.1 eq2 (ctX9_wages l H0 D ca M z a0 v1 ev1) (by decide +kernel) q_718 q_719 q_58 q_720 q_1276 q_303 ⟨Nat.le_of_ble_eq_true rfl, Nat.le_of_ble_eq_true rfl⟩ rfl rfl (Nat.le_of_ble_eq_true rfl) ⟨Nat.le_refl _, Nat.le_refl _⟩ dX0_wages_1 (fun H locs hG hL => ?_)
  refine lv_iconst (v := 3) K.1 K.2.1 dX0_wages_4 (by decide) ?_
  refine lv_iadd K.1 K.2.1 dX0_wages_5 ?_
  have hf := Option.some.inj hf
  subst hf
  exact ah_iret K hG hL (Nat.le_refl _) (Nat.le_refl _) dX0_wages_6
def fX1_gift_2_b   (k2 : Int32 → Int32 → Option (Int32)) (M : ah_h) (x2 : Int32) (x3 : Int32) : Option (Int32) := if 12 ≤ x3 then (some (-4)) else ((fX10_has M x2 x3).bind fun v2 => if v2 = 0 then (k2 x2 (x3 + 1)) else (some x3))
def fX1_gift_2   (M : ah_h) : Nat → Int32 → Int32 → Option (Int32)
  | 0 => fun _ _ => none
  | n + 1 => fun x2 x3 => fX1_gift_2_b   (fX1_gift_2   M n) M x2 x3
set_option maxRecDepth 100000 in
set_option maxHeartbeats 4000000 in
theorem wX1_gift_2_b {p : Program} {l : Launch} {e : Env} {s : State} {m : MethodId} {args : Array Value} {below : List Frame} {meth : Method} {c : Code} {D : va_G} {ca : Nat → ClassId} {H0 : Heap} {M : ah_h} {z : Nat} (K : ah_K p s m args meth c D ca "ShipsThatMeet$Captain" cX1_gift 4 (some .int))   (k2 : Int32 → Int32 → Option (Int32)) (hk2 : ∀ (x2 : Int32) (x3 : Int32)  (H : Heap) (locs : List Loc) (ls : Array Slot), ah_g H0 D ca M z H → ah_L H0 locs → lv_has ls 4 [(2, .int x2), (3, .int x3)] → ∀ Z, k2 x2 x3 = some Z → W p l e { frames := 1, cells := 0, slots := 0, locals := 21 } s m args below meth c H locs 0 0 (ah_Q below args s H0 D ca 0 0 (some (.int Z)) M z) (F0 m 2 ls [])) : ∀ (x2 : Int32) (x3 : Int32)  (H : Heap) (locs : List Loc) (ls : Array Slot), ah_g H0 D ca M z H → ah_L H0 locs → lv_has ls 4 [(2, .int x2), (3, .int x3)] → ∀ Z, fX1_gift_2_b   k2 M x2 x3 = some Z → W p l e { frames := 1, cells := 0, slots := 0, locals := 21 } s m args below meth c H locs 0 0 (ah_Q below args s H0 D ca 0 0 (some (.int Z)) M z) (F0 m 2 ls []) := by
  intro x2 x3 H locs ls hG hL hl Z hf
  unfold fX1_gift_2_b at hf
  refine lv_iload_n K.1 K.2.1 dX1_gift_2 rfl (lv_at hl 1 rfl) ?_
  refine lv_bipush (v := 12) K.1 K.2.1 dX1_gift_3 (by decide) ?_
  refine lv_icmp_ge (tgt := 24) K.1 K.2.1 dX1_gift_5 (by decide) (fun h1 => ?_) (fun h1 => ?_)
  · rw [if_pos h1] at hf
    refine lv_bipush (v := (-4)) K.1 K.2.1 dX1_gift_24 (by decide) ?_
    have hf := Option.some.inj hf
    subst hf
    exact ah_iret K hG hL (Nat.le_refl _) (Nat.le_refl _) dX1_gift_26
  · rw [if_neg h1] at hf
    refine lv_iload_n K.1 K.2.1 dX1_gift_8 rfl (lv_at hl 0 rfl) ?_
    refine lv_iload_n K.1 K.2.1 dX1_gift_9 rfl (lv_at hl 1 rfl) ?_
    obtain ⟨v2, ev2, hf⟩ := Option.bind_eq_some_iff.mp hf
    refine ah_callSN (As := [.int x2, .int x3]) (rest := []) K hG hL hl.1 (ctX10_has l H0 D ca M z x2 x3 v2 ev2) hdX10_has (host := "ShipsThatMeet") (by simp [ah_nM]) q_370 q_50 q_371 ⟨Nat.le_of_ble_eq_true rfl, Nat.le_of_ble_eq_true rfl⟩ rfl rfl (Nat.le_of_ble_eq_true rfl) ⟨Nat.le_refl _, Nat.le_refl _⟩ dX1_gift_10 (fun H locs hG hL => ?_)
    refine lv_if_eq (tgt := 18) K.1 K.2.1 dX1_gift_13 (by decide) (fun h3 => ?_) (fun h3 => ?_)
    · rw [if_pos h3] at hf
      refine lv_iinc (v := x3 + 1) (lv' := [(3, .int (x3 + 1)), (2, .int x2)]) K.1 K.2.1 dX1_gift_18 hl (k := 1) rfl rfl (by decide) rfl (fun ls hl => ?_)
      refine lv_goto (tgt := 2) K.1 K.2.1 dX1_gift_21 (by decide) ?_
      exact hk2 x2 (x3 + 1) _ _ _ hG hL (lv_sub hl [1, 0] rfl) _ hf
    · rw [if_neg h3] at hf
      refine lv_iload_n K.1 K.2.1 dX1_gift_16 rfl (lv_at hl 1 rfl) ?_
      have hf := Option.some.inj hf
      subst hf
      exact ah_iret K hG hL (Nat.le_refl _) (Nat.le_refl _) dX1_gift_17
theorem wX1_gift_2 {p : Program} {l : Launch} {e : Env} {s : State} {m : MethodId} {args : Array Value} {below : List Frame} {meth : Method} {c : Code} {D : va_G} {ca : Nat → ClassId} {H0 : Heap} {M : ah_h} {z : Nat} (K : ah_K p s m args meth c D ca "ShipsThatMeet$Captain" cX1_gift 4 (some .int))   (n : Nat) : ∀ (x2 : Int32) (x3 : Int32)  (H : Heap) (locs : List Loc) (ls : Array Slot), ah_g H0 D ca M z H → ah_L H0 locs → lv_has ls 4 [(2, .int x2), (3, .int x3)] → ∀ Z, fX1_gift_2   M n x2 x3 = some Z → W p l e { frames := 1, cells := 0, slots := 0, locals := 21 } s m args below meth c H locs 0 0 (ah_Q below args s H0 D ca 0 0 (some (.int Z)) M z) (F0 m 2 ls []) := by
  induction n with
  | zero => intro x2 x3 H locs ls hG hL hl Z hf; cases hf
  | succ n ih => exact wX1_gift_2_b K  _ ih
def fX1_gift (M : ah_h) (a0 : Nat) (x1 : Nat) (x2 : Int32) : Option (Int32) := fX1_gift_2 M ah_fu x2 0
set_option maxRecDepth 100000 in
set_option maxHeartbeats 4000000 in
theorem ctX1_gift (l : Launch) (H0 : Heap) (D : va_G) (ca : Nat → ClassId) (M : ah_h) (z : Nat) (a0 : Nat) (x1 : Nat) (x2 : Int32) (Z : Int32) (hf : fX1_gift M a0 x1 x2 = some Z) : ah_ct l H0 D ca yX1_gift cX1_gift 4 (some .int) 1 21 0 0 [.ref a0, .ref x1, .int x2] M z (some (.int Z)) M z := by
  refine ah_of (by decide) (Nat.le_of_ble_eq_true rfl) ?_
  intro p e s m below meth c ls hin K hG hl
  have hL : ah_L H0 [] := ah_L.nil
  have hl : lv_has ls 4 [(0, .ref a0), (1, .ref x1), (2, .int x2)] := hl
  unfold fX1_gift at hf
  refine lv_iconst (v := 0) K.1 K.2.1 dX1_gift_0 (by decide) ?_
  refine lv_istore_n (lv' := [(3, .int 0), (0, .ref a0), (1, .ref x1), (2, .int x2)]) K.1 K.2.1 dX1_gift_1 rfl hl (by decide) rfl (fun ls hl => ?_)
  exact wX1_gift_2 K  ah_fu x2 0 _ _ _ hG hL (lv_sub hl [3, 0] rfl) _ hf
def fX2_isAlone (M : ah_h) (a0 : Nat) (x1 : Int32) : Option (Int32) := (ah_ob M a0 2).bind fun _ => (ah_gr M a0 2 4).bind fun v1 => (ah_ai M v1 x1).bind fun v2 => (fJ6_bitCount_0f7a4 M v2).bind fun v3 => if v3 = 1 then (some 1) else (some 0)
set_option maxRecDepth 100000 in
set_option maxHeartbeats 4000000 in
theorem ctX2_isAlone (l : Launch) (H0 : Heap) (D : va_G) (ca : Nat → ClassId) (M : ah_h) (z : Nat) (a0 : Nat) (x1 : Int32) (Z : Int32) (hf : fX2_isAlone M a0 x1 = some Z) : ah_ct l H0 D ca yX2_isAlone cX2_isAlone 2 (some .boolean) 1 20 0 0 [.ref a0, .int x1] M z (some (.int Z)) M z := by
  refine ah_of (by decide) (Nat.le_of_ble_eq_true rfl) ?_
  intro p e s m below meth c ls hin K hG hl
  have hL : ah_L H0 [] := ah_L.nil
  have hl : lv_has ls 2 [(0, .ref a0), (1, .int x1)] := hl
  unfold fX2_isAlone at hf
  obtain ⟨-, -, hf⟩ := Option.bind_eq_some_iff.mp hf
  refine lv_aload_n K.1 K.2.1 dX2_isAlone_0 rfl (lv_at hl 0 rfl) ?_
  obtain ⟨v1, ev1, hf⟩ := Option.bind_eq_some_iff.mp hf
  refine ah_getr K hG ev1 ffX2_20_2 dX2_isAlone_1 ?_
  refine lv_iload_n K.1 K.2.1 dX2_isAlone_4 rfl (lv_at hl 1 rfl) ?_
  obtain ⟨v2, ev2, hf⟩ := Option.bind_eq_some_iff.mp hf
  refine ah_iald K hG ev2 dX2_isAlone_5 ?_
  obtain ⟨v3, ev3, hf⟩ := Option.bind_eq_some_iff.mp hf
  refine ah_callS (As := [.int v2]) (rest := []) K hG hL hl.1 (ctJ6_bitCount_0f7a4 l H0 D ca M z v2 v3 ev3) hdJ6_bitCount_0f7a4 q_495 q_389 q_62 q_390 ⟨Nat.le_of_ble_eq_true rfl, Nat.le_of_ble_eq_true rfl⟩ rfl rfl (Nat.le_of_ble_eq_true rfl) ⟨Nat.le_refl _, Nat.le_refl _⟩ dX2_isAlone_6 (fun H locs hG hL => ?_)
  refine lv_iconst (v := 1) K.1 K.2.1 dX2_isAlone_9 (by decide) ?_
  refine lv_icmp_ne (tgt := 17) K.1 K.2.1 dX2_isAlone_10 (by decide) (fun h4 => ?_) (fun h4 => ?_)
  · rw [if_neg h4] at hf
    refine lv_iconst (v := 0) K.1 K.2.1 dX2_isAlone_17 (by decide) ?_
    have hf := Option.some.inj hf
    subst hf
    exact ah_zret K hG hL (Or.inl rfl) (Nat.le_refl _) (Nat.le_refl _) dX2_isAlone_18
  · rw [if_pos h4] at hf
    refine lv_iconst (v := 1) K.1 K.2.1 dX2_isAlone_13 (by decide) ?_
    refine lv_goto (tgt := 18) K.1 K.2.1 dX2_isAlone_14 (by decide) ?_
    have hf := Option.some.inj hf
    subst hf
    exact ah_zret K hG hL (Or.inr rfl) (Nat.le_refl _) (Nat.le_refl _) dX2_isAlone_18
def fX2_takesMan_31    (M : ah_h) (a0 : Nat) (x1 : Int32) (x2 : Int32) (x3 : Int32) (s0 : Int32) : Option (Int32 × ah_h) := if s0 = 0 then (some (0, M)) else ((ah_gi M a0 2 1).bind fun v2 => if v2 < 12 then ((ah_gr M a0 2 5).bind fun v4 => (ah_gi M a0 2 1).bind fun v5 => (ah_si M v4 v5 x1).bind fun M6 => (ah_gr M6 a0 2 6).bind fun v7 => (ah_gi M6 a0 2 1).bind fun v8 => (ah_si M6 v7 v8 x2).bind fun M9 => (ah_gr M9 a0 2 7).bind fun v10 => (ah_gi M9 a0 2 1).bind fun v11 => (ah_si M9 v10 v11 x3).bind fun M12 => (ah_gr M12 a0 2 8).bind fun v13 => (ah_gi M12 a0 2 1).bind fun v14 => (ah_si M12 v13 v14 0).bind fun M15 => (ah_gr M15 a0 2 9).bind fun v16 => (ah_gi M15 a0 2 1).bind fun v17 => (ah_si M15 v16 v17 0).bind fun M18 => (ah_gr M18 a0 2 4).bind fun v19 => (ah_ai M18 v19 x1).bind fun v20 => (ah_gi M18 a0 2 1).bind fun v21 => (ah_si M18 v19 x1 (v20 ||| ((1 : Int32) <<< (v21 &&& 31)))).bind fun M22 => (ah_gi M22 a0 2 1).bind fun v23 => (ah_pf M22 a0 2 1 (.int (v23 + 1))).bind fun M24 => (fX2_acquaint M24 a0 x1).bind fun v25 => some (1, v25)) else (some (0, M)))
set_option maxRecDepth 100000 in
set_option maxHeartbeats 4000000 in
theorem wX2_takesMan_31 {p : Program} {l : Launch} {e : Env} {s : State} {m : MethodId} {args : Array Value} {below : List Frame} {meth : Method} {c : Code} {D : va_G} {ca : Nat → ClassId} {H0 : Heap} {z : Nat} (K : ah_K p s m args meth c D ca "ShipsThatMeet$Fleet" cX2_takesMan 5 (some .boolean))   : ∀ (M : ah_h) (a0 : Nat) (x1 : Int32) (x2 : Int32) (x3 : Int32) (s0 : Int32)  (H : Heap) (locs : List Loc) (ls : Array Slot), ah_g H0 D ca M z H → ah_L H0 locs → lv_has ls 5 [(0, .ref a0), (1, .int x1), (2, .int x2), (3, .int x3)] → ∀ Z, fX2_takesMan_31    M a0 x1 x2 x3 s0 = some Z → W p l e { frames := 1, cells := 0, slots := 0, locals := 22 } s m args below meth c H locs 0 0 (ah_Q below args s H0 D ca 0 0 (some (.int Z.1)) Z.2 z) (F0 m 31 ls [.int s0]) := by
  intro M a0 x1 x2 x3 s0 H locs ls hG hL hl Z hf
  unfold fX2_takesMan_31 at hf
  refine lv_istore (lv' := [(4, .int s0), (0, .ref a0), (1, .int x1), (2, .int x2), (3, .int x3)]) K.1 K.2.1 dX2_takesMan_31 hl (by decide) rfl (fun ls hl => ?_)
  refine lv_iload K.1 K.2.1 dX2_takesMan_33 (lv_at hl 0 rfl) ?_
  refine lv_if_eq (tgt := 47) K.1 K.2.1 dX2_takesMan_35 (by decide) (fun h1 => ?_) (fun h1 => ?_)
  · rw [if_pos h1] at hf
    refine lv_iconst (v := 0) K.1 K.2.1 dX2_takesMan_47 (by decide) ?_
    have hf := Option.some.inj hf
    subst hf
    exact ah_zret K hG hL (Or.inl rfl) (Nat.le_refl _) (Nat.le_refl _) dX2_takesMan_48
  · rw [if_neg h1] at hf
    refine lv_aload_n K.1 K.2.1 dX2_takesMan_38 rfl (lv_at hl 1 rfl) ?_
    obtain ⟨v2, ev2, hf⟩ := Option.bind_eq_some_iff.mp hf
    refine ah_geti K hG ev2 ffX2_43_2 dX2_takesMan_39 ?_
    refine lv_bipush (v := 12) K.1 K.2.1 dX2_takesMan_42 (by decide) ?_
    refine lv_icmp_lt (tgt := 49) K.1 K.2.1 dX2_takesMan_44 (by decide) (fun h3 => ?_) (fun h3 => ?_)
    · rw [if_pos h3] at hf
      refine lv_aload_n K.1 K.2.1 dX2_takesMan_49 rfl (lv_at hl 1 rfl) ?_
      obtain ⟨v4, ev4, hf⟩ := Option.bind_eq_some_iff.mp hf
      refine ah_getr K hG ev4 ffX2_24_2 dX2_takesMan_50 ?_
      refine lv_aload_n K.1 K.2.1 dX2_takesMan_53 rfl (lv_at hl 1 rfl) ?_
      obtain ⟨v5, ev5, hf⟩ := Option.bind_eq_some_iff.mp hf
      refine ah_geti K hG ev5 ffX2_43_2 dX2_takesMan_54 ?_
      refine lv_iload_n K.1 K.2.1 dX2_takesMan_57 rfl (lv_at hl 2 rfl) ?_
      obtain ⟨M6, eM6, hf⟩ := Option.bind_eq_some_iff.mp hf
      refine ah_iast K hG hL eM6 dX2_takesMan_58 (fun H locs hG hL => ?_)
      refine lv_aload_n K.1 K.2.1 dX2_takesMan_59 rfl (lv_at hl 1 rfl) ?_
      obtain ⟨v7, ev7, hf⟩ := Option.bind_eq_some_iff.mp hf
      refine ah_getr K hG ev7 ffX2_27_2 dX2_takesMan_60 ?_
      refine lv_aload_n K.1 K.2.1 dX2_takesMan_63 rfl (lv_at hl 1 rfl) ?_
      obtain ⟨v8, ev8, hf⟩ := Option.bind_eq_some_iff.mp hf
      refine ah_geti K hG ev8 ffX2_43_2 dX2_takesMan_64 ?_
      refine lv_iload_n K.1 K.2.1 dX2_takesMan_67 rfl (lv_at hl 3 rfl) ?_
      obtain ⟨M9, eM9, hf⟩ := Option.bind_eq_some_iff.mp hf
      refine ah_iast K hG hL eM9 dX2_takesMan_68 (fun H locs hG hL => ?_)
      refine lv_aload_n K.1 K.2.1 dX2_takesMan_69 rfl (lv_at hl 1 rfl) ?_
      obtain ⟨v10, ev10, hf⟩ := Option.bind_eq_some_iff.mp hf
      refine ah_getr K hG ev10 ffX2_30_2 dX2_takesMan_70 ?_
      refine lv_aload_n K.1 K.2.1 dX2_takesMan_73 rfl (lv_at hl 1 rfl) ?_
      obtain ⟨v11, ev11, hf⟩ := Option.bind_eq_some_iff.mp hf
      refine ah_geti K hG ev11 ffX2_43_2 dX2_takesMan_74 ?_
      refine lv_iload_n K.1 K.2.1 dX2_takesMan_77 rfl (lv_at hl 4 rfl) ?_
      obtain ⟨M12, eM12, hf⟩ := Option.bind_eq_some_iff.mp hf
      refine ah_iast K hG hL eM12 dX2_takesMan_78 (fun H locs hG hL => ?_)
      refine lv_aload_n K.1 K.2.1 dX2_takesMan_79 rfl (lv_at hl 1 rfl) ?_
      obtain ⟨v13, ev13, hf⟩ := Option.bind_eq_some_iff.mp hf
      refine ah_getr K hG ev13 ffX2_33_2 dX2_takesMan_80 ?_
      refine lv_aload_n K.1 K.2.1 dX2_takesMan_83 rfl (lv_at hl 1 rfl) ?_
      obtain ⟨v14, ev14, hf⟩ := Option.bind_eq_some_iff.mp hf
      refine ah_geti K hG ev14 ffX2_43_2 dX2_takesMan_84 ?_
      refine lv_iconst (v := 0) K.1 K.2.1 dX2_takesMan_87 (by decide) ?_
      obtain ⟨M15, eM15, hf⟩ := Option.bind_eq_some_iff.mp hf
      refine ah_iast K hG hL eM15 dX2_takesMan_88 (fun H locs hG hL => ?_)
      refine lv_aload_n K.1 K.2.1 dX2_takesMan_89 rfl (lv_at hl 1 rfl) ?_
      obtain ⟨v16, ev16, hf⟩ := Option.bind_eq_some_iff.mp hf
      refine ah_getr K hG ev16 ffX2_36_2 dX2_takesMan_90 ?_
      refine lv_aload_n K.1 K.2.1 dX2_takesMan_93 rfl (lv_at hl 1 rfl) ?_
      obtain ⟨v17, ev17, hf⟩ := Option.bind_eq_some_iff.mp hf
      refine ah_geti K hG ev17 ffX2_43_2 dX2_takesMan_94 ?_
      refine lv_iconst (v := 0) K.1 K.2.1 dX2_takesMan_97 (by decide) ?_
      obtain ⟨M18, eM18, hf⟩ := Option.bind_eq_some_iff.mp hf
      refine ah_iast K hG hL eM18 dX2_takesMan_98 (fun H locs hG hL => ?_)
      refine lv_aload_n K.1 K.2.1 dX2_takesMan_99 rfl (lv_at hl 1 rfl) ?_
      obtain ⟨v19, ev19, hf⟩ := Option.bind_eq_some_iff.mp hf
      refine ah_getr K hG ev19 ffX2_20_2 dX2_takesMan_100 ?_
      refine lv_iload_n K.1 K.2.1 dX2_takesMan_103 rfl (lv_at hl 2 rfl) ?_
      refine lv_dup2_11 K.1 K.2.1 dX2_takesMan_104 rfl rfl ?_
      obtain ⟨v20, ev20, hf⟩ := Option.bind_eq_some_iff.mp hf
      refine ah_iald K hG ev20 dX2_takesMan_105 ?_
      refine lv_iconst (v := 1) K.1 K.2.1 dX2_takesMan_106 (by decide) ?_
      refine lv_aload_n K.1 K.2.1 dX2_takesMan_107 rfl (lv_at hl 1 rfl) ?_
      obtain ⟨v21, ev21, hf⟩ := Option.bind_eq_some_iff.mp hf
      refine ah_geti K hG ev21 ffX2_43_2 dX2_takesMan_108 ?_
      refine lv_ishl K.1 K.2.1 dX2_takesMan_111 ?_
      refine lv_ior K.1 K.2.1 dX2_takesMan_112 ?_
      obtain ⟨M22, eM22, hf⟩ := Option.bind_eq_some_iff.mp hf
      refine ah_iast K hG hL eM22 dX2_takesMan_113 (fun H locs hG hL => ?_)
      refine lv_aload_n K.1 K.2.1 dX2_takesMan_114 rfl (lv_at hl 1 rfl) ?_
      refine lv_dup K.1 K.2.1 dX2_takesMan_115 rfl ?_
      obtain ⟨v23, ev23, hf⟩ := Option.bind_eq_some_iff.mp hf
      refine ah_geti K hG ev23 ffX2_43_2 dX2_takesMan_116 ?_
      refine lv_iconst (v := 1) K.1 K.2.1 dX2_takesMan_119 (by decide) ?_
      refine lv_iadd K.1 K.2.1 dX2_takesMan_120 ?_
      obtain ⟨M24, eM24, hf⟩ := Option.bind_eq_some_iff.mp hf
      refine ah_put K hG hL eM24 fwX2_43_2 rfl rfl dX2_takesMan_121 (fun H locs hG hL => ?_)
      refine lv_aload_n K.1 K.2.1 dX2_takesMan_124 rfl (lv_at hl 1 rfl) ?_
      refine lv_iload_n K.1 K.2.1 dX2_takesMan_125 rfl (lv_at hl 2 rfl) ?_
      obtain ⟨v25, ev25, hf⟩ := Option.bind_eq_some_iff.mp hf
      obtain ⟨q26, eq26⟩ := ah_this ev25
      refine ah_callV (As := [.int x1]) (rest := []) K hG hL hl.1 eq26 rfl (ctX2_acquaint l H0 D ca M24 z a0 x1 v25 ev25) hdX2_acquaint q_336 q_337 q_51 q_339 q_338 ⟨Nat.le_of_ble_eq_true rfl, Nat.le_of_ble_eq_true rfl⟩ rfl rfl (Nat.le_of_ble_eq_true rfl) ⟨Nat.le_refl _, Nat.le_refl _⟩ dX2_takesMan_126 (fun H locs hG hL => ?_)
      refine lv_iconst (v := 1) K.1 K.2.1 dX2_takesMan_129 (by decide) ?_
      have hf := Option.some.inj hf
      subst hf
      exact ah_zret K hG hL (Or.inr rfl) (Nat.le_refl _) (Nat.le_refl _) dX2_takesMan_130
    · rw [if_neg h3] at hf
      refine lv_iconst (v := 0) K.1 K.2.1 dX2_takesMan_47 (by decide) ?_
      have hf := Option.some.inj hf
      subst hf
      exact ah_zret K hG hL (Or.inl rfl) (Nat.le_refl _) (Nat.le_refl _) dX2_takesMan_48
def fX2_takesMan_30    (M : ah_h) (a0 : Nat) (x1 : Int32) (x2 : Int32) (x3 : Int32) : Option (Int32 × ah_h) := fX2_takesMan_31 M a0 x1 x2 x3 0
set_option maxRecDepth 100000 in
set_option maxHeartbeats 4000000 in
theorem wX2_takesMan_30 {p : Program} {l : Launch} {e : Env} {s : State} {m : MethodId} {args : Array Value} {below : List Frame} {meth : Method} {c : Code} {D : va_G} {ca : Nat → ClassId} {H0 : Heap} {z : Nat} (K : ah_K p s m args meth c D ca "ShipsThatMeet$Fleet" cX2_takesMan 5 (some .boolean))   : ∀ (M : ah_h) (a0 : Nat) (x1 : Int32) (x2 : Int32) (x3 : Int32)  (H : Heap) (locs : List Loc) (ls : Array Slot), ah_g H0 D ca M z H → ah_L H0 locs → lv_has ls 5 [(0, .ref a0), (1, .int x1), (2, .int x2), (3, .int x3)] → ∀ Z, fX2_takesMan_30    M a0 x1 x2 x3 = some Z → W p l e { frames := 1, cells := 0, slots := 0, locals := 22 } s m args below meth c H locs 0 0 (ah_Q below args s H0 D ca 0 0 (some (.int Z.1)) Z.2 z) (F0 m 30 ls []) := by
  intro M a0 x1 x2 x3 H locs ls hG hL hl Z hf
  unfold fX2_takesMan_30 at hf
  refine lv_iconst (v := 0) K.1 K.2.1 dX2_takesMan_30 (by decide) ?_
  exact wX2_takesMan_31 K  M a0 x1 x2 x3 0 _ _ _ hG hL (lv_sub hl [0, 1, 2, 3] rfl) _ hf
def fX2_takesMan (M : ah_h) (a0 : Nat) (x1 : Int32) (x2 : Int32) (x3 : Int32) : Option (Int32 × ah_h) := (ah_ob M a0 2).bind fun _ => (fX2_isShip M a0 x1).bind fun v1 => if v1 = 0 then (fX2_takesMan_30 M a0 x1 x2 x3) else (if x2 < 0 then (fX2_takesMan_30 M a0 x1 x2 x3) else (if 4 ≤ x2 then (fX2_takesMan_30 M a0 x1 x2 x3) else (if x3 < 0 then (fX2_takesMan_30 M a0 x1 x2 x3) else (if 4 ≤ x3 then (fX2_takesMan_30 M a0 x1 x2 x3) else (fX2_takesMan_31 M a0 x1 x2 x3 1)))))
set_option maxRecDepth 100000 in
set_option maxHeartbeats 4000000 in
theorem ctX2_takesMan (l : Launch) (H0 : Heap) (D : va_G) (ca : Nat → ClassId) (M : ah_h) (z : Nat) (a0 : Nat) (x1 : Int32) (x2 : Int32) (x3 : Int32) (Z : Int32 × ah_h) (hf : fX2_takesMan M a0 x1 x2 x3 = some Z) : ah_ct l H0 D ca yX2_takesMan cX2_takesMan 5 (some .boolean) 1 22 0 0 [.ref a0, .int x1, .int x2, .int x3] M z (some (.int Z.1)) Z.2 z := by
  refine ah_of (by decide) (Nat.le_of_ble_eq_true rfl) ?_
  intro p e s m below meth c ls hin K hG hl
  have hL : ah_L H0 [] := ah_L.nil
  have hl : lv_has ls 5 [(0, .ref a0), (1, .int x1), (2, .int x2), (3, .int x3)] := hl
  unfold fX2_takesMan at hf
  obtain ⟨-, -, hf⟩ := Option.bind_eq_some_iff.mp hf
  refine lv_aload_n K.1 K.2.1 dX2_takesMan_0 rfl (lv_at hl 0 rfl) ?_
  refine lv_iload_n K.1 K.2.1 dX2_takesMan_1 rfl (lv_at hl 1 rfl) ?_
  obtain ⟨v1, ev1, hf⟩ := Option.bind_eq_some_iff.mp hf
  obtain ⟨q2, eq2⟩ := ah_this ev1
  refine ah_callV (As := [.int x1]) (rest := []) K hG hL hl.1 eq2 rfl (ctX2_isShip l H0 D ca M z a0 x1 v1 ev1) hdX2_isShip q_332 q_333 q_51 q_335 q_334 ⟨Nat.le_of_ble_eq_true rfl, Nat.le_of_ble_eq_true rfl⟩ rfl rfl (Nat.le_of_ble_eq_true rfl) ⟨Nat.le_refl _, Nat.le_refl _⟩ dX2_takesMan_2 (fun H locs hG hL => ?_)
  refine lv_if_eq (tgt := 30) K.1 K.2.1 dX2_takesMan_5 (by decide) (fun h3 => ?_) (fun h3 => ?_)
  · rw [if_pos h3] at hf
    exact wX2_takesMan_30 K  M a0 x1 x2 x3 _ _ _ hG hL (lv_sub hl [0, 1, 2, 3] rfl) _ hf
  · rw [if_neg h3] at hf
    refine lv_iload_n K.1 K.2.1 dX2_takesMan_8 rfl (lv_at hl 2 rfl) ?_
    refine lv_if_lt (tgt := 30) K.1 K.2.1 dX2_takesMan_9 (by decide) (fun h4 => ?_) (fun h4 => ?_)
    · rw [if_pos h4] at hf
      exact wX2_takesMan_30 K  M a0 x1 x2 x3 _ _ _ hG hL (lv_sub hl [0, 1, 2, 3] rfl) _ hf
    · rw [if_neg h4] at hf
      refine lv_iload_n K.1 K.2.1 dX2_takesMan_12 rfl (lv_at hl 2 rfl) ?_
      refine lv_iconst (v := 4) K.1 K.2.1 dX2_takesMan_13 (by decide) ?_
      refine lv_icmp_ge (tgt := 30) K.1 K.2.1 dX2_takesMan_14 (by decide) (fun h5 => ?_) (fun h5 => ?_)
      · rw [if_pos h5] at hf
        exact wX2_takesMan_30 K  M a0 x1 x2 x3 _ _ _ hG hL (lv_sub hl [0, 1, 2, 3] rfl) _ hf
      · rw [if_neg h5] at hf
        refine lv_iload_n K.1 K.2.1 dX2_takesMan_17 rfl (lv_at hl 3 rfl) ?_
        refine lv_if_lt (tgt := 30) K.1 K.2.1 dX2_takesMan_18 (by decide) (fun h6 => ?_) (fun h6 => ?_)
        · rw [if_pos h6] at hf
          exact wX2_takesMan_30 K  M a0 x1 x2 x3 _ _ _ hG hL (lv_sub hl [0, 1, 2, 3] rfl) _ hf
        · rw [if_neg h6] at hf
          refine lv_iload_n K.1 K.2.1 dX2_takesMan_21 rfl (lv_at hl 3 rfl) ?_
          refine lv_iconst (v := 4) K.1 K.2.1 dX2_takesMan_22 (by decide) ?_
          refine lv_icmp_ge (tgt := 30) K.1 K.2.1 dX2_takesMan_23 (by decide) (fun h7 => ?_) (fun h7 => ?_)
          · rw [if_pos h7] at hf
            exact wX2_takesMan_30 K  M a0 x1 x2 x3 _ _ _ hG hL (lv_sub hl [0, 1, 2, 3] rfl) _ hf
          · rw [if_neg h7] at hf
            refine lv_iconst (v := 1) K.1 K.2.1 dX2_takesMan_26 (by decide) ?_
            refine lv_goto (tgt := 31) K.1 K.2.1 dX2_takesMan_27 (by decide) ?_
            exact wX2_takesMan_31 K  M a0 x1 x2 x3 1 _ _ _ hG hL (lv_sub hl [0, 1, 2, 3] rfl) _ hf
def fX2_exchange (M : ah_h) (a0 : Nat) (x1 : Int32) (x2 : Int32) (x3 : Int32) (x4 : Int32) : Option (ah_h) := (ah_ob M a0 2).bind fun _ => (fX2_isMan M a0 x3).bind fun v1 => if v1 = 0 then (some M) else ((fX2_isMan M a0 x4).bind fun v4 => if v4 = 0 then (some M) else ((fX2_bring M a0 x3 x1 x2).bind fun v7 => (fX2_bring v7 a0 x4 x2 x1).bind fun v9 => (ah_gi v9 a0 2 2).bind fun v11 => (ah_pf v9 a0 2 2 (.int (v11 + 1))).bind fun M12 => (ah_gr M12 a0 2 8).bind fun v13 => (ah_gi M12 a0 2 2).bind fun v14 => (ah_si M12 v13 x3 v14).bind fun M15 => (ah_gr M15 a0 2 8).bind fun v16 => (ah_gi M15 a0 2 2).bind fun v17 => (ah_si M15 v16 x4 v17).bind fun M18 => some M18))
set_option maxRecDepth 100000 in
set_option maxHeartbeats 4000000 in
theorem ctX2_exchange (l : Launch) (H0 : Heap) (D : va_G) (ca : Nat → ClassId) (M : ah_h) (z : Nat) (a0 : Nat) (x1 : Int32) (x2 : Int32) (x3 : Int32) (x4 : Int32) (Z : ah_h) (hf : fX2_exchange M a0 x1 x2 x3 x4 = some Z) : ah_ct l H0 D ca yX2_exchange cX2_exchange 5 none 1 23 0 0 [.ref a0, .int x1, .int x2, .int x3, .int x4] M z none Z z := by
  refine ah_of (by decide) (Nat.le_of_ble_eq_true rfl) ?_
  intro p e s m below meth c ls hin K hG hl
  have hL : ah_L H0 [] := ah_L.nil
  have hl : lv_has ls 5 [(0, .ref a0), (1, .int x1), (2, .int x2), (3, .int x3), (4, .int x4)] := hl
  unfold fX2_exchange at hf
  obtain ⟨-, -, hf⟩ := Option.bind_eq_some_iff.mp hf
  refine lv_aload_n K.1 K.2.1 dX2_exchange_0 rfl (lv_at hl 0 rfl) ?_
  refine lv_iload_n K.1 K.2.1 dX2_exchange_1 rfl (lv_at hl 3 rfl) ?_
  obtain ⟨v1, ev1, hf⟩ := Option.bind_eq_some_iff.mp hf
  obtain ⟨q2, eq2⟩ := ah_this ev1
  refine ah_callV (As := [.int x3]) (rest := []) K hG hL hl.1 eq2 rfl (ctX2_isMan l H0 D ca M z a0 x3 v1 ev1) hdX2_isMan q_416 q_417 q_51 q_419 q_418 ⟨Nat.le_of_ble_eq_true rfl, Nat.le_of_ble_eq_true rfl⟩ rfl rfl (Nat.le_of_ble_eq_true rfl) ⟨Nat.le_refl _, Nat.le_refl _⟩ dX2_exchange_2 (fun H locs hG hL => ?_)
  refine lv_if_eq (tgt := 17) K.1 K.2.1 dX2_exchange_5 (by decide) (fun h3 => ?_) (fun h3 => ?_)
  · rw [if_pos h3] at hf
    have hf := Option.some.inj hf
    subst hf
    exact ah_vret K hG hL (Nat.le_refl _) (Nat.le_refl _) dX2_exchange_17
  · rw [if_neg h3] at hf
    refine lv_aload_n K.1 K.2.1 dX2_exchange_8 rfl (lv_at hl 0 rfl) ?_
    refine lv_iload K.1 K.2.1 dX2_exchange_9 (lv_at hl 4 rfl) ?_
    obtain ⟨v4, ev4, hf⟩ := Option.bind_eq_some_iff.mp hf
    obtain ⟨q5, eq5⟩ := ah_this ev4
    refine ah_callV (As := [.int x4]) (rest := []) K hG hL hl.1 eq5 rfl (ctX2_isMan l H0 D ca M z a0 x4 v4 ev4) hdX2_isMan q_416 q_417 q_51 q_419 q_418 ⟨Nat.le_of_ble_eq_true rfl, Nat.le_of_ble_eq_true rfl⟩ rfl rfl (Nat.le_of_ble_eq_true rfl) ⟨Nat.le_refl _, Nat.le_refl _⟩ dX2_exchange_11 (fun H locs hG hL => ?_)
    refine lv_if_ne (tgt := 18) K.1 K.2.1 dX2_exchange_14 (by decide) (fun h6 => ?_) (fun h6 => ?_)
    · rw [if_neg h6] at hf
      refine lv_aload_n K.1 K.2.1 dX2_exchange_18 rfl (lv_at hl 0 rfl) ?_
      refine lv_iload_n K.1 K.2.1 dX2_exchange_19 rfl (lv_at hl 3 rfl) ?_
      refine lv_iload_n K.1 K.2.1 dX2_exchange_20 rfl (lv_at hl 1 rfl) ?_
      refine lv_iload_n K.1 K.2.1 dX2_exchange_21 rfl (lv_at hl 2 rfl) ?_
      obtain ⟨v7, ev7, hf⟩ := Option.bind_eq_some_iff.mp hf
      obtain ⟨q8, eq8⟩ := ah_this ev7
      refine ah_callV (As := [.int x3, .int x1, .int x2]) (rest := []) K hG hL hl.1 eq8 rfl (ctX2_bring l H0 D ca M z a0 x3 x1 x2 v7 ev7) hdX2_bring q_420 q_421 q_51 q_423 q_422 ⟨Nat.le_of_ble_eq_true rfl, Nat.le_of_ble_eq_true rfl⟩ rfl rfl (Nat.le_of_ble_eq_true rfl) ⟨Nat.le_refl _, Nat.le_refl _⟩ dX2_exchange_22 (fun H locs hG hL => ?_)
      refine lv_aload_n K.1 K.2.1 dX2_exchange_25 rfl (lv_at hl 0 rfl) ?_
      refine lv_iload K.1 K.2.1 dX2_exchange_26 (lv_at hl 4 rfl) ?_
      refine lv_iload_n K.1 K.2.1 dX2_exchange_28 rfl (lv_at hl 2 rfl) ?_
      refine lv_iload_n K.1 K.2.1 dX2_exchange_29 rfl (lv_at hl 1 rfl) ?_
      obtain ⟨v9, ev9, hf⟩ := Option.bind_eq_some_iff.mp hf
      obtain ⟨q10, eq10⟩ := ah_this ev9
      refine ah_callV (As := [.int x4, .int x2, .int x1]) (rest := []) K hG hL hl.1 eq10 rfl (ctX2_bring l H0 D ca v7 z a0 x4 x2 x1 v9 ev9) hdX2_bring q_420 q_421 q_51 q_423 q_422 ⟨Nat.le_of_ble_eq_true rfl, Nat.le_of_ble_eq_true rfl⟩ rfl rfl (Nat.le_of_ble_eq_true rfl) ⟨Nat.le_refl _, Nat.le_refl _⟩ dX2_exchange_30 (fun H locs hG hL => ?_)
      refine lv_aload_n K.1 K.2.1 dX2_exchange_33 rfl (lv_at hl 0 rfl) ?_
      refine lv_dup K.1 K.2.1 dX2_exchange_34 rfl ?_
      obtain ⟨v11, ev11, hf⟩ := Option.bind_eq_some_iff.mp hf
      refine ah_geti K hG ev11 ffX2_46_2 dX2_exchange_35 ?_
      refine lv_iconst (v := 1) K.1 K.2.1 dX2_exchange_38 (by decide) ?_
      refine lv_iadd K.1 K.2.1 dX2_exchange_39 ?_
      obtain ⟨M12, eM12, hf⟩ := Option.bind_eq_some_iff.mp hf
      refine ah_put K hG hL eM12 fwX2_46_2 rfl rfl dX2_exchange_40 (fun H locs hG hL => ?_)
      refine lv_aload_n K.1 K.2.1 dX2_exchange_43 rfl (lv_at hl 0 rfl) ?_
      obtain ⟨v13, ev13, hf⟩ := Option.bind_eq_some_iff.mp hf
      refine ah_getr K hG ev13 ffX2_33_2 dX2_exchange_44 ?_
      refine lv_iload_n K.1 K.2.1 dX2_exchange_47 rfl (lv_at hl 3 rfl) ?_
      refine lv_aload_n K.1 K.2.1 dX2_exchange_48 rfl (lv_at hl 0 rfl) ?_
      obtain ⟨v14, ev14, hf⟩ := Option.bind_eq_some_iff.mp hf
      refine ah_geti K hG ev14 ffX2_46_2 dX2_exchange_49 ?_
      obtain ⟨M15, eM15, hf⟩ := Option.bind_eq_some_iff.mp hf
      refine ah_iast K hG hL eM15 dX2_exchange_52 (fun H locs hG hL => ?_)
      refine lv_aload_n K.1 K.2.1 dX2_exchange_53 rfl (lv_at hl 0 rfl) ?_
      obtain ⟨v16, ev16, hf⟩ := Option.bind_eq_some_iff.mp hf
      refine ah_getr K hG ev16 ffX2_33_2 dX2_exchange_54 ?_
      refine lv_iload K.1 K.2.1 dX2_exchange_57 (lv_at hl 4 rfl) ?_
      refine lv_aload_n K.1 K.2.1 dX2_exchange_59 rfl (lv_at hl 0 rfl) ?_
      obtain ⟨v17, ev17, hf⟩ := Option.bind_eq_some_iff.mp hf
      refine ah_geti K hG ev17 ffX2_46_2 dX2_exchange_60 ?_
      obtain ⟨M18, eM18, hf⟩ := Option.bind_eq_some_iff.mp hf
      refine ah_iast K hG hL eM18 dX2_exchange_63 (fun H locs hG hL => ?_)
      have hf := Option.some.inj hf
      subst hf
      exact ah_vret K hG hL (Nat.le_refl _) (Nat.le_refl _) dX2_exchange_64
    · rw [if_pos h6] at hf
      have hf := Option.some.inj hf
      subst hf
      exact ah_vret K hG hL (Nat.le_refl _) (Nat.le_refl _) dX2_exchange_17
def fX2_takeBack (M : ah_h) (a0 : Nat) (x1 : Int32) (x2 : Int32) (x3 : Int32) (x4 : Int32) (x5 : Int32) (x6 : Int32) : Option (ah_h) := (ah_ob M a0 2).bind fun _ => (fX2_bring M a0 x3 x2 x1).bind fun v1 => (fX2_bring v1 a0 x4 x1 x2).bind fun v3 => (ah_gi v3 a0 2 2).bind fun v5 => (ah_pf v3 a0 2 2 (.int (v5 - 1))).bind fun M6 => (ah_gr M6 a0 2 8).bind fun v7 => (ah_si M6 v7 x3 x5).bind fun M8 => (ah_gr M8 a0 2 8).bind fun v9 => (ah_si M8 v9 x4 x6).bind fun M10 => some M10
set_option maxRecDepth 100000 in
set_option maxHeartbeats 4000000 in
theorem ctX2_takeBack (l : Launch) (H0 : Heap) (D : va_G) (ca : Nat → ClassId) (M : ah_h) (z : Nat) (a0 : Nat) (x1 : Int32) (x2 : Int32) (x3 : Int32) (x4 : Int32) (x5 : Int32) (x6 : Int32) (Z : ah_h) (hf : fX2_takeBack M a0 x1 x2 x3 x4 x5 x6 = some Z) : ah_ct l H0 D ca yX2_takeBack cX2_takeBack 7 none 1 23 0 0 [.ref a0, .int x1, .int x2, .int x3, .int x4, .int x5, .int x6] M z none Z z := by
  refine ah_of (by decide) (Nat.le_of_ble_eq_true rfl) ?_
  intro p e s m below meth c ls hin K hG hl
  have hL : ah_L H0 [] := ah_L.nil
  have hl : lv_has ls 7 [(0, .ref a0), (1, .int x1), (2, .int x2), (3, .int x3), (4, .int x4), (5, .int x5), (6, .int x6)] := hl
  unfold fX2_takeBack at hf
  obtain ⟨-, -, hf⟩ := Option.bind_eq_some_iff.mp hf
  refine lv_aload_n K.1 K.2.1 dX2_takeBack_0 rfl (lv_at hl 0 rfl) ?_
  refine lv_iload_n K.1 K.2.1 dX2_takeBack_1 rfl (lv_at hl 3 rfl) ?_
  refine lv_iload_n K.1 K.2.1 dX2_takeBack_2 rfl (lv_at hl 2 rfl) ?_
  refine lv_iload_n K.1 K.2.1 dX2_takeBack_3 rfl (lv_at hl 1 rfl) ?_
  obtain ⟨v1, ev1, hf⟩ := Option.bind_eq_some_iff.mp hf
  obtain ⟨q2, eq2⟩ := ah_this ev1
  refine ah_callV (As := [.int x3, .int x2, .int x1]) (rest := []) K hG hL hl.1 eq2 rfl (ctX2_bring l H0 D ca M z a0 x3 x2 x1 v1 ev1) hdX2_bring q_420 q_421 q_51 q_423 q_422 ⟨Nat.le_of_ble_eq_true rfl, Nat.le_of_ble_eq_true rfl⟩ rfl rfl (Nat.le_of_ble_eq_true rfl) ⟨Nat.le_refl _, Nat.le_refl _⟩ dX2_takeBack_4 (fun H locs hG hL => ?_)
  refine lv_aload_n K.1 K.2.1 dX2_takeBack_7 rfl (lv_at hl 0 rfl) ?_
  refine lv_iload K.1 K.2.1 dX2_takeBack_8 (lv_at hl 4 rfl) ?_
  refine lv_iload_n K.1 K.2.1 dX2_takeBack_10 rfl (lv_at hl 1 rfl) ?_
  refine lv_iload_n K.1 K.2.1 dX2_takeBack_11 rfl (lv_at hl 2 rfl) ?_
  obtain ⟨v3, ev3, hf⟩ := Option.bind_eq_some_iff.mp hf
  obtain ⟨q4, eq4⟩ := ah_this ev3
  refine ah_callV (As := [.int x4, .int x1, .int x2]) (rest := []) K hG hL hl.1 eq4 rfl (ctX2_bring l H0 D ca v1 z a0 x4 x1 x2 v3 ev3) hdX2_bring q_420 q_421 q_51 q_423 q_422 ⟨Nat.le_of_ble_eq_true rfl, Nat.le_of_ble_eq_true rfl⟩ rfl rfl (Nat.le_of_ble_eq_true rfl) ⟨Nat.le_refl _, Nat.le_refl _⟩ dX2_takeBack_12 (fun H locs hG hL => ?_)
  refine lv_aload_n K.1 K.2.1 dX2_takeBack_15 rfl (lv_at hl 0 rfl) ?_
  refine lv_dup K.1 K.2.1 dX2_takeBack_16 rfl ?_
  obtain ⟨v5, ev5, hf⟩ := Option.bind_eq_some_iff.mp hf
  refine ah_geti K hG ev5 ffX2_46_2 dX2_takeBack_17 ?_
  refine lv_iconst (v := 1) K.1 K.2.1 dX2_takeBack_20 (by decide) ?_
  refine lv_isub K.1 K.2.1 dX2_takeBack_21 ?_
  obtain ⟨M6, eM6, hf⟩ := Option.bind_eq_some_iff.mp hf
  refine ah_put K hG hL eM6 fwX2_46_2 rfl rfl dX2_takeBack_22 (fun H locs hG hL => ?_)
  refine lv_aload_n K.1 K.2.1 dX2_takeBack_25 rfl (lv_at hl 0 rfl) ?_
  obtain ⟨v7, ev7, hf⟩ := Option.bind_eq_some_iff.mp hf
  refine ah_getr K hG ev7 ffX2_33_2 dX2_takeBack_26 ?_
  refine lv_iload_n K.1 K.2.1 dX2_takeBack_29 rfl (lv_at hl 3 rfl) ?_
  refine lv_iload K.1 K.2.1 dX2_takeBack_30 (lv_at hl 5 rfl) ?_
  obtain ⟨M8, eM8, hf⟩ := Option.bind_eq_some_iff.mp hf
  refine ah_iast K hG hL eM8 dX2_takeBack_32 (fun H locs hG hL => ?_)
  refine lv_aload_n K.1 K.2.1 dX2_takeBack_33 rfl (lv_at hl 0 rfl) ?_
  obtain ⟨v9, ev9, hf⟩ := Option.bind_eq_some_iff.mp hf
  refine ah_getr K hG ev9 ffX2_33_2 dX2_takeBack_34 ?_
  refine lv_iload K.1 K.2.1 dX2_takeBack_37 (lv_at hl 4 rfl) ?_
  refine lv_iload K.1 K.2.1 dX2_takeBack_39 (lv_at hl 6 rfl) ?_
  obtain ⟨M10, eM10, hf⟩ := Option.bind_eq_some_iff.mp hf
  refine ah_iast K hG hL eM10 dX2_takeBack_41 (fun H locs hG hL => ?_)
  have hf := Option.some.inj hf
  subst hf
  exact ah_vret K hG hL (Nat.le_refl _) (Nat.le_refl _) dX2_takeBack_42
def fX2_speakers_37  (k5 : Nat → Int32 → Int32 → Int32 → Int32 → Option (Int32)) (M : ah_h) (a0 : Nat) (x1 : Int32) (x2 : Int32) (x3 : Int32) (x4 : Int32) : Option (Int32) := k5 a0 x1 x2 x3 (x4 + 1)
set_option maxRecDepth 100000 in
set_option maxHeartbeats 4000000 in
theorem wX2_speakers_37 {p : Program} {l : Launch} {e : Env} {s : State} {m : MethodId} {args : Array Value} {below : List Frame} {meth : Method} {c : Code} {D : va_G} {ca : Nat → ClassId} {H0 : Heap} {M : ah_h} {z : Nat} (K : ah_K p s m args meth c D ca "ShipsThatMeet$Fleet" cX2_speakers 5 (some .int))  (k5 : Nat → Int32 → Int32 → Int32 → Int32 → Option (Int32)) (hk5 : ∀ (a0 : Nat) (x1 : Int32) (x2 : Int32) (x3 : Int32) (x4 : Int32)  (H : Heap) (locs : List Loc) (ls : Array Slot), ah_g H0 D ca M z H → ah_L H0 locs → lv_has ls 5 [(0, .ref a0), (1, .int x1), (2, .int x2), (3, .int x3), (4, .int x4)] → ∀ Z, k5 a0 x1 x2 x3 x4 = some Z → W p l e { frames := 1, cells := 0, slots := 0, locals := 21 } s m args below meth c H locs 0 0 (ah_Q below args s H0 D ca 0 0 (some (.int Z)) M z) (F0 m 5 ls [])) : ∀ (a0 : Nat) (x1 : Int32) (x2 : Int32) (x3 : Int32) (x4 : Int32)  (H : Heap) (locs : List Loc) (ls : Array Slot), ah_g H0 D ca M z H → ah_L H0 locs → lv_has ls 5 [(0, .ref a0), (1, .int x1), (2, .int x2), (3, .int x3), (4, .int x4)] → ∀ Z, fX2_speakers_37  k5 M a0 x1 x2 x3 x4 = some Z → W p l e { frames := 1, cells := 0, slots := 0, locals := 21 } s m args below meth c H locs 0 0 (ah_Q below args s H0 D ca 0 0 (some (.int Z)) M z) (F0 m 37 ls []) := by
  intro a0 x1 x2 x3 x4 H locs ls hG hL hl Z hf
  unfold fX2_speakers_37 at hf
  refine lv_iinc (v := x4 + 1) (lv' := [(4, .int (x4 + 1)), (0, .ref a0), (1, .int x1), (2, .int x2), (3, .int x3)]) K.1 K.2.1 dX2_speakers_37 hl (k := 4) rfl rfl (by decide) rfl (fun ls hl => ?_)
  refine lv_goto (tgt := 5) K.1 K.2.1 dX2_speakers_40 (by decide) ?_
  exact hk5 a0 x1 x2 x3 (x4 + 1) _ _ _ hG hL (lv_sub hl [1, 2, 3, 4, 0] rfl) _ hf
def fX2_speakers_5_b   (k5 : Nat → Int32 → Int32 → Int32 → Int32 → Option (Int32)) (M : ah_h) (a0 : Nat) (x1 : Int32) (x2 : Int32) (x3 : Int32) (x4 : Int32) : Option (Int32) := (ah_gi M a0 2 1).bind fun v1 => if v1 ≤ x4 then (some x3) else ((fX10_has M x1 x4).bind fun v3 => if v3 = 0 then (fX2_speakers_37 k5 M a0 x1 x2 x3 x4) else ((ah_gr M a0 2 7).bind fun v5 => (ah_ai M v5 x4).bind fun v6 => if v6 = x2 then (fX2_speakers_37 k5 M a0 x1 x2 (x3 + 1) x4) else (fX2_speakers_37 k5 M a0 x1 x2 x3 x4)))
def fX2_speakers_5   (M : ah_h) : Nat → Nat → Int32 → Int32 → Int32 → Int32 → Option (Int32)
  | 0 => fun _ _ _ _ _ => none
  | n + 1 => fun a0 x1 x2 x3 x4 => fX2_speakers_5_b   (fX2_speakers_5   M n) M a0 x1 x2 x3 x4
set_option maxRecDepth 100000 in
set_option maxHeartbeats 4000000 in
theorem wX2_speakers_5_b {p : Program} {l : Launch} {e : Env} {s : State} {m : MethodId} {args : Array Value} {below : List Frame} {meth : Method} {c : Code} {D : va_G} {ca : Nat → ClassId} {H0 : Heap} {M : ah_h} {z : Nat} (K : ah_K p s m args meth c D ca "ShipsThatMeet$Fleet" cX2_speakers 5 (some .int))   (k5 : Nat → Int32 → Int32 → Int32 → Int32 → Option (Int32)) (hk5 : ∀ (a0 : Nat) (x1 : Int32) (x2 : Int32) (x3 : Int32) (x4 : Int32)  (H : Heap) (locs : List Loc) (ls : Array Slot), ah_g H0 D ca M z H → ah_L H0 locs → lv_has ls 5 [(0, .ref a0), (1, .int x1), (2, .int x2), (3, .int x3), (4, .int x4)] → ∀ Z, k5 a0 x1 x2 x3 x4 = some Z → W p l e { frames := 1, cells := 0, slots := 0, locals := 21 } s m args below meth c H locs 0 0 (ah_Q below args s H0 D ca 0 0 (some (.int Z)) M z) (F0 m 5 ls [])) : ∀ (a0 : Nat) (x1 : Int32) (x2 : Int32) (x3 : Int32) (x4 : Int32)  (H : Heap) (locs : List Loc) (ls : Array Slot), ah_g H0 D ca M z H → ah_L H0 locs → lv_has ls 5 [(0, .ref a0), (1, .int x1), (2, .int x2), (3, .int x3), (4, .int x4)] → ∀ Z, fX2_speakers_5_b   k5 M a0 x1 x2 x3 x4 = some Z → W p l e { frames := 1, cells := 0, slots := 0, locals := 21 } s m args below meth c H locs 0 0 (ah_Q below args s H0 D ca 0 0 (some (.int Z)) M z) (F0 m 5 ls []) := by
  intro a0 x1 x2 x3 x4 H locs ls hG hL hl Z hf
  unfold fX2_speakers_5_b at hf
  refine lv_iload K.1 K.2.1 dX2_speakers_5 (lv_at hl 4 rfl) ?_
  refine lv_aload_n K.1 K.2.1 dX2_speakers_7 rfl (lv_at hl 0 rfl) ?_
  obtain ⟨v1, ev1, hf⟩ := Option.bind_eq_some_iff.mp hf
  refine ah_geti K hG ev1 ffX2_43_2 dX2_speakers_8 ?_
  refine lv_icmp_ge (tgt := 43) K.1 K.2.1 dX2_speakers_11 (by decide) (fun h2 => ?_) (fun h2 => ?_)
  · rw [if_pos h2] at hf
    refine lv_iload_n K.1 K.2.1 dX2_speakers_43 rfl (lv_at hl 3 rfl) ?_
    have hf := Option.some.inj hf
    subst hf
    exact ah_iret K hG hL (Nat.le_refl _) (Nat.le_refl _) dX2_speakers_44
  · rw [if_neg h2] at hf
    refine lv_iload_n K.1 K.2.1 dX2_speakers_14 rfl (lv_at hl 1 rfl) ?_
    refine lv_iload K.1 K.2.1 dX2_speakers_15 (lv_at hl 4 rfl) ?_
    obtain ⟨v3, ev3, hf⟩ := Option.bind_eq_some_iff.mp hf
    refine ah_callSN (As := [.int x1, .int x4]) (rest := []) K hG hL hl.1 (ctX10_has l H0 D ca M z x1 x4 v3 ev3) hdX10_has (host := "ShipsThatMeet") (by simp [ah_nM]) q_370 q_50 q_371 ⟨Nat.le_of_ble_eq_true rfl, Nat.le_of_ble_eq_true rfl⟩ rfl rfl (Nat.le_of_ble_eq_true rfl) ⟨Nat.le_refl _, Nat.le_refl _⟩ dX2_speakers_17 (fun H locs hG hL => ?_)
    refine lv_if_eq (tgt := 37) K.1 K.2.1 dX2_speakers_20 (by decide) (fun h4 => ?_) (fun h4 => ?_)
    · rw [if_pos h4] at hf
      exact wX2_speakers_37 K k5 hk5 a0 x1 x2 x3 x4 _ _ _ hG hL (lv_sub hl [0, 1, 2, 3, 4] rfl) _ hf
    · rw [if_neg h4] at hf
      refine lv_aload_n K.1 K.2.1 dX2_speakers_23 rfl (lv_at hl 0 rfl) ?_
      obtain ⟨v5, ev5, hf⟩ := Option.bind_eq_some_iff.mp hf
      refine ah_getr K hG ev5 ffX2_30_2 dX2_speakers_24 ?_
      refine lv_iload K.1 K.2.1 dX2_speakers_27 (lv_at hl 4 rfl) ?_
      obtain ⟨v6, ev6, hf⟩ := Option.bind_eq_some_iff.mp hf
      refine ah_iald K hG ev6 dX2_speakers_29 ?_
      refine lv_iload_n K.1 K.2.1 dX2_speakers_30 rfl (lv_at hl 2 rfl) ?_
      refine lv_icmp_ne (tgt := 37) K.1 K.2.1 dX2_speakers_31 (by decide) (fun h7 => ?_) (fun h7 => ?_)
      · rw [if_neg h7] at hf
        exact wX2_speakers_37 K k5 hk5 a0 x1 x2 x3 x4 _ _ _ hG hL (lv_sub hl [0, 1, 2, 3, 4] rfl) _ hf
      · rw [if_pos h7] at hf
        refine lv_iinc (v := x3 + 1) (lv' := [(3, .int (x3 + 1)), (0, .ref a0), (1, .int x1), (2, .int x2), (4, .int x4)]) K.1 K.2.1 dX2_speakers_34 hl (k := 3) rfl rfl (by decide) rfl (fun ls hl => ?_)
        exact wX2_speakers_37 K k5 hk5 a0 x1 x2 (x3 + 1) x4 _ _ _ hG hL (lv_sub hl [1, 2, 3, 0, 4] rfl) _ hf
theorem wX2_speakers_5 {p : Program} {l : Launch} {e : Env} {s : State} {m : MethodId} {args : Array Value} {below : List Frame} {meth : Method} {c : Code} {D : va_G} {ca : Nat → ClassId} {H0 : Heap} {M : ah_h} {z : Nat} (K : ah_K p s m args meth c D ca "ShipsThatMeet$Fleet" cX2_speakers 5 (some .int))   (n : Nat) : ∀ (a0 : Nat) (x1 : Int32) (x2 : Int32) (x3 : Int32) (x4 : Int32)  (H : Heap) (locs : List Loc) (ls : Array Slot), ah_g H0 D ca M z H → ah_L H0 locs → lv_has ls 5 [(0, .ref a0), (1, .int x1), (2, .int x2), (3, .int x3), (4, .int x4)] → ∀ Z, fX2_speakers_5   M n a0 x1 x2 x3 x4 = some Z → W p l e { frames := 1, cells := 0, slots := 0, locals := 21 } s m args below meth c H locs 0 0 (ah_Q below args s H0 D ca 0 0 (some (.int Z)) M z) (F0 m 5 ls []) := by
  induction n with
  | zero => intro a0 x1 x2 x3 x4 H locs ls hG hL hl Z hf; cases hf
  | succ n ih => exact wX2_speakers_5_b K  _ ih
def fX2_speakers (M : ah_h) (a0 : Nat) (x1 : Int32) (x2 : Int32) : Option (Int32) := (ah_ob M a0 2).bind fun _ => fX2_speakers_5 M ah_fu a0 x1 x2 0 0
set_option maxRecDepth 100000 in
set_option maxHeartbeats 4000000 in
theorem ctX2_speakers (l : Launch) (H0 : Heap) (D : va_G) (ca : Nat → ClassId) (M : ah_h) (z : Nat) (a0 : Nat) (x1 : Int32) (x2 : Int32) (Z : Int32) (hf : fX2_speakers M a0 x1 x2 = some Z) : ah_ct l H0 D ca yX2_speakers cX2_speakers 5 (some .int) 1 21 0 0 [.ref a0, .int x1, .int x2] M z (some (.int Z)) M z := by
  refine ah_of (by decide) (Nat.le_of_ble_eq_true rfl) ?_
  intro p e s m below meth c ls hin K hG hl
  have hL : ah_L H0 [] := ah_L.nil
  have hl : lv_has ls 5 [(0, .ref a0), (1, .int x1), (2, .int x2)] := hl
  unfold fX2_speakers at hf
  obtain ⟨-, -, hf⟩ := Option.bind_eq_some_iff.mp hf
  refine lv_iconst (v := 0) K.1 K.2.1 dX2_speakers_0 (by decide) ?_
  refine lv_istore_n (lv' := [(3, .int 0), (0, .ref a0), (1, .int x1), (2, .int x2)]) K.1 K.2.1 dX2_speakers_1 rfl hl (by decide) rfl (fun ls hl => ?_)
  refine lv_iconst (v := 0) K.1 K.2.1 dX2_speakers_2 (by decide) ?_
  refine lv_istore (lv' := [(4, .int 0), (3, .int 0), (0, .ref a0), (1, .int x1), (2, .int x2)]) K.1 K.2.1 dX2_speakers_3 hl (by decide) rfl (fun ls hl => ?_)
  exact wX2_speakers_5 K  ah_fu a0 x1 x2 0 0 _ _ _ hG hL (lv_sub hl [2, 3, 4, 1, 0] rfl) _ hf
def fX2_mostAboard_4_b   (k4 : Nat → Int32 → Int32 → Option (Int32)) (M : ah_h) (a0 : Nat) (x1 : Int32) (x2 : Int32) : Option (Int32) := (ah_gi M a0 2 0).bind fun v1 => if v1 ≤ x2 then (some x1) else ((ah_gr M a0 2 4).bind fun v3 => (ah_ai M v3 x2).bind fun v4 => (fJ6_bitCount_0f7a4 M v4).bind fun v5 => k4 a0 (if x1 < v5 then v5 else x1) (x2 + 1))
def fX2_mostAboard_4   (M : ah_h) : Nat → Nat → Int32 → Int32 → Option (Int32)
  | 0 => fun _ _ _ => none
  | n + 1 => fun a0 x1 x2 => fX2_mostAboard_4_b   (fX2_mostAboard_4   M n) M a0 x1 x2
set_option maxRecDepth 100000 in
set_option maxHeartbeats 4000000 in
theorem wX2_mostAboard_4_b {p : Program} {l : Launch} {e : Env} {s : State} {m : MethodId} {args : Array Value} {below : List Frame} {meth : Method} {c : Code} {D : va_G} {ca : Nat → ClassId} {H0 : Heap} {M : ah_h} {z : Nat} (K : ah_K p s m args meth c D ca "ShipsThatMeet$Fleet" cX2_mostAboard 3 (some .int))   (k4 : Nat → Int32 → Int32 → Option (Int32)) (hk4 : ∀ (a0 : Nat) (x1 : Int32) (x2 : Int32)  (H : Heap) (locs : List Loc) (ls : Array Slot), ah_g H0 D ca M z H → ah_L H0 locs → lv_has ls 3 [(0, .ref a0), (1, .int x1), (2, .int x2)] → ∀ Z, k4 a0 x1 x2 = some Z → W p l e { frames := 1, cells := 0, slots := 0, locals := 24 } s m args below meth c H locs 0 0 (ah_Q below args s H0 D ca 0 0 (some (.int Z)) M z) (F0 m 4 ls [])) : ∀ (a0 : Nat) (x1 : Int32) (x2 : Int32)  (H : Heap) (locs : List Loc) (ls : Array Slot), ah_g H0 D ca M z H → ah_L H0 locs → lv_has ls 3 [(0, .ref a0), (1, .int x1), (2, .int x2)] → ∀ Z, fX2_mostAboard_4_b   k4 M a0 x1 x2 = some Z → W p l e { frames := 1, cells := 0, slots := 0, locals := 24 } s m args below meth c H locs 0 0 (ah_Q below args s H0 D ca 0 0 (some (.int Z)) M z) (F0 m 4 ls []) := by
  intro a0 x1 x2 H locs ls hG hL hl Z hf
  unfold fX2_mostAboard_4_b at hf
  refine lv_iload_n K.1 K.2.1 dX2_mostAboard_4 rfl (lv_at hl 2 rfl) ?_
  refine lv_aload_n K.1 K.2.1 dX2_mostAboard_5 rfl (lv_at hl 0 rfl) ?_
  obtain ⟨v1, ev1, hf⟩ := Option.bind_eq_some_iff.mp hf
  refine ah_geti K hG ev1 ffX2_39_2 dX2_mostAboard_6 ?_
  refine lv_icmp_ge (tgt := 32) K.1 K.2.1 dX2_mostAboard_9 (by decide) (fun h2 => ?_) (fun h2 => ?_)
  · rw [if_pos h2] at hf
    refine lv_iload_n K.1 K.2.1 dX2_mostAboard_32 rfl (lv_at hl 1 rfl) ?_
    have hf := Option.some.inj hf
    subst hf
    exact ah_iret K hG hL (Nat.le_refl _) (Nat.le_refl _) dX2_mostAboard_33
  · rw [if_neg h2] at hf
    refine lv_iload_n K.1 K.2.1 dX2_mostAboard_12 rfl (lv_at hl 1 rfl) ?_
    refine lv_aload_n K.1 K.2.1 dX2_mostAboard_13 rfl (lv_at hl 0 rfl) ?_
    obtain ⟨v3, ev3, hf⟩ := Option.bind_eq_some_iff.mp hf
    refine ah_getr K hG ev3 ffX2_20_2 dX2_mostAboard_14 ?_
    refine lv_iload_n K.1 K.2.1 dX2_mostAboard_17 rfl (lv_at hl 2 rfl) ?_
    obtain ⟨v4, ev4, hf⟩ := Option.bind_eq_some_iff.mp hf
    refine ah_iald K hG ev4 dX2_mostAboard_18 ?_
    obtain ⟨v5, ev5, hf⟩ := Option.bind_eq_some_iff.mp hf
    refine ah_callS (As := [.int v4]) (rest := [.int x1]) K hG hL hl.1 (ctJ6_bitCount_0f7a4 l H0 D ca M z v4 v5 ev5) hdJ6_bitCount_0f7a4 q_495 q_389 q_62 q_390 ⟨Nat.le_of_ble_eq_true rfl, Nat.le_of_ble_eq_true rfl⟩ rfl rfl (Nat.le_of_ble_eq_true rfl) ⟨Nat.le_refl _, Nat.le_refl _⟩ dX2_mostAboard_19 (fun H locs hG hL => ?_)
    refine va_mmax K.1 K.2.1 (K.2.2.1.trans hl.1.symm) K.2.2.2.1 (K.2.2.2.2.1 _ q_665) (K.2.2.2.2.1 _ q_552) (K.2.2.2.2.1 _ q_63) (K.2.2.2.2.1 _ q_553) (Nat.le_of_ble_eq_true rfl) (Nat.le_of_ble_eq_true rfl) (Nat.le_of_ble_eq_true rfl) (Nat.le_of_ble_eq_true rfl) dX2_mostAboard_22 ?_
    refine lv_istore_n (lv' := [(1, .int (if x1 < v5 then v5 else x1)), (0, .ref a0), (2, .int x2)]) K.1 K.2.1 dX2_mostAboard_25 rfl hl (by decide) rfl (fun ls hl => ?_)
    refine lv_iinc (v := x2 + 1) (lv' := [(2, .int (x2 + 1)), (1, .int (if x1 < v5 then v5 else x1)), (0, .ref a0)]) K.1 K.2.1 dX2_mostAboard_26 hl (k := 2) rfl rfl (by decide) rfl (fun ls hl => ?_)
    refine lv_goto (tgt := 4) K.1 K.2.1 dX2_mostAboard_29 (by decide) ?_
    exact hk4 a0 (if x1 < v5 then v5 else x1) (x2 + 1) _ _ _ hG hL (lv_sub hl [2, 1, 0] rfl) _ hf
theorem wX2_mostAboard_4 {p : Program} {l : Launch} {e : Env} {s : State} {m : MethodId} {args : Array Value} {below : List Frame} {meth : Method} {c : Code} {D : va_G} {ca : Nat → ClassId} {H0 : Heap} {M : ah_h} {z : Nat} (K : ah_K p s m args meth c D ca "ShipsThatMeet$Fleet" cX2_mostAboard 3 (some .int))   (n : Nat) : ∀ (a0 : Nat) (x1 : Int32) (x2 : Int32)  (H : Heap) (locs : List Loc) (ls : Array Slot), ah_g H0 D ca M z H → ah_L H0 locs → lv_has ls 3 [(0, .ref a0), (1, .int x1), (2, .int x2)] → ∀ Z, fX2_mostAboard_4   M n a0 x1 x2 = some Z → W p l e { frames := 1, cells := 0, slots := 0, locals := 24 } s m args below meth c H locs 0 0 (ah_Q below args s H0 D ca 0 0 (some (.int Z)) M z) (F0 m 4 ls []) := by
  induction n with
  | zero => intro a0 x1 x2 H locs ls hG hL hl Z hf; cases hf
  | succ n ih => exact wX2_mostAboard_4_b K  _ ih
def fX2_mostAboard (M : ah_h) (a0 : Nat) : Option (Int32) := (ah_ob M a0 2).bind fun _ => fX2_mostAboard_4 M ah_fu a0 0 0
set_option maxRecDepth 100000 in
set_option maxHeartbeats 4000000 in
theorem ctX2_mostAboard (l : Launch) (H0 : Heap) (D : va_G) (ca : Nat → ClassId) (M : ah_h) (z : Nat) (a0 : Nat) (Z : Int32) (hf : fX2_mostAboard M a0 = some Z) : ah_ct l H0 D ca yX2_mostAboard cX2_mostAboard 3 (some .int) 1 24 0 0 [.ref a0] M z (some (.int Z)) M z := by
  refine ah_of (by decide) (Nat.le_of_ble_eq_true rfl) ?_
  intro p e s m below meth c ls hin K hG hl
  have hL : ah_L H0 [] := ah_L.nil
  have hl : lv_has ls 3 [(0, .ref a0)] := hl
  unfold fX2_mostAboard at hf
  obtain ⟨-, -, hf⟩ := Option.bind_eq_some_iff.mp hf
  refine lv_iconst (v := 0) K.1 K.2.1 dX2_mostAboard_0 (by decide) ?_
  refine lv_istore_n (lv' := [(1, .int 0), (0, .ref a0)]) K.1 K.2.1 dX2_mostAboard_1 rfl hl (by decide) rfl (fun ls hl => ?_)
  refine lv_iconst (v := 0) K.1 K.2.1 dX2_mostAboard_2 (by decide) ?_
  refine lv_istore_n (lv' := [(2, .int 0), (1, .int 0), (0, .ref a0)]) K.1 K.2.1 dX2_mostAboard_3 rfl hl (by decide) rfl (fun ls hl => ?_)
  exact wX2_mostAboard_4 K  ah_fu a0 0 0 _ _ _ hG hL (lv_sub hl [2, 1, 0] rfl) _ hf
def fX3_init (M : ah_h) (a0 : Nat) (x1 : Int32) : Option (ah_h) := (fX6_init M a0 7 x1).bind fun v1 => some v1
set_option maxRecDepth 100000 in
set_option maxHeartbeats 4000000 in
theorem ctX3_init (l : Launch) (H0 : Heap) (D : va_G) (ca : Nat → ClassId) (M : ah_h) (z : Nat) (a0 : Nat) (x1 : Int32) (Z : ah_h) (hf : fX3_init M a0 x1 = some Z) : ah_ct l H0 D ca yX3_init cX3_init 2 none 4 86 0 0 [.ref a0, .int x1] M z none Z z := by
  refine ah_of (by decide) (Nat.le_of_ble_eq_true rfl) ?_
  intro p e s m below meth c ls hin K hG hl
  have hL : ah_L H0 [] := ah_L.nil
  have hl : lv_has ls 2 [(0, .ref a0), (1, .int x1)] := hl
  unfold fX3_init at hf
  refine lv_aload_n K.1 K.2.1 dX3_init_0 rfl (lv_at hl 0 rfl) ?_
  refine lv_bipush (v := 7) K.1 K.2.1 dX3_init_1 (by decide) ?_
  refine lv_iload_n K.1 K.2.1 dX3_init_3 rfl (lv_at hl 1 rfl) ?_
  obtain ⟨v1, ev1, hf⟩ := Option.bind_eq_some_iff.mp hf
  refine ah_callI (As := [.int 7, .int x1]) (rest := []) K hG hL hl.1 (ctX6_init l H0 D ca M z a0 7 x1 v1 ev1) rfl hdX6_init q_318 q_280 q_57 q_281 ⟨Nat.le_of_ble_eq_true rfl, Nat.le_of_ble_eq_true rfl⟩ rfl rfl (Nat.le_of_ble_eq_true rfl) ⟨Nat.le_refl _, Nat.le_refl _⟩ dX3_init_4 (fun H locs hG hL => ?_)
  have hf := Option.some.inj hf
  subst hf
  exact ah_vret K hG hL (Nat.le_refl _) (Nat.le_refl _) dX3_init_7
def fX3_wages (M : ah_h) (a0 : Nat) : Option (Int32) := (ah_oc M a0).bind fun q2 => (fX6_wages M a0).bind fun v1 => (ah_gc M a0 1).bind fun v3 => some (v1 + v3)
set_option maxRecDepth 100000 in
set_option maxHeartbeats 4000000 in
theorem ctX3_wages (l : Launch) (H0 : Heap) (D : va_G) (ca : Nat → ClassId) (M : ah_h) (z : Nat) (a0 : Nat) (Z : Int32) (hf : fX3_wages M a0 = some Z) : ah_ct l H0 D ca yX3_wages cX3_wages 1 (some .int) 3 60 0 0 [.ref a0] M z (some (.int Z)) M z := by
  refine ah_of (by decide) (Nat.le_of_ble_eq_true rfl) ?_
  intro p e s m below meth c ls hin K hG hl
  have hL : ah_L H0 [] := ah_L.nil
  have hl : lv_has ls 1 [(0, .ref a0)] := hl
  unfold fX3_wages at hf
  refine lv_aload_n K.1 K.2.1 dX3_wages_0 rfl (lv_at hl 0 rfl) ?_
  obtain ⟨q2, eq2, hf⟩ := Option.bind_eq_some_iff.mp hf
  obtain ⟨v1, ev1, hf⟩ := Option.bind_eq_some_iff.mp hf
  refine ah_callUC (n := 0) (As := []) (rest := []) K hG hL hl.1 eq2 (ctX6_wages l H0 D ca M z a0 v1 ev1) (by decide +kernel) q_725 q_726 q_57 q_727 q_1277 q_321 ⟨Nat.le_of_ble_eq_true rfl, Nat.le_of_ble_eq_true rfl⟩ rfl rfl (Nat.le_of_ble_eq_true rfl) ⟨Nat.le_refl _, Nat.le_refl _⟩ dX3_wages_1 (fun H locs hG hL => ?_)
  refine lv_aload_n K.1 K.2.1 dX3_wages_4 rfl (lv_at hl 0 rfl) ?_
  obtain ⟨v3, ev3, hf⟩ := Option.bind_eq_some_iff.mp hf
  refine ah_getc K hG ev3 ffX3_7_c dX3_wages_5 ?_
  refine lv_iadd K.1 K.2.1 dX3_wages_8 ?_
  have hf := Option.some.inj hf
  subst hf
  exact ah_iret K hG hL (Nat.le_refl _) (Nat.le_refl _) dX3_wages_9
def fX3_worthOfFailure (M : ah_h) (a0 : Nat) : Option (Int32) := (ah_ob M a0 3).bind fun q2 => (fX3_wages M a0).bind fun v1 => some (200 + v1)
set_option maxRecDepth 100000 in
set_option maxHeartbeats 4000000 in
theorem ctX3_worthOfFailure (l : Launch) (H0 : Heap) (D : va_G) (ca : Nat → ClassId) (M : ah_h) (z : Nat) (a0 : Nat) (Z : Int32) (hf : fX3_worthOfFailure M a0 = some Z) : ah_ct l H0 D ca yX3_worthOfFailure cX3_worthOfFailure 1 (some .int) 4 80 0 0 [.ref a0] M z (some (.int Z)) M z := by
  refine ah_of (by decide) (Nat.le_of_ble_eq_true rfl) ?_
  intro p e s m below meth c ls hin K hG hl
  have hL : ah_L H0 [] := ah_L.nil
  have hl : lv_has ls 1 [(0, .ref a0)] := hl
  unfold fX3_worthOfFailure at hf
  refine lv_sipush (v := 200) K.1 K.2.1 dX3_worthOfFailure_0 (by decide) ?_
  refine lv_aload_n K.1 K.2.1 dX3_worthOfFailure_3 rfl (lv_at hl 0 rfl) ?_
  obtain ⟨q2, eq2, hf⟩ := Option.bind_eq_some_iff.mp hf
  obtain ⟨v1, ev1, hf⟩ := Option.bind_eq_some_iff.mp hf
  refine ah_callV (As := []) (rest := [.int 200]) K hG hL hl.1 (ah_ob_some eq2) rfl (ctX3_wages l H0 D ca M z a0 v1 ev1) hdX3_wages q_843 q_723 q_61 q_724 q_1280 ⟨Nat.le_of_ble_eq_true rfl, Nat.le_of_ble_eq_true rfl⟩ rfl rfl (Nat.le_of_ble_eq_true rfl) ⟨Nat.le_refl _, Nat.le_refl _⟩ dX3_worthOfFailure_4 (fun H locs hG hL => ?_)
  refine lv_iadd K.1 K.2.1 dX3_worthOfFailure_7 ?_
  have hf := Option.some.inj hf
  subst hf
  exact ah_iret K hG hL (Nat.le_refl _) (Nat.le_refl _) dX3_worthOfFailure_8
def fX4_gift_52  (k25 : Int32 → Int32 → Int32 → Option (Int32)) (M : ah_h) (x2 : Int32) (x4 : Int32) (x5 : Int32) : Option (Int32) := k25 x2 x4 (x5 + 1)
set_option maxRecDepth 100000 in
set_option maxHeartbeats 4000000 in
theorem wX4_gift_52 {p : Program} {l : Launch} {e : Env} {s : State} {m : MethodId} {args : Array Value} {below : List Frame} {meth : Method} {c : Code} {D : va_G} {ca : Nat → ClassId} {H0 : Heap} {M : ah_h} {z : Nat} (K : ah_K p s m args meth c D ca "ShipsThatMeet$Lot" cX4_gift 6 (some .int))  (k25 : Int32 → Int32 → Int32 → Option (Int32)) (hk25 : ∀ (x2 : Int32) (x4 : Int32) (x5 : Int32)  (H : Heap) (locs : List Loc) (ls : Array Slot), ah_g H0 D ca M z H → ah_L H0 locs → lv_has ls 6 [(2, .int x2), (4, .int x4), (5, .int x5)] → ∀ Z, k25 x2 x4 x5 = some Z → W p l e { frames := 1, cells := 0, slots := 0, locals := 21 } s m args below meth c H locs 0 0 (ah_Q below args s H0 D ca 0 0 (some (.int Z)) M z) (F0 m 25 ls [])) : ∀ (x2 : Int32) (x4 : Int32) (x5 : Int32)  (H : Heap) (locs : List Loc) (ls : Array Slot), ah_g H0 D ca M z H → ah_L H0 locs → lv_has ls 6 [(2, .int x2), (4, .int x4), (5, .int x5)] → ∀ Z, fX4_gift_52  k25 M x2 x4 x5 = some Z → W p l e { frames := 1, cells := 0, slots := 0, locals := 21 } s m args below meth c H locs 0 0 (ah_Q below args s H0 D ca 0 0 (some (.int Z)) M z) (F0 m 52 ls []) := by
  intro x2 x4 x5 H locs ls hG hL hl Z hf
  unfold fX4_gift_52 at hf
  refine lv_iinc (v := x5 + 1) (lv' := [(5, .int (x5 + 1)), (2, .int x2), (4, .int x4)]) K.1 K.2.1 dX4_gift_52 hl (k := 2) rfl rfl (by decide) rfl (fun ls hl => ?_)
  refine lv_goto (tgt := 25) K.1 K.2.1 dX4_gift_55 (by decide) ?_
  exact hk25 x2 x4 (x5 + 1) _ _ _ hG hL (lv_sub hl [1, 2, 0] rfl) _ hf
def fX4_gift_25_b   (k25 : Int32 → Int32 → Int32 → Option (Int32)) (M : ah_h) (x2 : Int32) (x4 : Int32) (x5 : Int32) : Option (Int32) := if 12 ≤ x5 then (some (-4)) else ((fX10_has M x2 x5).bind fun v2 => if v2 = 0 then (fX4_gift_52 k25 M x2 x4 x5) else (if x4 = 0 then (some x5) else (fX4_gift_52 k25 M x2 (x4 + (-1)) x5)))
def fX4_gift_25   (M : ah_h) : Nat → Int32 → Int32 → Int32 → Option (Int32)
  | 0 => fun _ _ _ => none
  | n + 1 => fun x2 x4 x5 => fX4_gift_25_b   (fX4_gift_25   M n) M x2 x4 x5
set_option maxRecDepth 100000 in
set_option maxHeartbeats 4000000 in
theorem wX4_gift_25_b {p : Program} {l : Launch} {e : Env} {s : State} {m : MethodId} {args : Array Value} {below : List Frame} {meth : Method} {c : Code} {D : va_G} {ca : Nat → ClassId} {H0 : Heap} {M : ah_h} {z : Nat} (K : ah_K p s m args meth c D ca "ShipsThatMeet$Lot" cX4_gift 6 (some .int))   (k25 : Int32 → Int32 → Int32 → Option (Int32)) (hk25 : ∀ (x2 : Int32) (x4 : Int32) (x5 : Int32)  (H : Heap) (locs : List Loc) (ls : Array Slot), ah_g H0 D ca M z H → ah_L H0 locs → lv_has ls 6 [(2, .int x2), (4, .int x4), (5, .int x5)] → ∀ Z, k25 x2 x4 x5 = some Z → W p l e { frames := 1, cells := 0, slots := 0, locals := 21 } s m args below meth c H locs 0 0 (ah_Q below args s H0 D ca 0 0 (some (.int Z)) M z) (F0 m 25 ls [])) : ∀ (x2 : Int32) (x4 : Int32) (x5 : Int32)  (H : Heap) (locs : List Loc) (ls : Array Slot), ah_g H0 D ca M z H → ah_L H0 locs → lv_has ls 6 [(2, .int x2), (4, .int x4), (5, .int x5)] → ∀ Z, fX4_gift_25_b   k25 M x2 x4 x5 = some Z → W p l e { frames := 1, cells := 0, slots := 0, locals := 21 } s m args below meth c H locs 0 0 (ah_Q below args s H0 D ca 0 0 (some (.int Z)) M z) (F0 m 25 ls []) := by
  intro x2 x4 x5 H locs ls hG hL hl Z hf
  unfold fX4_gift_25_b at hf
  refine lv_iload K.1 K.2.1 dX4_gift_25 (lv_at hl 2 rfl) ?_
  refine lv_bipush (v := 12) K.1 K.2.1 dX4_gift_27 (by decide) ?_
  refine lv_icmp_ge (tgt := 58) K.1 K.2.1 dX4_gift_29 (by decide) (fun h1 => ?_) (fun h1 => ?_)
  · rw [if_pos h1] at hf
    refine lv_bipush (v := (-4)) K.1 K.2.1 dX4_gift_58 (by decide) ?_
    have hf := Option.some.inj hf
    subst hf
    exact ah_iret K hG hL (Nat.le_refl _) (Nat.le_refl _) dX4_gift_60
  · rw [if_neg h1] at hf
    refine lv_iload_n K.1 K.2.1 dX4_gift_32 rfl (lv_at hl 0 rfl) ?_
    refine lv_iload K.1 K.2.1 dX4_gift_33 (lv_at hl 2 rfl) ?_
    obtain ⟨v2, ev2, hf⟩ := Option.bind_eq_some_iff.mp hf
    refine ah_callSN (As := [.int x2, .int x5]) (rest := []) K hG hL hl.1 (ctX10_has l H0 D ca M z x2 x5 v2 ev2) hdX10_has (host := "ShipsThatMeet") (by simp [ah_nM]) q_370 q_50 q_371 ⟨Nat.le_of_ble_eq_true rfl, Nat.le_of_ble_eq_true rfl⟩ rfl rfl (Nat.le_of_ble_eq_true rfl) ⟨Nat.le_refl _, Nat.le_refl _⟩ dX4_gift_35 (fun H locs hG hL => ?_)
    refine lv_if_eq (tgt := 52) K.1 K.2.1 dX4_gift_38 (by decide) (fun h3 => ?_) (fun h3 => ?_)
    · rw [if_pos h3] at hf
      exact wX4_gift_52 K k25 hk25 x2 x4 x5 _ _ _ hG hL (lv_sub hl [0, 1, 2] rfl) _ hf
    · rw [if_neg h3] at hf
      refine lv_iload K.1 K.2.1 dX4_gift_41 (lv_at hl 1 rfl) ?_
      refine lv_if_ne (tgt := 49) K.1 K.2.1 dX4_gift_43 (by decide) (fun h4 => ?_) (fun h4 => ?_)
      · rw [if_neg h4] at hf
        refine lv_iinc (v := x4 + (-1)) (lv' := [(4, .int (x4 + (-1))), (2, .int x2), (5, .int x5)]) K.1 K.2.1 dX4_gift_49 hl (k := 1) rfl rfl (by decide) rfl (fun ls hl => ?_)
        exact wX4_gift_52 K k25 hk25 x2 (x4 + (-1)) x5 _ _ _ hG hL (lv_sub hl [1, 0, 2] rfl) _ hf
      · rw [if_pos h4] at hf
        refine lv_iload K.1 K.2.1 dX4_gift_46 (lv_at hl 2 rfl) ?_
        have hf := Option.some.inj hf
        subst hf
        exact ah_iret K hG hL (Nat.le_refl _) (Nat.le_refl _) dX4_gift_48
theorem wX4_gift_25 {p : Program} {l : Launch} {e : Env} {s : State} {m : MethodId} {args : Array Value} {below : List Frame} {meth : Method} {c : Code} {D : va_G} {ca : Nat → ClassId} {H0 : Heap} {M : ah_h} {z : Nat} (K : ah_K p s m args meth c D ca "ShipsThatMeet$Lot" cX4_gift 6 (some .int))   (n : Nat) : ∀ (x2 : Int32) (x4 : Int32) (x5 : Int32)  (H : Heap) (locs : List Loc) (ls : Array Slot), ah_g H0 D ca M z H → ah_L H0 locs → lv_has ls 6 [(2, .int x2), (4, .int x4), (5, .int x5)] → ∀ Z, fX4_gift_25   M n x2 x4 x5 = some Z → W p l e { frames := 1, cells := 0, slots := 0, locals := 21 } s m args below meth c H locs 0 0 (ah_Q below args s H0 D ca 0 0 (some (.int Z)) M z) (F0 m 25 ls []) := by
  induction n with
  | zero => intro x2 x4 x5 H locs ls hG hL hl Z hf; cases hf
  | succ n ih => exact wX4_gift_25_b K  _ ih
def fX4_gift_20   (M : ah_h) (x2 : Int32) (s0 : Int32) : Option (Int32) := fX4_gift_25 M ah_fu x2 s0 0
set_option maxRecDepth 100000 in
set_option maxHeartbeats 4000000 in
theorem wX4_gift_20 {p : Program} {l : Launch} {e : Env} {s : State} {m : MethodId} {args : Array Value} {below : List Frame} {meth : Method} {c : Code} {D : va_G} {ca : Nat → ClassId} {H0 : Heap} {M : ah_h} {z : Nat} (K : ah_K p s m args meth c D ca "ShipsThatMeet$Lot" cX4_gift 6 (some .int))   : ∀ (x2 : Int32) (s0 : Int32)  (H : Heap) (locs : List Loc) (ls : Array Slot), ah_g H0 D ca M z H → ah_L H0 locs → lv_has ls 6 [(2, .int x2)] → ∀ Z, fX4_gift_20   M x2 s0 = some Z → W p l e { frames := 1, cells := 0, slots := 0, locals := 21 } s m args below meth c H locs 0 0 (ah_Q below args s H0 D ca 0 0 (some (.int Z)) M z) (F0 m 20 ls [.int s0]) := by
  intro x2 s0 H locs ls hG hL hl Z hf
  unfold fX4_gift_20 at hf
  refine lv_istore (lv' := [(4, .int s0), (2, .int x2)]) K.1 K.2.1 dX4_gift_20 hl (by decide) rfl (fun ls hl => ?_)
  refine lv_iconst (v := 0) K.1 K.2.1 dX4_gift_22 (by decide) ?_
  refine lv_istore (lv' := [(5, .int 0), (4, .int s0), (2, .int x2)]) K.1 K.2.1 dX4_gift_23 hl (by decide) rfl (fun ls hl => ?_)
  exact wX4_gift_25 K  ah_fu x2 s0 0 _ _ _ hG hL (lv_sub hl [2, 1, 0] rfl) _ hf
def fX4_gift (M : ah_h) (a0 : Nat) (x1 : Nat) (x2 : Int32) : Option (Int32) := (fJ6_bitCount_0f7a4 M x2).bind fun v1 => if 1 ≤ v1 then ((ah_gc M a0 1).bind fun v3 => if v1 = 0 then none else fX4_gift_20 M x2 (v3 - v3 / v1 * v1)) else (fX4_gift_20 M x2 0)
set_option maxRecDepth 100000 in
set_option maxHeartbeats 4000000 in
theorem ctX4_gift (l : Launch) (H0 : Heap) (D : va_G) (ca : Nat → ClassId) (M : ah_h) (z : Nat) (a0 : Nat) (x1 : Nat) (x2 : Int32) (Z : Int32) (hf : fX4_gift M a0 x1 x2 = some Z) : ah_ct l H0 D ca yX4_gift cX4_gift 6 (some .int) 1 21 0 0 [.ref a0, .ref x1, .int x2] M z (some (.int Z)) M z := by
  refine ah_of (by decide) (Nat.le_of_ble_eq_true rfl) ?_
  intro p e s m below meth c ls hin K hG hl
  have hL : ah_L H0 [] := ah_L.nil
  have hl : lv_has ls 6 [(0, .ref a0), (1, .ref x1), (2, .int x2)] := hl
  unfold fX4_gift at hf
  refine lv_iload_n K.1 K.2.1 dX4_gift_0 rfl (lv_at hl 2 rfl) ?_
  obtain ⟨v1, ev1, hf⟩ := Option.bind_eq_some_iff.mp hf
  refine ah_callS (As := [.int x2]) (rest := []) K hG hL hl.1 (ctJ6_bitCount_0f7a4 l H0 D ca M z x2 v1 ev1) hdJ6_bitCount_0f7a4 q_388 q_389 q_62 q_390 ⟨Nat.le_of_ble_eq_true rfl, Nat.le_of_ble_eq_true rfl⟩ rfl rfl (Nat.le_of_ble_eq_true rfl) ⟨Nat.le_refl _, Nat.le_refl _⟩ dX4_gift_1 (fun H locs hG hL => ?_)
  refine lv_istore_n (lv' := [(3, .int v1), (0, .ref a0), (1, .ref x1), (2, .int x2)]) K.1 K.2.1 dX4_gift_4 rfl hl (by decide) rfl (fun ls hl => ?_)
  refine lv_iload_n K.1 K.2.1 dX4_gift_5 rfl (lv_at hl 0 rfl) ?_
  refine lv_iconst (v := 1) K.1 K.2.1 dX4_gift_6 (by decide) ?_
  refine lv_icmp_ge (tgt := 14) K.1 K.2.1 dX4_gift_7 (by decide) (fun h2 => ?_) (fun h2 => ?_)
  · rw [if_pos h2] at hf
    refine lv_aload_n K.1 K.2.1 dX4_gift_14 rfl (lv_at hl 1 rfl) ?_
    obtain ⟨v3, ev3, hf⟩ := Option.bind_eq_some_iff.mp hf
    refine ah_getc K hG ev3 ffX4_15_c dX4_gift_15 ?_
    refine lv_iload_n K.1 K.2.1 dX4_gift_18 rfl (lv_at hl 0 rfl) ?_
    by_cases h4 : v1 = 0
    · rw [if_pos h4] at hf; cases hf
    rw [if_neg h4] at hf
    refine lv_irem K.1 K.2.1 dX4_gift_19 h4 ?_
    exact wX4_gift_20 K  x2 (v3 - v3 / v1 * v1) _ _ _ hG hL (lv_sub hl [3] rfl) _ hf
  · rw [if_neg h2] at hf
    refine lv_iconst (v := 0) K.1 K.2.1 dX4_gift_10 (by decide) ?_
    refine lv_goto (tgt := 20) K.1 K.2.1 dX4_gift_11 (by decide) ?_
    exact wX4_gift_20 K  x2 0 _ _ _ hG hL (lv_sub hl [3] rfl) _ hf
def fX5_gift_45  (k6 : Nat → Int32 → Int32 → Int32 → Option (Int32)) (M : ah_h) (a1 : Nat) (x2 : Int32) (x3 : Int32) (x4 : Int32) : Option (Int32) := k6 a1 x2 x3 (x4 + 1)
set_option maxRecDepth 100000 in
set_option maxHeartbeats 4000000 in
theorem wX5_gift_45 {p : Program} {l : Launch} {e : Env} {s : State} {m : MethodId} {args : Array Value} {below : List Frame} {meth : Method} {c : Code} {D : va_G} {ca : Nat → ClassId} {H0 : Heap} {M : ah_h} {z : Nat} (K : ah_K p s m args meth c D ca "ShipsThatMeet$New" cX5_gift 5 (some .int))  (k6 : Nat → Int32 → Int32 → Int32 → Option (Int32)) (hk6 : ∀ (a1 : Nat) (x2 : Int32) (x3 : Int32) (x4 : Int32)  (H : Heap) (locs : List Loc) (ls : Array Slot), ah_g H0 D ca M z H → ah_L H0 locs → lv_has ls 5 [(1, .ref a1), (2, .int x2), (3, .int x3), (4, .int x4)] → ∀ Z, k6 a1 x2 x3 x4 = some Z → W p l e { frames := 1, cells := 0, slots := 0, locals := 21 } s m args below meth c H locs 0 0 (ah_Q below args s H0 D ca 0 0 (some (.int Z)) M z) (F0 m 6 ls [])) : ∀ (a1 : Nat) (x2 : Int32) (x3 : Int32) (x4 : Int32)  (H : Heap) (locs : List Loc) (ls : Array Slot), ah_g H0 D ca M z H → ah_L H0 locs → lv_has ls 5 [(1, .ref a1), (2, .int x2), (3, .int x3), (4, .int x4)] → ∀ Z, fX5_gift_45  k6 M a1 x2 x3 x4 = some Z → W p l e { frames := 1, cells := 0, slots := 0, locals := 21 } s m args below meth c H locs 0 0 (ah_Q below args s H0 D ca 0 0 (some (.int Z)) M z) (F0 m 45 ls []) := by
  intro a1 x2 x3 x4 H locs ls hG hL hl Z hf
  unfold fX5_gift_45 at hf
  refine lv_iinc (v := x4 + 1) (lv' := [(4, .int (x4 + 1)), (1, .ref a1), (2, .int x2), (3, .int x3)]) K.1 K.2.1 dX5_gift_45 hl (k := 3) rfl rfl (by decide) rfl (fun ls hl => ?_)
  refine lv_goto (tgt := 6) K.1 K.2.1 dX5_gift_48 (by decide) ?_
  exact hk6 a1 x2 x3 (x4 + 1) _ _ _ hG hL (lv_sub hl [1, 2, 3, 0] rfl) _ hf
def fX5_gift_42  (k6 : Nat → Int32 → Int32 → Int32 → Option (Int32)) (M : ah_h) (a1 : Nat) (x2 : Int32) (x4 : Int32) : Option (Int32) := fX5_gift_45 k6 M a1 x2 x4 x4
set_option maxRecDepth 100000 in
set_option maxHeartbeats 4000000 in
theorem wX5_gift_42 {p : Program} {l : Launch} {e : Env} {s : State} {m : MethodId} {args : Array Value} {below : List Frame} {meth : Method} {c : Code} {D : va_G} {ca : Nat → ClassId} {H0 : Heap} {M : ah_h} {z : Nat} (K : ah_K p s m args meth c D ca "ShipsThatMeet$New" cX5_gift 5 (some .int))  (k6 : Nat → Int32 → Int32 → Int32 → Option (Int32)) (hk6 : ∀ (a1 : Nat) (x2 : Int32) (x3 : Int32) (x4 : Int32)  (H : Heap) (locs : List Loc) (ls : Array Slot), ah_g H0 D ca M z H → ah_L H0 locs → lv_has ls 5 [(1, .ref a1), (2, .int x2), (3, .int x3), (4, .int x4)] → ∀ Z, k6 a1 x2 x3 x4 = some Z → W p l e { frames := 1, cells := 0, slots := 0, locals := 21 } s m args below meth c H locs 0 0 (ah_Q below args s H0 D ca 0 0 (some (.int Z)) M z) (F0 m 6 ls [])) : ∀ (a1 : Nat) (x2 : Int32) (x4 : Int32)  (H : Heap) (locs : List Loc) (ls : Array Slot), ah_g H0 D ca M z H → ah_L H0 locs → lv_has ls 5 [(1, .ref a1), (2, .int x2), (4, .int x4)] → ∀ Z, fX5_gift_42  k6 M a1 x2 x4 = some Z → W p l e { frames := 1, cells := 0, slots := 0, locals := 21 } s m args below meth c H locs 0 0 (ah_Q below args s H0 D ca 0 0 (some (.int Z)) M z) (F0 m 42 ls []) := by
  intro a1 x2 x4 H locs ls hG hL hl Z hf
  unfold fX5_gift_42 at hf
  refine lv_iload K.1 K.2.1 dX5_gift_42 (lv_at hl 2 rfl) ?_
  refine lv_istore_n (lv' := [(3, .int x4), (1, .ref a1), (2, .int x2), (4, .int x4)]) K.1 K.2.1 dX5_gift_44 rfl hl (by decide) rfl (fun ls hl => ?_)
  exact wX5_gift_45 K k6 hk6 a1 x2 x4 x4 _ _ _ hG hL (lv_sub hl [1, 2, 0, 3] rfl) _ hf
def fX5_gift_6_b   (k6 : Nat → Int32 → Int32 → Int32 → Option (Int32)) (M : ah_h) (a1 : Nat) (x2 : Int32) (x3 : Int32) (x4 : Int32) : Option (Int32) := if 12 ≤ x4 then (some x3) else ((fX10_has M x2 x4).bind fun v2 => if v2 = 0 then (fX5_gift_45 k6 M a1 x2 x3 x4) else (if x3 < 0 then (fX5_gift_42 k6 M a1 x2 x4) else ((ah_gr M a1 2 8).bind fun v5 => (ah_ai M v5 x4).bind fun v6 => (ah_gr M a1 2 8).bind fun v7 => (ah_ai M v7 x3).bind fun v8 => if v6 < v8 then (fX5_gift_45 k6 M a1 x2 x3 x4) else (fX5_gift_42 k6 M a1 x2 x4))))
def fX5_gift_6   (M : ah_h) : Nat → Nat → Int32 → Int32 → Int32 → Option (Int32)
  | 0 => fun _ _ _ _ => none
  | n + 1 => fun a1 x2 x3 x4 => fX5_gift_6_b   (fX5_gift_6   M n) M a1 x2 x3 x4
set_option maxRecDepth 100000 in
set_option maxHeartbeats 4000000 in
theorem wX5_gift_6_b {p : Program} {l : Launch} {e : Env} {s : State} {m : MethodId} {args : Array Value} {below : List Frame} {meth : Method} {c : Code} {D : va_G} {ca : Nat → ClassId} {H0 : Heap} {M : ah_h} {z : Nat} (K : ah_K p s m args meth c D ca "ShipsThatMeet$New" cX5_gift 5 (some .int))   (k6 : Nat → Int32 → Int32 → Int32 → Option (Int32)) (hk6 : ∀ (a1 : Nat) (x2 : Int32) (x3 : Int32) (x4 : Int32)  (H : Heap) (locs : List Loc) (ls : Array Slot), ah_g H0 D ca M z H → ah_L H0 locs → lv_has ls 5 [(1, .ref a1), (2, .int x2), (3, .int x3), (4, .int x4)] → ∀ Z, k6 a1 x2 x3 x4 = some Z → W p l e { frames := 1, cells := 0, slots := 0, locals := 21 } s m args below meth c H locs 0 0 (ah_Q below args s H0 D ca 0 0 (some (.int Z)) M z) (F0 m 6 ls [])) : ∀ (a1 : Nat) (x2 : Int32) (x3 : Int32) (x4 : Int32)  (H : Heap) (locs : List Loc) (ls : Array Slot), ah_g H0 D ca M z H → ah_L H0 locs → lv_has ls 5 [(1, .ref a1), (2, .int x2), (3, .int x3), (4, .int x4)] → ∀ Z, fX5_gift_6_b   k6 M a1 x2 x3 x4 = some Z → W p l e { frames := 1, cells := 0, slots := 0, locals := 21 } s m args below meth c H locs 0 0 (ah_Q below args s H0 D ca 0 0 (some (.int Z)) M z) (F0 m 6 ls []) := by
  intro a1 x2 x3 x4 H locs ls hG hL hl Z hf
  unfold fX5_gift_6_b at hf
  refine lv_iload K.1 K.2.1 dX5_gift_6 (lv_at hl 3 rfl) ?_
  refine lv_bipush (v := 12) K.1 K.2.1 dX5_gift_8 (by decide) ?_
  refine lv_icmp_ge (tgt := 51) K.1 K.2.1 dX5_gift_10 (by decide) (fun h1 => ?_) (fun h1 => ?_)
  · rw [if_pos h1] at hf
    refine lv_iload_n K.1 K.2.1 dX5_gift_51 rfl (lv_at hl 2 rfl) ?_
    have hf := Option.some.inj hf
    subst hf
    exact ah_iret K hG hL (Nat.le_refl _) (Nat.le_refl _) dX5_gift_52
  · rw [if_neg h1] at hf
    refine lv_iload_n K.1 K.2.1 dX5_gift_13 rfl (lv_at hl 1 rfl) ?_
    refine lv_iload K.1 K.2.1 dX5_gift_14 (lv_at hl 3 rfl) ?_
    obtain ⟨v2, ev2, hf⟩ := Option.bind_eq_some_iff.mp hf
    refine ah_callSN (As := [.int x2, .int x4]) (rest := []) K hG hL hl.1 (ctX10_has l H0 D ca M z x2 x4 v2 ev2) hdX10_has (host := "ShipsThatMeet") (by simp [ah_nM]) q_370 q_50 q_371 ⟨Nat.le_of_ble_eq_true rfl, Nat.le_of_ble_eq_true rfl⟩ rfl rfl (Nat.le_of_ble_eq_true rfl) ⟨Nat.le_refl _, Nat.le_refl _⟩ dX5_gift_16 (fun H locs hG hL => ?_)
    refine lv_if_eq (tgt := 45) K.1 K.2.1 dX5_gift_19 (by decide) (fun h3 => ?_) (fun h3 => ?_)
    · rw [if_pos h3] at hf
      exact wX5_gift_45 K k6 hk6 a1 x2 x3 x4 _ _ _ hG hL (lv_sub hl [0, 1, 2, 3] rfl) _ hf
    · rw [if_neg h3] at hf
      refine lv_iload_n K.1 K.2.1 dX5_gift_22 rfl (lv_at hl 2 rfl) ?_
      refine lv_if_lt (tgt := 42) K.1 K.2.1 dX5_gift_23 (by decide) (fun h4 => ?_) (fun h4 => ?_)
      · rw [if_pos h4] at hf
        exact wX5_gift_42 K k6 hk6 a1 x2 x4 _ _ _ hG hL (lv_sub hl [0, 1, 3] rfl) _ hf
      · rw [if_neg h4] at hf
        refine lv_aload_n K.1 K.2.1 dX5_gift_26 rfl (lv_at hl 0 rfl) ?_
        obtain ⟨v5, ev5, hf⟩ := Option.bind_eq_some_iff.mp hf
        refine ah_getr K hG ev5 ffX5_13_2 dX5_gift_27 ?_
        refine lv_iload K.1 K.2.1 dX5_gift_30 (lv_at hl 3 rfl) ?_
        obtain ⟨v6, ev6, hf⟩ := Option.bind_eq_some_iff.mp hf
        refine ah_iald K hG ev6 dX5_gift_32 ?_
        refine lv_aload_n K.1 K.2.1 dX5_gift_33 rfl (lv_at hl 0 rfl) ?_
        obtain ⟨v7, ev7, hf⟩ := Option.bind_eq_some_iff.mp hf
        refine ah_getr K hG ev7 ffX5_13_2 dX5_gift_34 ?_
        refine lv_iload_n K.1 K.2.1 dX5_gift_37 rfl (lv_at hl 2 rfl) ?_
        obtain ⟨v8, ev8, hf⟩ := Option.bind_eq_some_iff.mp hf
        refine ah_iald K hG ev8 dX5_gift_38 ?_
        refine lv_icmp_lt (tgt := 45) K.1 K.2.1 dX5_gift_39 (by decide) (fun h9 => ?_) (fun h9 => ?_)
        · rw [if_pos h9] at hf
          exact wX5_gift_45 K k6 hk6 a1 x2 x3 x4 _ _ _ hG hL (lv_sub hl [0, 1, 2, 3] rfl) _ hf
        · rw [if_neg h9] at hf
          exact wX5_gift_42 K k6 hk6 a1 x2 x4 _ _ _ hG hL (lv_sub hl [0, 1, 3] rfl) _ hf
theorem wX5_gift_6 {p : Program} {l : Launch} {e : Env} {s : State} {m : MethodId} {args : Array Value} {below : List Frame} {meth : Method} {c : Code} {D : va_G} {ca : Nat → ClassId} {H0 : Heap} {M : ah_h} {z : Nat} (K : ah_K p s m args meth c D ca "ShipsThatMeet$New" cX5_gift 5 (some .int))   (n : Nat) : ∀ (a1 : Nat) (x2 : Int32) (x3 : Int32) (x4 : Int32)  (H : Heap) (locs : List Loc) (ls : Array Slot), ah_g H0 D ca M z H → ah_L H0 locs → lv_has ls 5 [(1, .ref a1), (2, .int x2), (3, .int x3), (4, .int x4)] → ∀ Z, fX5_gift_6   M n a1 x2 x3 x4 = some Z → W p l e { frames := 1, cells := 0, slots := 0, locals := 21 } s m args below meth c H locs 0 0 (ah_Q below args s H0 D ca 0 0 (some (.int Z)) M z) (F0 m 6 ls []) := by
  induction n with
  | zero => intro a1 x2 x3 x4 H locs ls hG hL hl Z hf; cases hf
  | succ n ih => exact wX5_gift_6_b K  _ ih
def fX5_gift (M : ah_h) (a0 : Nat) (x1 : Nat) (x2 : Int32) : Option (Int32) := fX5_gift_6 M ah_fu x1 x2 (-4) 0
set_option maxRecDepth 100000 in
set_option maxHeartbeats 4000000 in
theorem ctX5_gift (l : Launch) (H0 : Heap) (D : va_G) (ca : Nat → ClassId) (M : ah_h) (z : Nat) (a0 : Nat) (x1 : Nat) (x2 : Int32) (Z : Int32) (hf : fX5_gift M a0 x1 x2 = some Z) : ah_ct l H0 D ca yX5_gift cX5_gift 5 (some .int) 1 21 0 0 [.ref a0, .ref x1, .int x2] M z (some (.int Z)) M z := by
  refine ah_of (by decide) (Nat.le_of_ble_eq_true rfl) ?_
  intro p e s m below meth c ls hin K hG hl
  have hL : ah_L H0 [] := ah_L.nil
  have hl : lv_has ls 5 [(0, .ref a0), (1, .ref x1), (2, .int x2)] := hl
  unfold fX5_gift at hf
  refine lv_bipush (v := (-4)) K.1 K.2.1 dX5_gift_0 (by decide) ?_
  refine lv_istore_n (lv' := [(3, .int (-4)), (0, .ref a0), (1, .ref x1), (2, .int x2)]) K.1 K.2.1 dX5_gift_2 rfl hl (by decide) rfl (fun ls hl => ?_)
  refine lv_iconst (v := 0) K.1 K.2.1 dX5_gift_3 (by decide) ?_
  refine lv_istore (lv' := [(4, .int 0), (3, .int (-4)), (0, .ref a0), (1, .ref x1), (2, .int x2)]) K.1 K.2.1 dX5_gift_4 hl (by decide) rfl (fun ls hl => ?_)
  exact wX5_gift_6 K  ah_fu x1 x2 (-4) 0 _ _ _ hG hL (lv_sub hl [3, 4, 1, 0] rfl) _ hf
