-- X10_faultOfGifts X10_fleet X10_judge
def fX10_faultOfGifts (M : ah_h) (x0 : Nat) (x1 : Nat) (x2 : Int32) : Option (Int32) := (fX7_at M x1 x2).bind fun v1 => (fX7_at M x1 (x2 + 1)).bind fun v3 => (fX2_canMeet M x0 v1 v3).bind fun v5 => if v5 = 0 then (some x2) else ((fX7_at M x1 (x2 + 2)).bind fun v8 => (fX2_giver M x0 v1).bind fun v10 => if v8 = v10 then ((fX7_at M x1 (x2 + 3)).bind fun v13 => (fX2_giver M x0 v3).bind fun v15 => if v13 = v15 then (some (-4)) else (some (x2 + 3))) else (some (x2 + 2)))
set_option maxRecDepth 100000 in
set_option maxHeartbeats 4000000 in
theorem ctX10_faultOfGifts (l : Launch) (H0 : Heap) (D : va_G) (ca : Nat → ClassId) (M : ah_h) (z : Nat) (x0 : Nat) (x1 : Nat) (x2 : Int32) (Z : Int32) (hf : fX10_faultOfGifts M x0 x1 x2 = some Z) : ah_ct l H0 D ca yX10_faultOfGifts cX10_faultOfGifts 5 (some .int) 4 93 0 0 [.ref x0, .ref x1, .int x2] M z (some (.int Z)) M z := by
  refine ah_of (by decide) (Nat.le_of_ble_eq_true rfl) ?_
  intro p e s m below meth c ls hin K hG hl
  have hL : ah_L H0 [] := ah_L.nil
  have hl : lv_has ls 5 [(0, .ref x0), (1, .ref x1), (2, .int x2)] := hl
  unfold fX10_faultOfGifts at hf
  refine lv_aload_n K.1 K.2.1 dX10_faultOfGifts_0 rfl (lv_at hl 1 rfl) ?_
  refine lv_iload_n K.1 K.2.1 dX10_faultOfGifts_1 rfl (lv_at hl 2 rfl) ?_
  obtain ⟨v1, ev1, hf⟩ := Option.bind_eq_some_iff.mp hf
  obtain ⟨q2, eq2⟩ := ah_this ev1
  refine ah_callV (As := [.int x2]) (rest := []) K hG hL hl.1 eq2 rfl (ctX7_at l H0 D ca M z x1 x2 v1 ev1) hdX7_at q_232 q_233 q_53 q_235 q_234 ⟨Nat.le_of_ble_eq_true rfl, Nat.le_of_ble_eq_true rfl⟩ rfl rfl (Nat.le_of_ble_eq_true rfl) ⟨Nat.le_refl _, Nat.le_refl _⟩ dX10_faultOfGifts_2 (fun H locs hG hL => ?_)
  refine lv_istore_n (lv' := [(3, .int v1), (0, .ref x0), (1, .ref x1), (2, .int x2)]) K.1 K.2.1 dX10_faultOfGifts_5 rfl hl (by decide) rfl (fun ls hl => ?_)
  refine lv_aload_n K.1 K.2.1 dX10_faultOfGifts_6 rfl (lv_at hl 2 rfl) ?_
  refine lv_iload_n K.1 K.2.1 dX10_faultOfGifts_7 rfl (lv_at hl 3 rfl) ?_
  refine lv_iconst (v := 1) K.1 K.2.1 dX10_faultOfGifts_8 (by decide) ?_
  refine lv_iadd K.1 K.2.1 dX10_faultOfGifts_9 ?_
  obtain ⟨v3, ev3, hf⟩ := Option.bind_eq_some_iff.mp hf
  obtain ⟨q4, eq4⟩ := ah_this ev3
  refine ah_callV (As := [.int (x2 + 1)]) (rest := []) K hG hL hl.1 eq4 rfl (ctX7_at l H0 D ca M z x1 (x2 + 1) v3 ev3) hdX7_at q_232 q_233 q_53 q_235 q_234 ⟨Nat.le_of_ble_eq_true rfl, Nat.le_of_ble_eq_true rfl⟩ rfl rfl (Nat.le_of_ble_eq_true rfl) ⟨Nat.le_refl _, Nat.le_refl _⟩ dX10_faultOfGifts_10 (fun H locs hG hL => ?_)
  refine lv_istore (lv' := [(4, .int v3), (3, .int v1), (0, .ref x0), (1, .ref x1), (2, .int x2)]) K.1 K.2.1 dX10_faultOfGifts_13 hl (by decide) rfl (fun ls hl => ?_)
  refine lv_aload_n K.1 K.2.1 dX10_faultOfGifts_15 rfl (lv_at hl 2 rfl) ?_
  refine lv_iload_n K.1 K.2.1 dX10_faultOfGifts_16 rfl (lv_at hl 1 rfl) ?_
  refine lv_iload K.1 K.2.1 dX10_faultOfGifts_17 (lv_at hl 0 rfl) ?_
  obtain ⟨v5, ev5, hf⟩ := Option.bind_eq_some_iff.mp hf
  obtain ⟨q6, eq6⟩ := ah_this ev5
  refine ah_callV (As := [.int v1, .int v3]) (rest := []) K hG hL hl.1 eq6 rfl (ctX2_canMeet l H0 D ca M z x0 v1 v3 v5 ev5) hdX2_canMeet q_449 q_345 q_51 q_347 q_346 ⟨Nat.le_of_ble_eq_true rfl, Nat.le_of_ble_eq_true rfl⟩ rfl rfl (Nat.le_of_ble_eq_true rfl) ⟨Nat.le_refl _, Nat.le_refl _⟩ dX10_faultOfGifts_19 (fun H locs hG hL => ?_)
  refine lv_if_ne (tgt := 27) K.1 K.2.1 dX10_faultOfGifts_22 (by decide) (fun h7 => ?_) (fun h7 => ?_)
  · rw [if_neg h7] at hf
    refine lv_aload_n K.1 K.2.1 dX10_faultOfGifts_27 rfl (lv_at hl 3 rfl) ?_
    refine lv_iload_n K.1 K.2.1 dX10_faultOfGifts_28 rfl (lv_at hl 4 rfl) ?_
    refine lv_iconst (v := 2) K.1 K.2.1 dX10_faultOfGifts_29 (by decide) ?_
    refine lv_iadd K.1 K.2.1 dX10_faultOfGifts_30 ?_
    obtain ⟨v8, ev8, hf⟩ := Option.bind_eq_some_iff.mp hf
    obtain ⟨q9, eq9⟩ := ah_this ev8
    refine ah_callV (As := [.int (x2 + 2)]) (rest := []) K hG hL hl.1 eq9 rfl (ctX7_at l H0 D ca M z x1 (x2 + 2) v8 ev8) hdX7_at q_232 q_233 q_53 q_235 q_234 ⟨Nat.le_of_ble_eq_true rfl, Nat.le_of_ble_eq_true rfl⟩ rfl rfl (Nat.le_of_ble_eq_true rfl) ⟨Nat.le_refl _, Nat.le_refl _⟩ dX10_faultOfGifts_31 (fun H locs hG hL => ?_)
    refine lv_aload_n K.1 K.2.1 dX10_faultOfGifts_34 rfl (lv_at hl 2 rfl) ?_
    refine lv_iload_n K.1 K.2.1 dX10_faultOfGifts_35 rfl (lv_at hl 1 rfl) ?_
    obtain ⟨v10, ev10, hf⟩ := Option.bind_eq_some_iff.mp hf
    obtain ⟨q11, eq11⟩ := ah_this ev10
    refine ah_callV (As := [.int v1]) (rest := [.int v8]) K hG hL hl.1 eq11 rfl (ctX2_giver l H0 D ca M z x0 v1 v10 ev10) hdX2_giver q_430 q_353 q_51 q_355 q_354 ⟨Nat.le_of_ble_eq_true rfl, Nat.le_of_ble_eq_true rfl⟩ rfl rfl (Nat.le_of_ble_eq_true rfl) ⟨Nat.le_refl _, Nat.le_refl _⟩ dX10_faultOfGifts_36 (fun H locs hG hL => ?_)
    refine lv_icmp_eq (tgt := 46) K.1 K.2.1 dX10_faultOfGifts_39 (by decide) (fun h12 => ?_) (fun h12 => ?_)
    · rw [if_pos h12] at hf
      refine lv_aload_n K.1 K.2.1 dX10_faultOfGifts_46 rfl (lv_at hl 3 rfl) ?_
      refine lv_iload_n K.1 K.2.1 dX10_faultOfGifts_47 rfl (lv_at hl 4 rfl) ?_
      refine lv_iconst (v := 3) K.1 K.2.1 dX10_faultOfGifts_48 (by decide) ?_
      refine lv_iadd K.1 K.2.1 dX10_faultOfGifts_49 ?_
      obtain ⟨v13, ev13, hf⟩ := Option.bind_eq_some_iff.mp hf
      obtain ⟨q14, eq14⟩ := ah_this ev13
      refine ah_callV (As := [.int (x2 + 3)]) (rest := []) K hG hL hl.1 eq14 rfl (ctX7_at l H0 D ca M z x1 (x2 + 3) v13 ev13) hdX7_at q_232 q_233 q_53 q_235 q_234 ⟨Nat.le_of_ble_eq_true rfl, Nat.le_of_ble_eq_true rfl⟩ rfl rfl (Nat.le_of_ble_eq_true rfl) ⟨Nat.le_refl _, Nat.le_refl _⟩ dX10_faultOfGifts_50 (fun H locs hG hL => ?_)
      refine lv_aload_n K.1 K.2.1 dX10_faultOfGifts_53 rfl (lv_at hl 2 rfl) ?_
      refine lv_iload K.1 K.2.1 dX10_faultOfGifts_54 (lv_at hl 0 rfl) ?_
      obtain ⟨v15, ev15, hf⟩ := Option.bind_eq_some_iff.mp hf
      obtain ⟨q16, eq16⟩ := ah_this ev15
      refine ah_callV (As := [.int v3]) (rest := [.int v13]) K hG hL hl.1 eq16 rfl (ctX2_giver l H0 D ca M z x0 v3 v15 ev15) hdX2_giver q_430 q_353 q_51 q_355 q_354 ⟨Nat.le_of_ble_eq_true rfl, Nat.le_of_ble_eq_true rfl⟩ rfl rfl (Nat.le_of_ble_eq_true rfl) ⟨Nat.le_refl _, Nat.le_refl _⟩ dX10_faultOfGifts_56 (fun H locs hG hL => ?_)
      refine lv_icmp_ne (tgt := 67) K.1 K.2.1 dX10_faultOfGifts_59 (by decide) (fun h17 => ?_) (fun h17 => ?_)
      · rw [if_neg h17] at hf
        refine lv_iload_n K.1 K.2.1 dX10_faultOfGifts_67 rfl (lv_at hl 4 rfl) ?_
        refine lv_iconst (v := 3) K.1 K.2.1 dX10_faultOfGifts_68 (by decide) ?_
        refine lv_iadd K.1 K.2.1 dX10_faultOfGifts_69 ?_
        have hf := Option.some.inj hf
        subst hf
        exact ah_iret K hG hL (Nat.le_refl _) (Nat.le_refl _) dX10_faultOfGifts_70
      · rw [if_pos h17] at hf
        refine lv_bipush (v := (-4)) K.1 K.2.1 dX10_faultOfGifts_62 (by decide) ?_
        refine lv_goto (tgt := 70) K.1 K.2.1 dX10_faultOfGifts_64 (by decide) ?_
        have hf := Option.some.inj hf
        subst hf
        exact ah_iret K hG hL (Nat.le_refl _) (Nat.le_refl _) dX10_faultOfGifts_70
    · rw [if_neg h12] at hf
      refine lv_iload_n K.1 K.2.1 dX10_faultOfGifts_42 rfl (lv_at hl 4 rfl) ?_
      refine lv_iconst (v := 2) K.1 K.2.1 dX10_faultOfGifts_43 (by decide) ?_
      refine lv_iadd K.1 K.2.1 dX10_faultOfGifts_44 ?_
      have hf := Option.some.inj hf
      subst hf
      exact ah_iret K hG hL (Nat.le_refl _) (Nat.le_refl _) dX10_faultOfGifts_45
  · rw [if_pos h7] at hf
    refine lv_iload_n K.1 K.2.1 dX10_faultOfGifts_25 rfl (lv_at hl 4 rfl) ?_
    have hf := Option.some.inj hf
    subst hf
    exact ah_iret K hG hL (Nat.le_refl _) (Nat.le_refl _) dX10_faultOfGifts_26
def fX10_fleet_54_b   (k54 : ah_h → Nat → Nat → Nat → Int32 → Int32 → Option (Int32 × ah_h × Nat))  (M : ah_h) (z : Nat) (a0 : Nat) (a3 : Nat) (x5 : Int32) (x6 : Int32) : Option (Int32 × ah_h × Nat) := (ah_gi M a3 7 2).bind fun v1 => if v1 ≤ x6 then ((ah_gr M a0 10 0).bind fun v3 => (ah_gr M a0 10 1).bind fun v4 => (fX2_become M v3 v4).bind fun v5 => some (x5, v5, z)) else ((ah_gr M a0 10 1).bind fun v7 => (fX10_isCarriedOut M z v7 a3 x6).bind fun v8 => if v8.1 = 0 then (some ((-2000) - x6, v8.2.1, v8.2.2)) else ((fX7_at v8.2.1 a3 x6).bind fun v10 => (fX10_signsBehind v8.2.1 v10).bind fun v12 => k54 v8.2.1 v8.2.2 a0 a3 (x5 + 1) (x6 + (1 + v12))))
def fX10_fleet_54    : Nat → ah_h → Nat → Nat → Nat → Int32 → Int32 → Option (Int32 × ah_h × Nat)
  | 0 => fun _ _ _ _ _ _ => none
  | n + 1 => fun M z a0 a3 x5 x6 => fX10_fleet_54_b   (fX10_fleet_54    n)  M z a0 a3 x5 x6
set_option maxRecDepth 100000 in
set_option maxHeartbeats 4000000 in
theorem wX10_fleet_54_b {p : Program} {l : Launch} {e : Env} {s : State} {m : MethodId} {args : Array Value} {below : List Frame} {meth : Method} {c : Code} {D : va_G} {ca : Nat → ClassId} {H0 : Heap}  (K : ah_K p s m args meth c D ca "ShipsThatMeet" cX10_fleet 7 (some .int))   {n54 : Nat} (k54 : ah_h → Nat → Nat → Nat → Int32 → Int32 → Option (Int32 × ah_h × Nat)) (hk54 : ∀ (M : ah_h) (z : Nat) (a0 : Nat) (a3 : Nat) (x5 : Int32) (x6 : Int32) (cells slots : Nat), cells + n54 * 1 ≤ 300 → slots + n54 * 2 ≤ 600 → ∀ (H : Heap) (locs : List Loc) (ls : Array Slot), ah_g H0 D ca M z H → ah_L H0 locs → lv_has ls 7 [(0, .ref a0), (3, .ref a3), (5, .int x5), (6, .int x6)] → ∀ Z, k54 M z a0 a3 x5 x6 = some Z → W p l e { frames := 7, cells := 300, slots := 600, locals := 152 } s m args below meth c H locs cells slots (ah_Q below args s H0 D ca 300 600 (some (.int Z.1)) Z.2.1 Z.2.2) (F0 m 54 ls [])) : ∀ (M : ah_h) (z : Nat) (a0 : Nat) (a3 : Nat) (x5 : Int32) (x6 : Int32) (cells slots : Nat), cells + (n54 + 1) * 1 ≤ 300 → slots + (n54 + 1) * 2 ≤ 600 → ∀ (H : Heap) (locs : List Loc) (ls : Array Slot), ah_g H0 D ca M z H → ah_L H0 locs → lv_has ls 7 [(0, .ref a0), (3, .ref a3), (5, .int x5), (6, .int x6)] → ∀ Z, fX10_fleet_54_b   k54  M z a0 a3 x5 x6 = some Z → W p l e { frames := 7, cells := 300, slots := 600, locals := 152 } s m args below meth c H locs cells slots (ah_Q below args s H0 D ca 300 600 (some (.int Z.1)) Z.2.1 Z.2.2) (F0 m 54 ls []) := by
  intro M z a0 a3 x5 x6 cells slots hc hs H locs ls hG hL hl Z hf
  unfold fX10_fleet_54_b at hf
  refine lv_iload K.1 K.2.1 dX10_fleet_54 (lv_at hl 3 rfl) ?_
  refine lv_aload_n K.1 K.2.1 dX10_fleet_56 rfl (lv_at hl 1 rfl) ?_
  obtain ⟨v1, ev1, hf⟩ := Option.bind_eq_some_iff.mp hf
  refine ah_geti K hG ev1 ffX10_58_7 dX10_fleet_57 ?_
  refine lv_icmp_ge (tgt := 105) K.1 K.2.1 dX10_fleet_60 (by decide) (fun h2 => ?_) (fun h2 => ?_)
  · rw [if_pos h2] at hf
    refine lv_aload_n K.1 K.2.1 dX10_fleet_105 rfl (lv_at hl 0 rfl) ?_
    obtain ⟨v3, ev3, hf⟩ := Option.bind_eq_some_iff.mp hf
    refine ah_getr K hG ev3 ffX10_10_10 dX10_fleet_106 ?_
    refine lv_aload_n K.1 K.2.1 dX10_fleet_109 rfl (lv_at hl 0 rfl) ?_
    obtain ⟨v4, ev4, hf⟩ := Option.bind_eq_some_iff.mp hf
    refine ah_getr K hG ev4 ffX10_16_10 dX10_fleet_110 ?_
    obtain ⟨v5, ev5, hf⟩ := Option.bind_eq_some_iff.mp hf
    obtain ⟨q6, eq6⟩ := ah_this ev5
    refine ah_callV (As := [.ref v4]) (rest := []) K hG hL hl.1 eq6 rfl (ctX2_become l H0 D ca M z v3 v4 v5 ev5) hdX2_become q_243 q_244 q_51 q_246 q_245 ⟨Nat.le_of_ble_eq_true rfl, Nat.le_of_ble_eq_true rfl⟩ rfl rfl (Nat.le_of_ble_eq_true rfl) ⟨by show _ ≤ 300; omega, by show _ ≤ 600; omega⟩ dX10_fleet_113 (fun H locs hG hL => ?_)
    refine lv_iload K.1 K.2.1 dX10_fleet_116 (lv_at hl 2 rfl) ?_
    have hf := Option.some.inj hf
    subst hf
    exact ah_iret K hG hL (by omega) (by omega) dX10_fleet_118
  · rw [if_neg h2] at hf
    refine lv_aload_n K.1 K.2.1 dX10_fleet_63 rfl (lv_at hl 0 rfl) ?_
    obtain ⟨v7, ev7, hf⟩ := Option.bind_eq_some_iff.mp hf
    refine ah_getr K hG ev7 ffX10_16_10 dX10_fleet_64 ?_
    refine lv_aload_n K.1 K.2.1 dX10_fleet_67 rfl (lv_at hl 1 rfl) ?_
    refine lv_iload K.1 K.2.1 dX10_fleet_68 (lv_at hl 3 rfl) ?_
    obtain ⟨v8, ev8, hf⟩ := Option.bind_eq_some_iff.mp hf
    refine ah_callS (As := [.ref v7, .ref a3, .int x6]) (rest := []) K hG hL hl.1 (ctX10_isCarriedOut l H0 D ca M z v7 a3 x6 v8 ev8) hdX10_isCarriedOut q_247 q_248 q_50 q_249 ⟨Nat.le_of_ble_eq_true rfl, Nat.le_of_ble_eq_true rfl⟩ rfl rfl (Nat.le_of_ble_eq_true rfl) ⟨by show _ ≤ 300; omega, by show _ ≤ 600; omega⟩ dX10_fleet_70 (fun H locs hG hL => ?_)
    refine lv_if_ne (tgt := 83) K.1 K.2.1 dX10_fleet_73 (by decide) (fun h9 => ?_) (fun h9 => ?_)
    · rw [if_neg h9] at hf
      refine lv_iinc (v := x5 + 1) (lv' := [(5, .int (x5 + 1)), (0, .ref a0), (3, .ref a3), (6, .int x6)]) K.1 K.2.1 dX10_fleet_83 hl (k := 2) rfl rfl (by decide) rfl (fun ls hl => ?_)
      refine lv_iload K.1 K.2.1 dX10_fleet_86 (lv_at hl 3 rfl) ?_
      refine lv_iconst (v := 1) K.1 K.2.1 dX10_fleet_88 (by decide) ?_
      refine lv_aload_n K.1 K.2.1 dX10_fleet_89 rfl (lv_at hl 2 rfl) ?_
      refine lv_iload K.1 K.2.1 dX10_fleet_90 (lv_at hl 3 rfl) ?_
      obtain ⟨v10, ev10, hf⟩ := Option.bind_eq_some_iff.mp hf
      obtain ⟨q11, eq11⟩ := ah_this ev10
      refine ah_callV (As := [.int x6]) (rest := [.int 1, .int x6]) K hG hL hl.1 eq11 rfl (ctX7_at l H0 D ca v8.2.1 v8.2.2 a3 x6 v10 ev10) hdX7_at q_232 q_233 q_53 q_235 q_234 ⟨Nat.le_of_ble_eq_true rfl, Nat.le_of_ble_eq_true rfl⟩ rfl rfl (Nat.le_of_ble_eq_true rfl) ⟨by show _ ≤ 300; omega, by show _ ≤ 600; omega⟩ dX10_fleet_92 (fun H locs hG hL => ?_)
      obtain ⟨v12, ev12, hf⟩ := Option.bind_eq_some_iff.mp hf
      refine ah_callS (As := [.int v10]) (rest := [.int 1, .int x6]) K hG hL hl.1 (ctX10_signsBehind l H0 D ca v8.2.1 v8.2.2 v10 v12 ev12) hdX10_signsBehind q_240 q_241 q_50 q_242 ⟨Nat.le_of_ble_eq_true rfl, Nat.le_of_ble_eq_true rfl⟩ rfl rfl (Nat.le_of_ble_eq_true rfl) ⟨by show _ ≤ 300; omega, by show _ ≤ 600; omega⟩ dX10_fleet_95 (fun H locs hG hL => ?_)
      refine lv_iadd K.1 K.2.1 dX10_fleet_98 ?_
      refine lv_iadd K.1 K.2.1 dX10_fleet_99 ?_
      refine lv_istore (lv' := [(6, .int (x6 + (1 + v12))), (5, .int (x5 + 1)), (0, .ref a0), (3, .ref a3)]) K.1 K.2.1 dX10_fleet_100 hl (by decide) rfl (fun ls hl => ?_)
      refine lv_goto (tgt := 54) K.1 K.2.1 dX10_fleet_102 (by decide) ?_
      exact hk54 v8.2.1 v8.2.2 a0 a3 (x5 + 1) (x6 + (1 + v12)) _ _ (by omega) (by omega) _ _ _ hG hL (lv_sub hl [2, 3, 1, 0] rfl) _ hf
    · rw [if_pos h9] at hf
      refine lv_sipush (v := (-2000)) K.1 K.2.1 dX10_fleet_76 (by decide) ?_
      refine lv_iload K.1 K.2.1 dX10_fleet_79 (lv_at hl 3 rfl) ?_
      refine lv_isub K.1 K.2.1 dX10_fleet_81 ?_
      have hf := Option.some.inj hf
      subst hf
      exact ah_iret K hG hL (by omega) (by omega) dX10_fleet_82
theorem wX10_fleet_54 {p : Program} {l : Launch} {e : Env} {s : State} {m : MethodId} {args : Array Value} {below : List Frame} {meth : Method} {c : Code} {D : va_G} {ca : Nat → ClassId} {H0 : Heap}  (K : ah_K p s m args meth c D ca "ShipsThatMeet" cX10_fleet 7 (some .int))   (n : Nat) : ∀ (M : ah_h) (z : Nat) (a0 : Nat) (a3 : Nat) (x5 : Int32) (x6 : Int32) (cells slots : Nat), cells + n * 1 ≤ 300 → slots + n * 2 ≤ 600 → ∀ (H : Heap) (locs : List Loc) (ls : Array Slot), ah_g H0 D ca M z H → ah_L H0 locs → lv_has ls 7 [(0, .ref a0), (3, .ref a3), (5, .int x5), (6, .int x6)] → ∀ Z, fX10_fleet_54    n M z a0 a3 x5 x6 = some Z → W p l e { frames := 7, cells := 300, slots := 600, locals := 152 } s m args below meth c H locs cells slots (ah_Q below args s H0 D ca 300 600 (some (.int Z.1)) Z.2.1 Z.2.2) (F0 m 54 ls []) := by
  induction n with
  | zero => intro M z a0 a3 x5 x6 cells slots hc hs H locs ls hG hL hl Z hf; cases hf
  | succ n ih => exact wX10_fleet_54_b K  _ ih
def fX10_fleet (M : ah_h) (z : Nat) (a0 : Nat) (x1 : Int32) : Option (Int32 × ah_h × Nat) := (ah_ob M a0 10).bind fun _ => (fX10_refusalOfBytes M a0 x1).bind fun v1 => if 0 ≤ v1 then ((ah_gr M a0 10 4).bind fun v4 => (ah_ar M v4 3 x1).bind fun v5 => (fX10_faultOfForm M v5).bind fun v6 => if v6 < 0 then ((ah_gr M a0 10 1).bind fun v8 => (ah_gr M a0 10 0).bind fun v9 => (fX2_become M v8 v9).bind fun v10 => fX10_fleet_54 ah_fu v10 z a0 v5 0 0) else (some ((-1000) - v6, M, z))) else (some (v1, M, z))
set_option maxRecDepth 100000 in
set_option maxHeartbeats 4000000 in
theorem ctX10_fleet (l : Launch) (H0 : Heap) (D : va_G) (ca : Nat → ClassId) (M : ah_h) (z : Nat) (a0 : Nat) (x1 : Int32) (Z : Int32 × ah_h × Nat) (hf : fX10_fleet M z a0 x1 = some Z) : ah_ct l H0 D ca yX10_fleet cX10_fleet 7 (some .int) 7 152 300 600 [.ref a0, .int x1] M z (some (.int Z.1)) Z.2.1 Z.2.2 := by
  refine ah_of (by decide) (Nat.le_of_ble_eq_true rfl) ?_
  intro p e s m below meth c ls hin K hG hl
  have hL : ah_L H0 [] := ah_L.nil
  have hl : lv_has ls 7 [(0, .ref a0), (1, .int x1)] := hl
  unfold fX10_fleet at hf
  obtain ⟨-, -, hf⟩ := Option.bind_eq_some_iff.mp hf
  refine lv_aload_n K.1 K.2.1 dX10_fleet_0 rfl (lv_at hl 0 rfl) ?_
  refine lv_iload_n K.1 K.2.1 dX10_fleet_1 rfl (lv_at hl 1 rfl) ?_
  obtain ⟨v1, ev1, hf⟩ := Option.bind_eq_some_iff.mp hf
  obtain ⟨q2, eq2⟩ := ah_this ev1
  refine ah_callV (As := [.int x1]) (rest := []) K hG hL hl.1 eq2 rfl (ctX10_refusalOfBytes l H0 D ca M z a0 x1 v1 ev1) hdX10_refusalOfBytes q_210 q_212 q_50 q_213 q_0 ⟨Nat.le_of_ble_eq_true rfl, Nat.le_of_ble_eq_true rfl⟩ rfl rfl (Nat.le_of_ble_eq_true rfl) ⟨by show _ ≤ 300; omega, by show _ ≤ 600; omega⟩ dX10_fleet_2 (fun H locs hG hL => ?_)
  refine lv_istore_n (lv' := [(2, .int v1), (0, .ref a0), (1, .int x1)]) K.1 K.2.1 dX10_fleet_5 rfl hl (by decide) rfl (fun ls hl => ?_)
  refine lv_iload_n K.1 K.2.1 dX10_fleet_6 rfl (lv_at hl 0 rfl) ?_
  refine lv_if_ge (tgt := 12) K.1 K.2.1 dX10_fleet_7 (by decide) (fun h3 => ?_) (fun h3 => ?_)
  · rw [if_pos h3] at hf
    refine lv_aload_n K.1 K.2.1 dX10_fleet_12 rfl (lv_at hl 1 rfl) ?_
    obtain ⟨v4, ev4, hf⟩ := Option.bind_eq_some_iff.mp hf
    refine ah_getr K hG ev4 ffX10_28_10 dX10_fleet_13 ?_
    refine lv_iload_n K.1 K.2.1 dX10_fleet_16 rfl (lv_at hl 2 rfl) ?_
    obtain ⟨v5, ev5, hf⟩ := Option.bind_eq_some_iff.mp hf
    refine ah_aald (t := 3) K hG ev5 rfl rfl dX10_fleet_17 ?_
    refine lv_astore_n (lv' := [(3, .ref v5), (2, .int v1), (0, .ref a0), (1, .int x1)]) K.1 K.2.1 dX10_fleet_18 rfl hl (by decide) rfl (fun ls hl => ?_)
    refine lv_aload_n K.1 K.2.1 dX10_fleet_19 rfl (lv_at hl 0 rfl) ?_
    obtain ⟨v6, ev6, hf⟩ := Option.bind_eq_some_iff.mp hf
    refine ah_callS (As := [.ref v5]) (rest := []) K hG hL hl.1 (ctX10_faultOfForm l H0 D ca M z v5 v6 ev6) hdX10_faultOfForm q_229 q_230 q_50 q_231 ⟨Nat.le_of_ble_eq_true rfl, Nat.le_of_ble_eq_true rfl⟩ rfl rfl (Nat.le_of_ble_eq_true rfl) ⟨by show _ ≤ 300; omega, by show _ ≤ 600; omega⟩ dX10_fleet_20 (fun H locs hG hL => ?_)
    refine lv_istore (lv' := [(4, .int v6), (3, .ref v5), (2, .int v1), (0, .ref a0), (1, .int x1)]) K.1 K.2.1 dX10_fleet_23 hl (by decide) rfl (fun ls hl => ?_)
    refine lv_iload K.1 K.2.1 dX10_fleet_25 (lv_at hl 0 rfl) ?_
    refine lv_if_lt (tgt := 37) K.1 K.2.1 dX10_fleet_27 (by decide) (fun h7 => ?_) (fun h7 => ?_)
    · rw [if_pos h7] at hf
      refine lv_aload_n K.1 K.2.1 dX10_fleet_37 rfl (lv_at hl 3 rfl) ?_
      obtain ⟨v8, ev8, hf⟩ := Option.bind_eq_some_iff.mp hf
      refine ah_getr K hG ev8 ffX10_16_10 dX10_fleet_38 ?_
      refine lv_aload_n K.1 K.2.1 dX10_fleet_41 rfl (lv_at hl 3 rfl) ?_
      obtain ⟨v9, ev9, hf⟩ := Option.bind_eq_some_iff.mp hf
      refine ah_getr K hG ev9 ffX10_10_10 dX10_fleet_42 ?_
      obtain ⟨v10, ev10, hf⟩ := Option.bind_eq_some_iff.mp hf
      obtain ⟨q11, eq11⟩ := ah_this ev10
      refine ah_callV (As := [.ref v9]) (rest := []) K hG hL hl.1 eq11 rfl (ctX2_become l H0 D ca M z v8 v9 v10 ev10) hdX2_become q_243 q_244 q_51 q_246 q_245 ⟨Nat.le_of_ble_eq_true rfl, Nat.le_of_ble_eq_true rfl⟩ rfl rfl (Nat.le_of_ble_eq_true rfl) ⟨by show _ ≤ 300; omega, by show _ ≤ 600; omega⟩ dX10_fleet_45 (fun H locs hG hL => ?_)
      refine lv_iconst (v := 0) K.1 K.2.1 dX10_fleet_48 (by decide) ?_
      refine lv_istore (lv' := [(5, .int 0), (4, .int v6), (3, .ref v5), (2, .int v1), (0, .ref a0), (1, .int x1)]) K.1 K.2.1 dX10_fleet_49 hl (by decide) rfl (fun ls hl => ?_)
      refine lv_iconst (v := 0) K.1 K.2.1 dX10_fleet_51 (by decide) ?_
      refine lv_istore (lv' := [(6, .int 0), (5, .int 0), (4, .int v6), (3, .ref v5), (2, .int v1), (0, .ref a0), (1, .int x1)]) K.1 K.2.1 dX10_fleet_52 hl (by decide) rfl (fun ls hl => ?_)
      exact wX10_fleet_54 K  ah_fu v10 z a0 v5 0 0 _ _ (by unfold ah_fu; omega) (by unfold ah_fu; omega) _ _ _ hG hL (lv_sub hl [5, 3, 1, 0] rfl) _ hf
    · rw [if_neg h7] at hf
      refine lv_sipush (v := (-1000)) K.1 K.2.1 dX10_fleet_30 (by decide) ?_
      refine lv_iload K.1 K.2.1 dX10_fleet_33 (lv_at hl 0 rfl) ?_
      refine lv_isub K.1 K.2.1 dX10_fleet_35 ?_
      have hf := Option.some.inj hf
      subst hf
      exact ah_iret K hG hL (by omega) (by omega) dX10_fleet_36
  · rw [if_neg h3] at hf
    refine lv_iload_n K.1 K.2.1 dX10_fleet_10 rfl (lv_at hl 0 rfl) ?_
    have hf := Option.some.inj hf
    subst hf
    exact ah_iret K hG hL (by omega) (by omega) dX10_fleet_11
def fX10_judge_33_b   (k33 : ah_h → Nat → Nat → Int32 → Option (Int32 × ah_h))  (M : ah_h) (a0 : Nat) (a3 : Nat) (x4 : Int32) : Option (Int32 × ah_h) := (ah_gi M a3 7 2).bind fun v1 => if v1 ≤ (x4 + 3) then ((ah_gi M a3 7 2).bind fun v3 => if v3 ≤ x4 then (some ((-4), M)) else (some (x4, M))) else ((ah_gr M a0 10 1).bind fun v5 => (fX10_faultOfGifts M v5 a3 x4).bind fun v6 => if v6 < 0 then ((ah_gr M a0 10 1).bind fun v8 => (fX7_at M a3 x4).bind fun v9 => (fX7_at M a3 (x4 + 1)).bind fun v11 => (fX2_holdMeeting M v8 v9 v11).bind fun v13 => k33 v13.2 a0 a3 (x4 + 4)) else (some (v6, M)))
def fX10_judge_33    : Nat → ah_h → Nat → Nat → Int32 → Option (Int32 × ah_h)
  | 0 => fun _ _ _ _ => none
  | n + 1 => fun M a0 a3 x4 => fX10_judge_33_b   (fX10_judge_33    n)  M a0 a3 x4
set_option maxRecDepth 100000 in
set_option maxHeartbeats 4000000 in
theorem wX10_judge_33_b {p : Program} {l : Launch} {e : Env} {s : State} {m : MethodId} {args : Array Value} {below : List Frame} {meth : Method} {c : Code} {D : va_G} {ca : Nat → ClassId} {H0 : Heap} {z : Nat} (K : ah_K p s m args meth c D ca "ShipsThatMeet" cX10_judge 6 (some .int))   (k33 : ah_h → Nat → Nat → Int32 → Option (Int32 × ah_h)) (hk33 : ∀ (M : ah_h) (a0 : Nat) (a3 : Nat) (x4 : Int32)  (H : Heap) (locs : List Loc) (ls : Array Slot), ah_g H0 D ca M z H → ah_L H0 locs → lv_has ls 6 [(0, .ref a0), (3, .ref a3), (4, .int x4)] → ∀ Z, k33 M a0 a3 x4 = some Z → W p l e { frames := 5, cells := 0, slots := 0, locals := 117 } s m args below meth c H locs 0 0 (ah_Q below args s H0 D ca 0 0 (some (.int Z.1)) Z.2 z) (F0 m 33 ls [])) : ∀ (M : ah_h) (a0 : Nat) (a3 : Nat) (x4 : Int32)  (H : Heap) (locs : List Loc) (ls : Array Slot), ah_g H0 D ca M z H → ah_L H0 locs → lv_has ls 6 [(0, .ref a0), (3, .ref a3), (4, .int x4)] → ∀ Z, fX10_judge_33_b   k33  M a0 a3 x4 = some Z → W p l e { frames := 5, cells := 0, slots := 0, locals := 117 } s m args below meth c H locs 0 0 (ah_Q below args s H0 D ca 0 0 (some (.int Z.1)) Z.2 z) (F0 m 33 ls []) := by
  intro M a0 a3 x4 H locs ls hG hL hl Z hf
  unfold fX10_judge_33_b at hf
  refine lv_iload K.1 K.2.1 dX10_judge_33 (lv_at hl 2 rfl) ?_
  refine lv_iconst (v := 3) K.1 K.2.1 dX10_judge_35 (by decide) ?_
  refine lv_iadd K.1 K.2.1 dX10_judge_36 ?_
  refine lv_aload_n K.1 K.2.1 dX10_judge_37 rfl (lv_at hl 1 rfl) ?_
  obtain ⟨v1, ev1, hf⟩ := Option.bind_eq_some_iff.mp hf
  refine ah_geti K hG ev1 ffX10_58_7 dX10_judge_38 ?_
  refine lv_icmp_ge (tgt := 92) K.1 K.2.1 dX10_judge_41 (by decide) (fun h2 => ?_) (fun h2 => ?_)
  · rw [if_pos h2] at hf
    refine lv_iload K.1 K.2.1 dX10_judge_92 (lv_at hl 2 rfl) ?_
    refine lv_aload_n K.1 K.2.1 dX10_judge_94 rfl (lv_at hl 1 rfl) ?_
    obtain ⟨v3, ev3, hf⟩ := Option.bind_eq_some_iff.mp hf
    refine ah_geti K hG ev3 ffX10_58_7 dX10_judge_95 ?_
    refine lv_icmp_ge (tgt := 106) K.1 K.2.1 dX10_judge_98 (by decide) (fun h4 => ?_) (fun h4 => ?_)
    · rw [if_pos h4] at hf
      refine lv_bipush (v := (-4)) K.1 K.2.1 dX10_judge_106 (by decide) ?_
      have hf := Option.some.inj hf
      subst hf
      exact ah_iret K hG hL (Nat.le_refl _) (Nat.le_refl _) dX10_judge_108
    · rw [if_neg h4] at hf
      refine lv_iload K.1 K.2.1 dX10_judge_101 (lv_at hl 2 rfl) ?_
      refine lv_goto (tgt := 108) K.1 K.2.1 dX10_judge_103 (by decide) ?_
      have hf := Option.some.inj hf
      subst hf
      exact ah_iret K hG hL (Nat.le_refl _) (Nat.le_refl _) dX10_judge_108
  · rw [if_neg h2] at hf
    refine lv_aload_n K.1 K.2.1 dX10_judge_44 rfl (lv_at hl 0 rfl) ?_
    obtain ⟨v5, ev5, hf⟩ := Option.bind_eq_some_iff.mp hf
    refine ah_getr K hG ev5 ffX10_16_10 dX10_judge_45 ?_
    refine lv_aload_n K.1 K.2.1 dX10_judge_48 rfl (lv_at hl 1 rfl) ?_
    refine lv_iload K.1 K.2.1 dX10_judge_49 (lv_at hl 2 rfl) ?_
    obtain ⟨v6, ev6, hf⟩ := Option.bind_eq_some_iff.mp hf
    refine ah_callS (As := [.ref v5, .ref a3, .int x4]) (rest := []) K hG hL hl.1 (ctX10_faultOfGifts l H0 D ca M z v5 a3 x4 v6 ev6) hdX10_faultOfGifts q_642 q_643 q_50 q_644 ⟨Nat.le_of_ble_eq_true rfl, Nat.le_of_ble_eq_true rfl⟩ rfl rfl (Nat.le_of_ble_eq_true rfl) ⟨Nat.le_refl _, Nat.le_refl _⟩ dX10_judge_51 (fun H locs hG hL => ?_)
    refine lv_istore (lv' := [(5, .int v6), (0, .ref a0), (3, .ref a3), (4, .int x4)]) K.1 K.2.1 dX10_judge_54 hl (by decide) rfl (fun ls hl => ?_)
    refine lv_iload K.1 K.2.1 dX10_judge_56 (lv_at hl 0 rfl) ?_
    refine lv_if_lt (tgt := 64) K.1 K.2.1 dX10_judge_58 (by decide) (fun h7 => ?_) (fun h7 => ?_)
    · rw [if_pos h7] at hf
      refine lv_aload_n K.1 K.2.1 dX10_judge_64 rfl (lv_at hl 1 rfl) ?_
      obtain ⟨v8, ev8, hf⟩ := Option.bind_eq_some_iff.mp hf
      refine ah_getr K hG ev8 ffX10_16_10 dX10_judge_65 ?_
      refine lv_aload_n K.1 K.2.1 dX10_judge_68 rfl (lv_at hl 2 rfl) ?_
      refine lv_iload K.1 K.2.1 dX10_judge_69 (lv_at hl 3 rfl) ?_
      obtain ⟨v9, ev9, hf⟩ := Option.bind_eq_some_iff.mp hf
      obtain ⟨q10, eq10⟩ := ah_this ev9
      refine ah_callV (As := [.int x4]) (rest := [.ref v8]) K hG hL hl.1 eq10 rfl (ctX7_at l H0 D ca M z a3 x4 v9 ev9) hdX7_at q_232 q_233 q_53 q_235 q_234 ⟨Nat.le_of_ble_eq_true rfl, Nat.le_of_ble_eq_true rfl⟩ rfl rfl (Nat.le_of_ble_eq_true rfl) ⟨Nat.le_refl _, Nat.le_refl _⟩ dX10_judge_71 (fun H locs hG hL => ?_)
      refine lv_aload_n K.1 K.2.1 dX10_judge_74 rfl (lv_at hl 2 rfl) ?_
      refine lv_iload K.1 K.2.1 dX10_judge_75 (lv_at hl 3 rfl) ?_
      refine lv_iconst (v := 1) K.1 K.2.1 dX10_judge_77 (by decide) ?_
      refine lv_iadd K.1 K.2.1 dX10_judge_78 ?_
      obtain ⟨v11, ev11, hf⟩ := Option.bind_eq_some_iff.mp hf
      obtain ⟨q12, eq12⟩ := ah_this ev11
      refine ah_callV (As := [.int (x4 + 1)]) (rest := [.int v9, .ref v8]) K hG hL hl.1 eq12 rfl (ctX7_at l H0 D ca M z a3 (x4 + 1) v11 ev11) hdX7_at q_232 q_233 q_53 q_235 q_234 ⟨Nat.le_of_ble_eq_true rfl, Nat.le_of_ble_eq_true rfl⟩ rfl rfl (Nat.le_of_ble_eq_true rfl) ⟨Nat.le_refl _, Nat.le_refl _⟩ dX10_judge_79 (fun H locs hG hL => ?_)
      obtain ⟨v13, ev13, hf⟩ := Option.bind_eq_some_iff.mp hf
      obtain ⟨q14, eq14⟩ := ah_this ev13
      refine ah_callV (As := [.int v9, .int v11]) (rest := []) K hG hL hl.1 eq14 rfl (ctX2_holdMeeting l H0 D ca M z v8 v9 v11 v13 ev13) hdX2_holdMeeting q_340 q_341 q_51 q_343 q_342 ⟨Nat.le_of_ble_eq_true rfl, Nat.le_of_ble_eq_true rfl⟩ rfl rfl (Nat.le_of_ble_eq_true rfl) ⟨Nat.le_refl _, Nat.le_refl _⟩ dX10_judge_82 (fun H locs hG hL => ?_)
      refine lv_pop K.1 K.2.1 dX10_judge_85 rfl ?_
      refine lv_iinc (v := x4 + 4) (lv' := [(4, .int (x4 + 4)), (5, .int v6), (0, .ref a0), (3, .ref a3)]) K.1 K.2.1 dX10_judge_86 hl (k := 3) rfl rfl (by decide) rfl (fun ls hl => ?_)
      refine lv_goto (tgt := 33) K.1 K.2.1 dX10_judge_89 (by decide) ?_
      exact hk33 v13.2 a0 a3 (x4 + 4) _ _ _ hG hL (lv_sub hl [2, 3, 0] rfl) _ hf
    · rw [if_neg h7] at hf
      refine lv_iload K.1 K.2.1 dX10_judge_61 (lv_at hl 0 rfl) ?_
      have hf := Option.some.inj hf
      subst hf
      exact ah_iret K hG hL (Nat.le_refl _) (Nat.le_refl _) dX10_judge_63
theorem wX10_judge_33 {p : Program} {l : Launch} {e : Env} {s : State} {m : MethodId} {args : Array Value} {below : List Frame} {meth : Method} {c : Code} {D : va_G} {ca : Nat → ClassId} {H0 : Heap} {z : Nat} (K : ah_K p s m args meth c D ca "ShipsThatMeet" cX10_judge 6 (some .int))   (n : Nat) : ∀ (M : ah_h) (a0 : Nat) (a3 : Nat) (x4 : Int32)  (H : Heap) (locs : List Loc) (ls : Array Slot), ah_g H0 D ca M z H → ah_L H0 locs → lv_has ls 6 [(0, .ref a0), (3, .ref a3), (4, .int x4)] → ∀ Z, fX10_judge_33    n M a0 a3 x4 = some Z → W p l e { frames := 5, cells := 0, slots := 0, locals := 117 } s m args below meth c H locs 0 0 (ah_Q below args s H0 D ca 0 0 (some (.int Z.1)) Z.2 z) (F0 m 33 ls []) := by
  induction n with
  | zero => intro M a0 a3 x4 H locs ls hG hL hl Z hf; cases hf
  | succ n ih => exact wX10_judge_33_b K  _ ih
def fX10_judge (M : ah_h) (a0 : Nat) (x1 : Int32) : Option (Int32 × ah_h) := (ah_ob M a0 10).bind fun _ => (fX10_refusalOfRow M a0 x1).bind fun v1 => if 0 ≤ v1 then ((ah_gr M a0 10 4).bind fun v4 => (ah_ar M v4 3 x1).bind fun v5 => (ah_gr M a0 10 1).bind fun v6 => (ah_gr M a0 10 0).bind fun v7 => (fX2_become M v6 v7).bind fun v8 => fX10_judge_33 ah_fu v8 a0 v5 0) else (some (v1, M))
set_option maxRecDepth 100000 in
set_option maxHeartbeats 4000000 in
theorem ctX10_judge (l : Launch) (H0 : Heap) (D : va_G) (ca : Nat → ClassId) (M : ah_h) (z : Nat) (a0 : Nat) (x1 : Int32) (Z : Int32 × ah_h) (hf : fX10_judge M a0 x1 = some Z) : ah_ct l H0 D ca yX10_judge cX10_judge 6 (some .int) 5 117 0 0 [.ref a0, .int x1] M z (some (.int Z.1)) Z.2 z := by
  refine ah_of (by decide) (Nat.le_of_ble_eq_true rfl) ?_
  intro p e s m below meth c ls hin K hG hl
  have hL : ah_L H0 [] := ah_L.nil
  have hl : lv_has ls 6 [(0, .ref a0), (1, .int x1)] := hl
  unfold fX10_judge at hf
  obtain ⟨-, -, hf⟩ := Option.bind_eq_some_iff.mp hf
  refine lv_aload_n K.1 K.2.1 dX10_judge_0 rfl (lv_at hl 0 rfl) ?_
  refine lv_iload_n K.1 K.2.1 dX10_judge_1 rfl (lv_at hl 1 rfl) ?_
  obtain ⟨v1, ev1, hf⟩ := Option.bind_eq_some_iff.mp hf
  obtain ⟨q2, eq2⟩ := ah_this ev1
  refine ah_callV (As := [.int x1]) (rest := []) K hG hL hl.1 eq2 rfl (ctX10_refusalOfRow l H0 D ca M z a0 x1 v1 ev1) hdX10_refusalOfRow q_214 q_216 q_50 q_217 q_1 ⟨Nat.le_of_ble_eq_true rfl, Nat.le_of_ble_eq_true rfl⟩ rfl rfl (Nat.le_of_ble_eq_true rfl) ⟨Nat.le_refl _, Nat.le_refl _⟩ dX10_judge_2 (fun H locs hG hL => ?_)
  refine lv_istore_n (lv' := [(2, .int v1), (0, .ref a0), (1, .int x1)]) K.1 K.2.1 dX10_judge_5 rfl hl (by decide) rfl (fun ls hl => ?_)
  refine lv_iload_n K.1 K.2.1 dX10_judge_6 rfl (lv_at hl 0 rfl) ?_
  refine lv_if_ge (tgt := 12) K.1 K.2.1 dX10_judge_7 (by decide) (fun h3 => ?_) (fun h3 => ?_)
  · rw [if_pos h3] at hf
    refine lv_aload_n K.1 K.2.1 dX10_judge_12 rfl (lv_at hl 1 rfl) ?_
    obtain ⟨v4, ev4, hf⟩ := Option.bind_eq_some_iff.mp hf
    refine ah_getr K hG ev4 ffX10_28_10 dX10_judge_13 ?_
    refine lv_iload_n K.1 K.2.1 dX10_judge_16 rfl (lv_at hl 2 rfl) ?_
    obtain ⟨v5, ev5, hf⟩ := Option.bind_eq_some_iff.mp hf
    refine ah_aald (t := 3) K hG ev5 rfl rfl dX10_judge_17 ?_
    refine lv_astore_n (lv' := [(3, .ref v5), (2, .int v1), (0, .ref a0), (1, .int x1)]) K.1 K.2.1 dX10_judge_18 rfl hl (by decide) rfl (fun ls hl => ?_)
    refine lv_aload_n K.1 K.2.1 dX10_judge_19 rfl (lv_at hl 2 rfl) ?_
    obtain ⟨v6, ev6, hf⟩ := Option.bind_eq_some_iff.mp hf
    refine ah_getr K hG ev6 ffX10_16_10 dX10_judge_20 ?_
    refine lv_aload_n K.1 K.2.1 dX10_judge_23 rfl (lv_at hl 2 rfl) ?_
    obtain ⟨v7, ev7, hf⟩ := Option.bind_eq_some_iff.mp hf
    refine ah_getr K hG ev7 ffX10_10_10 dX10_judge_24 ?_
    obtain ⟨v8, ev8, hf⟩ := Option.bind_eq_some_iff.mp hf
    obtain ⟨q9, eq9⟩ := ah_this ev8
    refine ah_callV (As := [.ref v7]) (rest := []) K hG hL hl.1 eq9 rfl (ctX2_become l H0 D ca M z v6 v7 v8 ev8) hdX2_become q_243 q_244 q_51 q_246 q_245 ⟨Nat.le_of_ble_eq_true rfl, Nat.le_of_ble_eq_true rfl⟩ rfl rfl (Nat.le_of_ble_eq_true rfl) ⟨Nat.le_refl _, Nat.le_refl _⟩ dX10_judge_27 (fun H locs hG hL => ?_)
    refine lv_iconst (v := 0) K.1 K.2.1 dX10_judge_30 (by decide) ?_
    refine lv_istore (lv' := [(4, .int 0), (3, .ref v5), (2, .int v1), (0, .ref a0), (1, .int x1)]) K.1 K.2.1 dX10_judge_31 hl (by decide) rfl (fun ls hl => ?_)
    exact wX10_judge_33 K  ah_fu v8 a0 v5 0 _ _ _ hG hL (lv_sub hl [3, 1, 0] rfl) _ hf
  · rw [if_neg h3] at hf
    refine lv_iload_n K.1 K.2.1 dX10_judge_10 rfl (lv_at hl 0 rfl) ?_
    have hf := Option.some.inj hf
    subst hf
    exact ah_iret K hG hL (Nat.le_refl _) (Nat.le_refl _) dX10_judge_11
