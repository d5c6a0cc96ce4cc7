-- X10_likely dv_gift dv_wages X2_giver X2_fillGivers X2_holdMeeting X2_holdTold X2_lastMeeting X10_ship X10_meet X10_where X10_mixesMost X10_letter X10_law X10_together X10_moved X10_seeded X10_pay X10_isCarriedOut
def fX10_likely_87    (M : ah_h) (x4 : Int32) (y6 : Int64) (y8 : Int64) (y10 : Int64) : Option (Int64 × ah_h) := if x4 = 0 then (if y10 = 0 then none else some (y8 / y10, M)) else (if y10 = 0 then none else some (y6 / y10, M))
set_option maxRecDepth 100000 in
set_option maxHeartbeats 4000000 in
theorem wX10_likely_87 {p : Program} {l : Launch} {e : Env} {s : State} {m : MethodId} {args : Array Value} {below : List Frame} {meth : Method} {c : Code} {D : va_G} {ca : Nat → ClassId} {H0 : Heap} {z : Nat} (K : ah_K p s m args meth c D ca "ShipsThatMeet" cX10_likely 12 (some .long))   : ∀ (M : ah_h) (x4 : Int32) (y6 : Int64) (y8 : Int64) (y10 : Int64)  (H : Heap) (locs : List Loc) (ls : Array Slot), ah_g H0 D ca M z H → ah_L H0 locs → lv_has ls 12 [(4, .int x4), (6, .long y6), (8, .long y8), (10, .long y10)] → ∀ Z, fX10_likely_87    M x4 y6 y8 y10 = some Z → W p l e { frames := 5, cells := 0, slots := 0, locals := 109 } s m args below meth c H locs 0 0 (ah_Q below args s H0 D ca 0 0 (some (.long Z.1)) Z.2 z) (F0 m 87 ls []) := by
  intro M x4 y6 y8 y10 H locs ls hG hL hl Z hf
  unfold fX10_likely_87 at hf
  refine lv_iload K.1 K.2.1 dX10_likely_87 (lv_at hl 0 rfl) ?_
  refine lv_if_ne (tgt := 97) K.1 K.2.1 dX10_likely_89 (by decide) (fun h1 => ?_) (fun h1 => ?_)
  · rw [if_neg h1] at hf
    refine lv_lload K.1 K.2.1 dX10_likely_97 (lv_at hl 1 rfl) ?_
    refine lv_lload K.1 K.2.1 dX10_likely_99 (lv_at hl 3 rfl) ?_
    by_cases h2 : y10 = 0
    · rw [if_pos h2] at hf; cases hf
    rw [if_neg h2] at hf
    refine lv_ldiv K.1 K.2.1 dX10_likely_101 h2 ?_
    have hf := Option.some.inj hf
    subst hf
    exact ah_lret K hG hL (Nat.le_refl _) (Nat.le_refl _) dX10_likely_102
  · rw [if_pos h1] at hf
    refine lv_lload K.1 K.2.1 dX10_likely_92 (lv_at hl 2 rfl) ?_
    refine lv_goto (tgt := 99) K.1 K.2.1 dX10_likely_94 (by decide) ?_
    refine lv_lload K.1 K.2.1 dX10_likely_99 (lv_at hl 3 rfl) ?_
    by_cases h3 : y10 = 0
    · rw [if_pos h3] at hf; cases hf
    rw [if_neg h3] at hf
    refine lv_ldiv K.1 K.2.1 dX10_likely_101 h3 ?_
    have hf := Option.some.inj hf
    subst hf
    exact ah_lret K hG hL (Nat.le_refl _) (Nat.le_refl _) dX10_likely_102
def fX10_likely (M : ah_h) (a0 : Nat) (x1 : Int32) (x2 : Int32) (x3 : Int32) (x4 : Int32) : Option (Int64 × ah_h) := (ah_ob M a0 10).bind fun _ => (ah_gr M a0 10 0).bind fun v1 => (fX2_isShip M v1 x2).bind fun v2 => if v2 = 0 then (some ((-1000000001), M)) else (if x4 < 0 then (some ((-1000000001), M)) else (if x4 ≤ 1 then ((fX10_refusalOfManAndMeetings M a0 x1 x3).bind fun v7 => if 0 ≤ v7 then ((ah_gr M a0 10 4).bind fun v10 => (ah_ar M v10 3 x3).bind fun v11 => (fX10_fillChances M a0 x1 v11).bind fun v12 => (ah_gr v12.2 a0 10 7).bind fun v14 => (ah_aj v12.2 v14 x2).bind fun v15 => (fX10_commonDivisor v12.2 v15 v12.1).bind fun v16 => if 0 ≤ (lg_cmp v16 1) then (fX10_likely_87 v12.2 x4 v12.1 v15 v16) else (fX10_likely_87 v12.2 x4 v12.1 v15 1)) else (some (v7.toInt64 - 1000000000, M))) else (some ((-1000000001), M))))
set_option maxRecDepth 100000 in
set_option maxHeartbeats 4000000 in
theorem ctX10_likely (l : Launch) (H0 : Heap) (D : va_G) (ca : Nat → ClassId) (M : ah_h) (z : Nat) (a0 : Nat) (x1 : Int32) (x2 : Int32) (x3 : Int32) (x4 : Int32) (Z : Int64 × ah_h) (hf : fX10_likely M a0 x1 x2 x3 x4 = some Z) : ah_ct l H0 D ca yX10_likely cX10_likely 12 (some .long) 5 109 0 0 [.ref a0, .int x1, .int x2, .int x3, .int x4] M z (some (.long Z.1)) Z.2 z := by
  refine ah_of (by decide) (Nat.le_of_ble_eq_true rfl) ?_
  intro p e s m below meth c ls hin K hG hl
  have hL : ah_L H0 [] := ah_L.nil
  have hl : lv_has ls 12 [(0, .ref a0), (1, .int x1), (2, .int x2), (3, .int x3), (4, .int x4)] := hl
  unfold fX10_likely at hf
  obtain ⟨-, -, hf⟩ := Option.bind_eq_some_iff.mp hf
  refine lv_aload_n K.1 K.2.1 dX10_likely_0 rfl (lv_at hl 0 rfl) ?_
  obtain ⟨v1, ev1, hf⟩ := Option.bind_eq_some_iff.mp hf
  refine ah_getr K hG ev1 ffX10_10_10 dX10_likely_1 ?_
  refine lv_iload_n K.1 K.2.1 dX10_likely_4 rfl (lv_at hl 2 rfl) ?_
  obtain ⟨v2, ev2, hf⟩ := Option.bind_eq_some_iff.mp hf
  obtain ⟨q3, eq3⟩ := ah_this ev2
  refine ah_callV (As := [.int x2]) (rest := []) K hG hL hl.1 eq3 rfl (ctX2_isShip l H0 D ca M z v1 x2 v2 ev2) hdX2_isShip q_428 q_333 q_51 q_335 q_334 ⟨Nat.le_of_ble_eq_true rfl, Nat.le_of_ble_eq_true rfl⟩ rfl rfl (Nat.le_of_ble_eq_true rfl) ⟨Nat.le_refl _, Nat.le_refl _⟩ dX10_likely_5 (fun H locs hG hL => ?_)
  refine lv_if_eq (tgt := 22) K.1 K.2.1 dX10_likely_8 (by decide) (fun h4 => ?_) (fun h4 => ?_)
  · rw [if_pos h4] at hf
    refine lv_ldc2 (v := (-1000000001)) K.1 K.2.1 K.2.2.2.1 (K.2.2.2.2.1 _ q_504) dX10_likely_22 ?_
    have hf := Option.some.inj hf
    subst hf
    exact ah_lret K hG hL (Nat.le_refl _) (Nat.le_refl _) dX10_likely_25
  · rw [if_neg h4] at hf
    refine lv_iload K.1 K.2.1 dX10_likely_11 (lv_at hl 4 rfl) ?_
    refine lv_if_lt (tgt := 22) K.1 K.2.1 dX10_likely_13 (by decide) (fun h5 => ?_) (fun h5 => ?_)
    · rw [if_pos h5] at hf
      refine lv_ldc2 (v := (-1000000001)) K.1 K.2.1 K.2.2.2.1 (K.2.2.2.2.1 _ q_504) dX10_likely_22 ?_
      have hf := Option.some.inj hf
      subst hf
      exact ah_lret K hG hL (Nat.le_refl _) (Nat.le_refl _) dX10_likely_25
    · rw [if_neg h5] at hf
      refine lv_iload K.1 K.2.1 dX10_likely_16 (lv_at hl 4 rfl) ?_
      refine lv_iconst (v := 1) K.1 K.2.1 dX10_likely_18 (by decide) ?_
      refine lv_icmp_le (tgt := 26) K.1 K.2.1 dX10_likely_19 (by decide) (fun h6 => ?_) (fun h6 => ?_)
      · rw [if_pos h6] at hf
        refine lv_aload_n K.1 K.2.1 dX10_likely_26 rfl (lv_at hl 0 rfl) ?_
        refine lv_iload_n K.1 K.2.1 dX10_likely_27 rfl (lv_at hl 1 rfl) ?_
        refine lv_iload_n K.1 K.2.1 dX10_likely_28 rfl (lv_at hl 3 rfl) ?_
        obtain ⟨v7, ev7, hf⟩ := Option.bind_eq_some_iff.mp hf
        obtain ⟨q8, eq8⟩ := ah_this ev7
        refine ah_callV (As := [.int x1, .int x3]) (rest := []) K hG hL hl.1 eq8 rfl (ctX10_refusalOfManAndMeetings l H0 D ca M z a0 x1 x3 v7 ev7) hdX10_refusalOfManAndMeetings q_454 q_456 q_50 q_457 q_3 ⟨Nat.le_of_ble_eq_true rfl, Nat.le_of_ble_eq_true rfl⟩ rfl rfl (Nat.le_of_ble_eq_true rfl) ⟨Nat.le_refl _, Nat.le_refl _⟩ dX10_likely_29 (fun H locs hG hL => ?_)
        refine lv_istore (lv' := [(5, .int v7), (0, .ref a0), (1, .int x1), (2, .int x2), (3, .int x3), (4, .int x4)]) K.1 K.2.1 dX10_likely_32 hl (by decide) rfl (fun ls hl => ?_)
        refine lv_iload K.1 K.2.1 dX10_likely_34 (lv_at hl 0 rfl) ?_
        refine lv_if_ge (tgt := 47) K.1 K.2.1 dX10_likely_36 (by decide) (fun h9 => ?_) (fun h9 => ?_)
        · rw [if_pos h9] at hf
          refine lv_aload_n K.1 K.2.1 dX10_likely_47 rfl (lv_at hl 1 rfl) ?_
          refine lv_iload_n K.1 K.2.1 dX10_likely_48 rfl (lv_at hl 2 rfl) ?_
          refine lv_aload_n K.1 K.2.1 dX10_likely_49 rfl (lv_at hl 1 rfl) ?_
          obtain ⟨v10, ev10, hf⟩ := Option.bind_eq_some_iff.mp hf
          refine ah_getr K hG ev10 ffX10_28_10 dX10_likely_50 ?_
          refine lv_iload_n K.1 K.2.1 dX10_likely_53 rfl (lv_at hl 4 rfl) ?_
          obtain ⟨v11, ev11, hf⟩ := Option.bind_eq_some_iff.mp hf
          refine ah_aald (t := 3) K hG ev11 rfl rfl dX10_likely_54 ?_
          obtain ⟨v12, ev12, hf⟩ := Option.bind_eq_some_iff.mp hf
          obtain ⟨q13, eq13⟩ := ah_this ev12
          refine ah_callV (As := [.int x1, .ref v11]) (rest := []) K hG hL hl.1 eq13 rfl (ctX10_fillChances l H0 D ca M z a0 x1 v11 v12 ev12) hdX10_fillChances q_506 q_508 q_50 q_509 q_6 ⟨Nat.le_of_ble_eq_true rfl, Nat.le_of_ble_eq_true rfl⟩ rfl rfl (Nat.le_of_ble_eq_true rfl) ⟨Nat.le_refl _, Nat.le_refl _⟩ dX10_likely_55 (fun H locs hG hL => ?_)
          refine lv_lstore (lv' := [(6, .long v12.1), (5, .int v7), (0, .ref a0), (1, .int x1), (2, .int x2), (3, .int x3), (4, .int x4)]) K.1 K.2.1 dX10_likely_58 hl (by decide) rfl (fun ls hl => ?_)
          refine lv_aload_n K.1 K.2.1 dX10_likely_60 rfl (lv_at hl 2 rfl) ?_
          obtain ⟨v14, ev14, hf⟩ := Option.bind_eq_some_iff.mp hf
          refine ah_getr K hG ev14 ffX10_42_10 dX10_likely_61 ?_
          refine lv_iload_n K.1 K.2.1 dX10_likely_64 rfl (lv_at hl 4 rfl) ?_
          obtain ⟨v15, ev15, hf⟩ := Option.bind_eq_some_iff.mp hf
          refine ah_lald K hG ev15 dX10_likely_65 ?_
          refine lv_lstore (lv' := [(8, .long v15), (6, .long v12.1), (5, .int v7), (0, .ref a0), (1, .int x1), (2, .int x2), (3, .int x3), (4, .int x4)]) K.1 K.2.1 dX10_likely_66 hl (by decide) rfl (fun ls hl => ?_)
          refine lv_lload K.1 K.2.1 dX10_likely_68 (lv_at hl 0 rfl) ?_
          refine lv_lload K.1 K.2.1 dX10_likely_70 (lv_at hl 1 rfl) ?_
          obtain ⟨v16, ev16, hf⟩ := Option.bind_eq_some_iff.mp hf
          refine ah_callS (As := [.long v15, .long v12.1]) (rest := []) K hG hL hl.1 (ctX10_commonDivisor l H0 D ca v12.2 z v15 v12.1 v16 ev16) hdX10_commonDivisor q_514 q_515 q_50 q_516 ⟨Nat.le_of_ble_eq_true rfl, Nat.le_of_ble_eq_true rfl⟩ rfl rfl (Nat.le_of_ble_eq_true rfl) ⟨Nat.le_refl _, Nat.le_refl _⟩ dX10_likely_72 (fun H locs hG hL => ?_)
          refine lv_lstore (lv' := [(10, .long v16), (8, .long v15), (6, .long v12.1), (5, .int v7), (0, .ref a0), (1, .int x1), (2, .int x2), (3, .int x3), (4, .int x4)]) K.1 K.2.1 dX10_likely_75 hl (by decide) rfl (fun ls hl => ?_)
          refine lv_lload K.1 K.2.1 dX10_likely_77 (lv_at hl 0 rfl) ?_
          refine lv_lconst (v := 1) K.1 K.2.1 dX10_likely_79 (by decide) ?_
          refine W.lcmp K.1 K.2.1 dX10_likely_80 ?_
          refine lv_if_ge (tgt := 87) K.1 K.2.1 dX10_likely_81 (by decide) (fun h17 => ?_) (fun h17 => ?_)
          · rw [if_pos h17] at hf
            exact wX10_likely_87 K  v12.2 x4 v12.1 v15 v16 _ _ _ hG hL (lv_sub hl [8, 2, 1, 0] rfl) _ hf
          · rw [if_neg h17] at hf
            refine lv_lconst (v := 1) K.1 K.2.1 dX10_likely_84 (by decide) ?_
            refine lv_lstore (lv' := [(10, .long 1), (8, .long v15), (6, .long v12.1), (5, .int v7), (0, .ref a0), (1, .int x1), (2, .int x2), (3, .int x3), (4, .int x4)]) K.1 K.2.1 dX10_likely_85 hl (by decide) rfl (fun ls hl => ?_)
            exact wX10_likely_87 K  v12.2 x4 v12.1 v15 1 _ _ _ hG hL (lv_sub hl [8, 2, 1, 0] rfl) _ hf
        · rw [if_neg h9] at hf
          refine lv_iload K.1 K.2.1 dX10_likely_39 (lv_at hl 0 rfl) ?_
          refine lv_i2l (v := v7.toInt64) K.1 K.2.1 dX10_likely_41 rfl ?_
          refine lv_ldc2 (v := 1000000000) K.1 K.2.1 K.2.2.2.1 (K.2.2.2.2.1 _ q_505) dX10_likely_42 ?_
          refine lv_lsub K.1 K.2.1 dX10_likely_45 ?_
          have hf := Option.some.inj hf
          subst hf
          exact ah_lret K hG hL (Nat.le_refl _) (Nat.le_refl _) dX10_likely_46
      · rw [if_neg h6] at hf
        refine lv_ldc2 (v := (-1000000001)) K.1 K.2.1 K.2.2.2.1 (K.2.2.2.2.1 _ q_504) dX10_likely_22 ?_
        have hf := Option.some.inj hf
        subst hf
        exact ah_lret K hG hL (Nat.le_refl _) (Nat.le_refl _) dX10_likely_25
def dv_gift (M : ah_h) (a : Nat) (x0 : Nat) (x1 : Int32) : Option Int32 := (ah_oc M a).bind fun y => if y.1 = 0 then fX0_gift M a x0 x1 else if y.1 = 3 then fX3_gift M a x0 x1 else if y.1 = 4 then fX4_gift M a x0 x1 else if y.1 = 5 then fX5_gift M a x0 x1 else if y.1 = 6 then fX6_gift M a x0 x1 else if y.1 = 8 then fX8_gift M a x0 x1 else if y.1 = 9 then fX9_gift M a x0 x1 else fX1_gift M a x0 x1
theorem dv_gift_call {p : Program} {l : Launch} {e : Env} {R : Room} {s : State} {m : MethodId} {args : Array Value} {below : List Frame} {meth : Method} {c : Code} {H : Heap} {locs : List Loc} {cells slots : Nat} {Q : State → Prop} {cc : ByteArray} {pc : Nat} {ls : Array Slot} {rest : List Value} {D : va_G} {ca : Nat → ClassId} {H0 : Heap} {own : String} {nL : Nat} {ret : Option FieldType} {M : ah_h} {z index : Nat} (K : ah_K p s m args meth c D ca own cc nL ret) (hG : ah_g H0 D ca M z H) (hL : ah_L H0 locs) (hls : ls.size = nL) {a : Nat} {x0 : Nat} {x1 : Int32} {v : Int32} (h : dv_gift M a x0 x1 = some v) (w1 : Cond.methodLink own index ⟨"ShipsThatMeet$Captain", "gift", "(LShipsThatMeet$Fleet;I)I"⟩ ∈ ah_tb) (hR1 : 3 ≤ R.frames) (hR2 : 72 ≤ R.locals) {st : List Value} (hst : st = ([.ref x0, .int x1] : List Value).reverse ++ .ref a :: rest) (hW : (rest.map fun v => v.category).sum ≤ 8) (hf : cells + 0 ≤ R.cells ∧ slots + 0 ≤ R.slots) (hdg : decode cc pc = .ok (.invokevirtual index, 3)) (kk : ∀ (H1 : Heap) (locs1 : List Loc), ah_g H0 D ca M z H1 → ah_L H0 locs1 → W p l e R s m args below meth c H1 locs1 (cells + 0) (slots + 0) Q (F0 m (pc + 3) ls (.int v :: rest))) : W p l e R s m args below meth c H locs cells slots Q (F0 m pc ls st) := by
  obtain ⟨⟨ci, fs⟩, e1, e2⟩ := Option.bind_eq_some_iff.mp h
  obtain ⟨h1, h2⟩ := ah_oc_some e1
  rcases ah_caps h2 with h | h | h | h | h | h | h | h <;> (dsimp only at h; subst h)
  · exact ah_callO (n := 2) (As := [.ref x0, .int x1]) (x := ⟨"ShipsThatMeet$Captain", "gift", "(LShipsThatMeet$Fleet;I)I"⟩) (owner := "ShipsThatMeet$Captain") K hG hL hls h1 rfl (ctX0_gift l H0 D ca M z a x0 x1 v e2) (by decide +kernel) w1 q_361 q_59 q_362 q_359 q_360 q_357 q_410 ⟨Nat.le_trans (by decide) hR1, Nat.le_trans (by decide) hR2⟩ rfl hst hW hf hdg kk
  · exact ah_callO (n := 2) (As := [.ref x0, .int x1]) (x := ⟨"ShipsThatMeet$Captain", "gift", "(LShipsThatMeet$Fleet;I)I"⟩) (owner := "ShipsThatMeet$Captain") K hG hL hls h1 rfl (ctX1_gift l H0 D ca M z a x0 x1 v e2) (by decide +kernel) w1 q_357 q_52 q_410 q_359 q_358 q_357 q_410 ⟨Nat.le_trans (by decide) hR1, Nat.le_trans (by decide) hR2⟩ rfl hst hW hf hdg kk
  · exact ah_callO (n := 2) (As := [.ref x0, .int x1]) (x := ⟨"ShipsThatMeet$Captain", "gift", "(LShipsThatMeet$Fleet;I)I"⟩) (owner := "ShipsThatMeet$Captain") K hG hL hls h1 rfl (ctX3_gift l H0 D ca M z a x0 x1 v e2) (by decide +kernel) w1 q_379 q_61 q_380 q_359 q_378 q_357 q_410 ⟨Nat.le_trans (by decide) hR1, Nat.le_trans (by decide) hR2⟩ rfl hst hW hf hdg kk
  · exact ah_callO (n := 2) (As := [.ref x0, .int x1]) (x := ⟨"ShipsThatMeet$Captain", "gift", "(LShipsThatMeet$Fleet;I)I"⟩) (owner := "ShipsThatMeet$Captain") K hG hL hls h1 rfl (ctX4_gift l H0 D ca M z a x0 x1 v e2) (by decide +kernel) w1 q_386 q_55 q_387 q_359 q_385 q_357 q_410 ⟨Nat.le_trans (by decide) hR1, Nat.le_trans (by decide) hR2⟩ rfl hst hW hf hdg kk
  · exact ah_callO (n := 2) (As := [.ref x0, .int x1]) (x := ⟨"ShipsThatMeet$Captain", "gift", "(LShipsThatMeet$Fleet;I)I"⟩) (owner := "ShipsThatMeet$Captain") K hG hL hls h1 rfl (ctX5_gift l H0 D ca M z a x0 x1 v e2) (by decide +kernel) w1 q_396 q_56 q_397 q_359 q_395 q_357 q_410 ⟨Nat.le_trans (by decide) hR1, Nat.le_trans (by decide) hR2⟩ rfl hst hW hf hdg kk
  · exact ah_callO (n := 2) (As := [.ref x0, .int x1]) (x := ⟨"ShipsThatMeet$Captain", "gift", "(LShipsThatMeet$Fleet;I)I"⟩) (owner := "ShipsThatMeet$Captain") K hG hL hls h1 rfl (ctX6_gift l H0 D ca M z a x0 x1 v e2) (by decide +kernel) w1 q_382 q_57 q_383 q_359 q_399 q_357 q_410 ⟨Nat.le_trans (by decide) hR1, Nat.le_trans (by decide) hR2⟩ rfl hst hW hf hdg kk
  · exact ah_callO (n := 2) (As := [.ref x0, .int x1]) (x := ⟨"ShipsThatMeet$Captain", "gift", "(LShipsThatMeet$Fleet;I)I"⟩) (owner := "ShipsThatMeet$Captain") K hG hL hls h1 rfl (ctX8_gift l H0 D ca M z a x0 x1 v e2) (by decide +kernel) w1 q_401 q_60 q_402 q_359 q_400 q_357 q_410 ⟨Nat.le_trans (by decide) hR1, Nat.le_trans (by decide) hR2⟩ rfl hst hW hf hdg kk
  · exact ah_callO (n := 2) (As := [.ref x0, .int x1]) (x := ⟨"ShipsThatMeet$Captain", "gift", "(LShipsThatMeet$Fleet;I)I"⟩) (owner := "ShipsThatMeet$Captain") K hG hL hls h1 rfl (ctX9_gift l H0 D ca M z a x0 x1 v e2) (by decide +kernel) w1 q_406 q_58 q_407 q_359 q_405 q_357 q_410 ⟨Nat.le_trans (by decide) hR1, Nat.le_trans (by decide) hR2⟩ rfl hst hW hf hdg kk
def dv_wages (M : ah_h) (a : Nat)  : Option Int32 := (ah_oc M a).bind fun y => if y.1 = 0 then fX0_wages M a  else if y.1 = 3 then fX3_wages M a  else if y.1 = 4 then fX4_wages M a  else if y.1 = 5 then fX5_wages M a  else if y.1 = 6 then fX6_wages M a  else if y.1 = 8 then fX8_wages M a  else if y.1 = 9 then fX9_wages M a  else fX1_wages M a 
theorem dv_wages_call {p : Program} {l : Launch} {e : Env} {R : Room} {s : State} {m : MethodId} {args : Array Value} {below : List Frame} {meth : Method} {c : Code} {H : Heap} {locs : List Loc} {cells slots : Nat} {Q : State → Prop} {cc : ByteArray} {pc : Nat} {ls : Array Slot} {rest : List Value} {D : va_G} {ca : Nat → ClassId} {H0 : Heap} {own : String} {nL : Nat} {ret : Option FieldType} {M : ah_h} {z index : Nat} (K : ah_K p s m args meth c D ca own cc nL ret) (hG : ah_g H0 D ca M z H) (hL : ah_L H0 locs) (hls : ls.size = nL) {a : Nat}  {v : Int32} (h : dv_wages M a  = some v) (w1 : Cond.methodLink own index ⟨"ShipsThatMeet$Captain", "wages", "()I"⟩ ∈ ah_tb) (hR1 : 4 ≤ R.frames) (hR2 : 80 ≤ R.locals) {st : List Value} (hst : st = ([] : List Value).reverse ++ .ref a :: rest) (hW : (rest.map fun v => v.category).sum ≤ 8) (hf : cells + 0 ≤ R.cells ∧ slots + 0 ≤ R.slots) (hdg : decode cc pc = .ok (.invokevirtual index, 3)) (kk : ∀ (H1 : Heap) (locs1 : List Loc), ah_g H0 D ca M z H1 → ah_L H0 locs1 → W p l e R s m args below meth c H1 locs1 (cells + 0) (slots + 0) Q (F0 m (pc + 3) ls (.int v :: rest))) : W p l e R s m args below meth c H locs cells slots Q (F0 m pc ls st) := by
  obtain ⟨⟨ci, fs⟩, e1, e2⟩ := Option.bind_eq_some_iff.mp h
  obtain ⟨h1, h2⟩ := ah_oc_some e1
  rcases ah_caps h2 with h | h | h | h | h | h | h | h <;> (dsimp only at h; subst h)
  · exact ah_callO (n := 0) (As := []) (x := ⟨"ShipsThatMeet$Captain", "wages", "()I"⟩) (owner := "ShipsThatMeet$Captain") K hG hL hls h1 rfl (ctX0_wages l H0 D ca M z a  v e2) (by decide +kernel) w1 q_716 q_59 q_717 q_714 q_715 q_712 q_743 ⟨Nat.le_trans (by decide) hR1, Nat.le_trans (by decide) hR2⟩ rfl hst hW hf hdg kk
  · exact ah_callO (n := 0) (As := []) (x := ⟨"ShipsThatMeet$Captain", "wages", "()I"⟩) (owner := "ShipsThatMeet$Captain") K hG hL hls h1 rfl (ctX1_wages l H0 D ca M z a  v e2) (by decide +kernel) w1 q_712 q_52 q_743 q_714 q_713 q_712 q_743 ⟨Nat.le_trans (by decide) hR1, Nat.le_trans (by decide) hR2⟩ rfl hst hW hf hdg kk
  · exact ah_callO (n := 0) (As := []) (x := ⟨"ShipsThatMeet$Captain", "wages", "()I"⟩) (owner := "ShipsThatMeet$Captain") K hG hL hls h1 rfl (ctX3_wages l H0 D ca M z a  v e2) (by decide +kernel) w1 q_723 q_61 q_724 q_714 q_722 q_712 q_743 ⟨Nat.le_trans (by decide) hR1, Nat.le_trans (by decide) hR2⟩ rfl hst hW hf hdg kk
  · exact ah_callO (n := 0) (As := []) (x := ⟨"ShipsThatMeet$Captain", "wages", "()I"⟩) (owner := "ShipsThatMeet$Captain") K hG hL hls h1 rfl (ctX4_wages l H0 D ca M z a  v e2) (by decide +kernel) w1 q_733 q_55 q_734 q_714 q_732 q_712 q_743 ⟨Nat.le_trans (by decide) hR1, Nat.le_trans (by decide) hR2⟩ rfl hst hW hf hdg kk
  · exact ah_callO (n := 0) (As := []) (x := ⟨"ShipsThatMeet$Captain", "wages", "()I"⟩) (owner := "ShipsThatMeet$Captain") K hG hL hls h1 rfl (ctX5_wages l H0 D ca M z a  v e2) (by decide +kernel) w1 q_729 q_56 q_730 q_714 q_736 q_712 q_743 ⟨Nat.le_trans (by decide) hR1, Nat.le_trans (by decide) hR2⟩ rfl hst hW hf hdg kk
  · exact ah_callO (n := 0) (As := []) (x := ⟨"ShipsThatMeet$Captain", "wages", "()I"⟩) (owner := "ShipsThatMeet$Captain") K hG hL hls h1 rfl (ctX6_wages l H0 D ca M z a  v e2) (by decide +kernel) w1 q_726 q_57 q_727 q_714 q_737 q_712 q_743 ⟨Nat.le_trans (by decide) hR1, Nat.le_trans (by decide) hR2⟩ rfl hst hW hf hdg kk
  · exact ah_callO (n := 0) (As := []) (x := ⟨"ShipsThatMeet$Captain", "wages", "()I"⟩) (owner := "ShipsThatMeet$Captain") K hG hL hls h1 rfl (ctX8_wages l H0 D ca M z a  v e2) (by decide +kernel) w1 q_739 q_60 q_740 q_714 q_738 q_712 q_743 ⟨Nat.le_trans (by decide) hR1, Nat.le_trans (by decide) hR2⟩ rfl hst hW hf hdg kk
  · exact ah_callO (n := 0) (As := []) (x := ⟨"ShipsThatMeet$Captain", "wages", "()I"⟩) (owner := "ShipsThatMeet$Captain") K hG hL hls h1 rfl (ctX9_wages l H0 D ca M z a  v e2) (by decide +kernel) w1 q_719 q_58 q_720 q_714 q_742 q_712 q_743 ⟨Nat.le_trans (by decide) hR1, Nat.le_trans (by decide) hR2⟩ rfl hst hW hf hdg kk
def fX2_giver (M : ah_h) (a0 : Nat) (x1 : Int32) : Option (Int32) := (ah_ob M a0 2).bind fun _ => (fX2_isShip M a0 x1).bind fun v1 => if v1 = 0 then (some (-4)) else ((ah_gr M a0 2 3).bind fun v4 => (ah_ar M v4 2 x1).bind fun v5 => (ah_gr M a0 2 4).bind fun v6 => (ah_ai M v6 x1).bind fun v7 => (dv_gift M v5 a0 v7).bind fun v8 => some v8)
set_option maxRecDepth 100000 in
set_option maxHeartbeats 4000000 in
theorem ctX2_giver (l : Launch) (H0 : Heap) (D : va_G) (ca : Nat → ClassId) (M : ah_h) (z : Nat) (a0 : Nat) (x1 : Int32) (Z : Int32) (hf : fX2_giver M a0 x1 = some Z) : ah_ct l H0 D ca yX2_giver cX2_giver 2 (some .int) 3 72 0 0 [.ref a0, .int x1] M z (some (.int Z)) M z := by
  refine ah_of (by decide) (Nat.le_of_ble_eq_true rfl) ?_
  intro p e s m below meth c ls hin K hG hl
  have hL : ah_L H0 [] := ah_L.nil
  have hl : lv_has ls 2 [(0, .ref a0), (1, .int x1)] := hl
  unfold fX2_giver at hf
  obtain ⟨-, -, hf⟩ := Option.bind_eq_some_iff.mp hf
  refine lv_aload_n K.1 K.2.1 dX2_giver_0 rfl (lv_at hl 0 rfl) ?_
  refine lv_iload_n K.1 K.2.1 dX2_giver_1 rfl (lv_at hl 1 rfl) ?_
  obtain ⟨v1, ev1, hf⟩ := Option.bind_eq_some_iff.mp hf
  obtain ⟨q2, eq2⟩ := ah_this ev1
  refine ah_callV (As := [.int x1]) (rest := []) K hG hL hl.1 eq2 rfl (ctX2_isShip l H0 D ca M z a0 x1 v1 ev1) hdX2_isShip q_332 q_333 q_51 q_335 q_334 ⟨Nat.le_of_ble_eq_true rfl, Nat.le_of_ble_eq_true rfl⟩ rfl rfl (Nat.le_of_ble_eq_true rfl) ⟨Nat.le_refl _, Nat.le_refl _⟩ dX2_giver_2 (fun H locs hG hL => ?_)
  refine lv_if_eq (tgt := 27) K.1 K.2.1 dX2_giver_5 (by decide) (fun h3 => ?_) (fun h3 => ?_)
  · rw [if_pos h3] at hf
    refine lv_bipush (v := (-4)) K.1 K.2.1 dX2_giver_27 (by decide) ?_
    have hf := Option.some.inj hf
    subst hf
    exact ah_iret K hG hL (Nat.le_refl _) (Nat.le_refl _) dX2_giver_29
  · rw [if_neg h3] at hf
    refine lv_aload_n K.1 K.2.1 dX2_giver_8 rfl (lv_at hl 0 rfl) ?_
    obtain ⟨v4, ev4, hf⟩ := Option.bind_eq_some_iff.mp hf
    refine ah_getr K hG ev4 ffX2_11_2 dX2_giver_9 ?_
    refine lv_iload_n K.1 K.2.1 dX2_giver_12 rfl (lv_at hl 1 rfl) ?_
    obtain ⟨v5, ev5, hf⟩ := Option.bind_eq_some_iff.mp hf
    refine ah_aald (t := 2) K hG ev5 rfl rfl dX2_giver_13 ?_
    refine lv_aload_n K.1 K.2.1 dX2_giver_14 rfl (lv_at hl 0 rfl) ?_
    refine lv_aload_n K.1 K.2.1 dX2_giver_15 rfl (lv_at hl 0 rfl) ?_
    obtain ⟨v6, ev6, hf⟩ := Option.bind_eq_some_iff.mp hf
    refine ah_getr K hG ev6 ffX2_20_2 dX2_giver_16 ?_
    refine lv_iload_n K.1 K.2.1 dX2_giver_19 rfl (lv_at hl 1 rfl) ?_
    obtain ⟨v7, ev7, hf⟩ := Option.bind_eq_some_iff.mp hf
    refine ah_iald K hG ev7 dX2_giver_20 ?_
    obtain ⟨v8, ev8, hf⟩ := Option.bind_eq_some_iff.mp hf
    refine dv_gift_call (rest := []) K hG hL hl.1 ev8 q_356 (Nat.le_of_ble_eq_true rfl) (Nat.le_of_ble_eq_true rfl) rfl (Nat.le_of_ble_eq_true rfl) ⟨Nat.le_refl _, Nat.le_refl _⟩ dX2_giver_21 (fun H locs hG hL => ?_)
    refine lv_goto (tgt := 29) K.1 K.2.1 dX2_giver_24 (by decide) ?_
    have hf := Option.some.inj hf
    subst hf
    exact ah_iret K hG hL (Nat.le_refl _) (Nat.le_refl _) dX2_giver_29
def fX2_fillGivers_2_b   (k2 : ah_h → Nat → Nat → Int32 → Option (ah_h))  (M : ah_h) (a0 : Nat) (a1 : Nat) (x2 : Int32) : Option (ah_h) := if 5 ≤ x2 then (some M) else ((ah_al M a1).bind fun v2 => if v2 ≤ x2 then (some M) else ((fX2_giver M a0 x2).bind fun v4 => (ah_si M a1 x2 v4).bind fun M6 => k2 M6 a0 a1 (x2 + 1)))
def fX2_fillGivers_2    : Nat → ah_h → Nat → Nat → Int32 → Option (ah_h)
  | 0 => fun _ _ _ _ => none
  | n + 1 => fun M a0 a1 x2 => fX2_fillGivers_2_b   (fX2_fillGivers_2    n)  M a0 a1 x2
set_option maxRecDepth 100000 in
set_option maxHeartbeats 4000000 in
theorem wX2_fillGivers_2_b {p : Program} {l : Launch} {e : Env} {s : State} {m : MethodId} {args : Array Value} {below : List Frame} {meth : Method} {c : Code} {D : va_G} {ca : Nat → ClassId} {H0 : Heap} {z : Nat} (K : ah_K p s m args meth c D ca "ShipsThatMeet$Fleet" cX2_fillGivers 3 none)   (k2 : ah_h → Nat → Nat → Int32 → Option (ah_h)) (hk2 : ∀ (M : ah_h) (a0 : Nat) (a1 : Nat) (x2 : Int32)  (H : Heap) (locs : List Loc) (ls : Array Slot), ah_g H0 D ca M z H → ah_L H0 locs → lv_has ls 3 [(0, .ref a0), (1, .ref a1), (2, .int x2)] → ∀ Z, k2 M a0 a1 x2 = some Z → W p l e { frames := 4, cells := 0, slots := 0, locals := 93 } s m args below meth c H locs 0 0 (ah_Q below args s H0 D ca 0 0 none Z z) (F0 m 2 ls [])) : ∀ (M : ah_h) (a0 : Nat) (a1 : Nat) (x2 : Int32)  (H : Heap) (locs : List Loc) (ls : Array Slot), ah_g H0 D ca M z H → ah_L H0 locs → lv_has ls 3 [(0, .ref a0), (1, .ref a1), (2, .int x2)] → ∀ Z, fX2_fillGivers_2_b   k2  M a0 a1 x2 = some Z → W p l e { frames := 4, cells := 0, slots := 0, locals := 93 } s m args below meth c H locs 0 0 (ah_Q below args s H0 D ca 0 0 none Z z) (F0 m 2 ls []) := by
  intro M a0 a1 x2 H locs ls hG hL hl Z hf
  unfold fX2_fillGivers_2_b at hf
  refine lv_iload_n K.1 K.2.1 dX2_fillGivers_2 rfl (lv_at hl 2 rfl) ?_
  refine lv_iconst (v := 5) K.1 K.2.1 dX2_fillGivers_3 (by decide) ?_
  refine lv_icmp_ge (tgt := 27) K.1 K.2.1 dX2_fillGivers_4 (by decide) (fun h1 => ?_) (fun h1 => ?_)
  · rw [if_pos h1] at hf
    have hf := Option.some.inj hf
    subst hf
    exact ah_vret K hG hL (Nat.le_refl _) (Nat.le_refl _) dX2_fillGivers_27
  · rw [if_neg h1] at hf
    refine lv_iload_n K.1 K.2.1 dX2_fillGivers_7 rfl (lv_at hl 2 rfl) ?_
    refine lv_aload_n K.1 K.2.1 dX2_fillGivers_8 rfl (lv_at hl 1 rfl) ?_
    obtain ⟨v2, ev2, hf⟩ := Option.bind_eq_some_iff.mp hf
    refine ah_ale K hG ev2 dX2_fillGivers_9 ?_
    refine lv_icmp_ge (tgt := 27) K.1 K.2.1 dX2_fillGivers_10 (by decide) (fun h3 => ?_) (fun h3 => ?_)
    · rw [if_pos h3] at hf
      have hf := Option.some.inj hf
      subst hf
      exact ah_vret K hG hL (Nat.le_refl _) (Nat.le_refl _) dX2_fillGivers_27
    · rw [if_neg h3] at hf
      refine lv_aload_n K.1 K.2.1 dX2_fillGivers_13 rfl (lv_at hl 1 rfl) ?_
      refine lv_iload_n K.1 K.2.1 dX2_fillGivers_14 rfl (lv_at hl 2 rfl) ?_
      refine lv_aload_n K.1 K.2.1 dX2_fillGivers_15 rfl (lv_at hl 0 rfl) ?_
      refine lv_iload_n K.1 K.2.1 dX2_fillGivers_16 rfl (lv_at hl 2 rfl) ?_
      obtain ⟨v4, ev4, hf⟩ := Option.bind_eq_some_iff.mp hf
      obtain ⟨q5, eq5⟩ := ah_this ev4
      refine ah_callV (As := [.int x2]) (rest := [.int x2, .ref a1]) K hG hL hl.1 eq5 rfl (ctX2_giver l H0 D ca M z a0 x2 v4 ev4) hdX2_giver q_352 q_353 q_51 q_355 q_354 ⟨Nat.le_of_ble_eq_true rfl, Nat.le_of_ble_eq_true rfl⟩ rfl rfl (Nat.le_of_ble_eq_true rfl) ⟨Nat.le_refl _, Nat.le_refl _⟩ dX2_fillGivers_17 (fun H locs hG hL => ?_)
      obtain ⟨M6, eM6, hf⟩ := Option.bind_eq_some_iff.mp hf
      refine ah_iast K hG hL eM6 dX2_fillGivers_20 (fun H locs hG hL => ?_)
      refine lv_iinc (v := x2 + 1) (lv' := [(2, .int (x2 + 1)), (0, .ref a0), (1, .ref a1)]) K.1 K.2.1 dX2_fillGivers_21 hl (k := 2) rfl rfl (by decide) rfl (fun ls hl => ?_)
      refine lv_goto (tgt := 2) K.1 K.2.1 dX2_fillGivers_24 (by decide) ?_
      exact hk2 M6 a0 a1 (x2 + 1) _ _ _ hG hL (lv_sub hl [1, 2, 0] rfl) _ hf
theorem wX2_fillGivers_2 {p : Program} {l : Launch} {e : Env} {s : State} {m : MethodId} {args : Array Value} {below : List Frame} {meth : Method} {c : Code} {D : va_G} {ca : Nat → ClassId} {H0 : Heap} {z : Nat} (K : ah_K p s m args meth c D ca "ShipsThatMeet$Fleet" cX2_fillGivers 3 none)   (n : Nat) : ∀ (M : ah_h) (a0 : Nat) (a1 : Nat) (x2 : Int32)  (H : Heap) (locs : List Loc) (ls : Array Slot), ah_g H0 D ca M z H → ah_L H0 locs → lv_has ls 3 [(0, .ref a0), (1, .ref a1), (2, .int x2)] → ∀ Z, fX2_fillGivers_2    n M a0 a1 x2 = some Z → W p l e { frames := 4, cells := 0, slots := 0, locals := 93 } s m args below meth c H locs 0 0 (ah_Q below args s H0 D ca 0 0 none Z z) (F0 m 2 ls []) := by
  induction n with
  | zero => intro M a0 a1 x2 H locs ls hG hL hl Z hf; cases hf
  | succ n ih => exact wX2_fillGivers_2_b K  _ ih
def fX2_fillGivers (M : ah_h) (a0 : Nat) (x1 : Nat) : Option (ah_h) := (ah_ob M a0 2).bind fun _ => fX2_fillGivers_2 ah_fu M a0 x1 0
set_option maxRecDepth 100000 in
set_option maxHeartbeats 4000000 in
theorem ctX2_fillGivers (l : Launch) (H0 : Heap) (D : va_G) (ca : Nat → ClassId) (M : ah_h) (z : Nat) (a0 : Nat) (x1 : Nat) (Z : ah_h) (hf : fX2_fillGivers M a0 x1 = some Z) : ah_ct l H0 D ca yX2_fillGivers cX2_fillGivers 3 none 4 93 0 0 [.ref a0, .ref x1] M z none Z z := by
  refine ah_of (by decide) (Nat.le_of_ble_eq_true rfl) ?_
  intro p e s m below meth c ls hin K hG hl
  have hL : ah_L H0 [] := ah_L.nil
  have hl : lv_has ls 3 [(0, .ref a0), (1, .ref x1)] := hl
  unfold fX2_fillGivers at hf
  obtain ⟨-, -, hf⟩ := Option.bind_eq_some_iff.mp hf
  refine lv_iconst (v := 0) K.1 K.2.1 dX2_fillGivers_0 (by decide) ?_
  refine lv_istore_n (lv' := [(2, .int 0), (0, .ref a0), (1, .ref x1)]) K.1 K.2.1 dX2_fillGivers_1 rfl hl (by decide) rfl (fun ls hl => ?_)
  exact wX2_fillGivers_2 K  ah_fu M a0 x1 0 _ _ _ hG hL (lv_sub hl [1, 2, 0] rfl) _ hf
def fX2_holdMeeting (M : ah_h) (a0 : Nat) (x1 : Int32) (x2 : Int32) : Option (Int32 × ah_h) := (ah_ob M a0 2).bind fun _ => (fX2_canMeet M a0 x1 x2).bind fun v1 => if v1 = 0 then (some (0, M)) else ((fX2_giver M a0 x1).bind fun v4 => (fX2_giver M a0 x2).bind fun v6 => (fX2_exchange M a0 x1 x2 v4 v6).bind fun v8 => (fX2_acquaint v8 a0 x1).bind fun v10 => (fX2_acquaint v10 a0 x2).bind fun v12 => some (1, v12))
set_option maxRecDepth 100000 in
set_option maxHeartbeats 4000000 in
theorem ctX2_holdMeeting (l : Launch) (H0 : Heap) (D : va_G) (ca : Nat → ClassId) (M : ah_h) (z : Nat) (a0 : Nat) (x1 : Int32) (x2 : Int32) (Z : Int32 × ah_h) (hf : fX2_holdMeeting M a0 x1 x2 = some Z) : ah_ct l H0 D ca yX2_holdMeeting cX2_holdMeeting 3 (some .boolean) 4 93 0 0 [.ref a0, .int x1, .int x2] M z (some (.int Z.1)) Z.2 z := by
  refine ah_of (by decide) (Nat.le_of_ble_eq_true rfl) ?_
  intro p e s m below meth c ls hin K hG hl
  have hL : ah_L H0 [] := ah_L.nil
  have hl : lv_has ls 3 [(0, .ref a0), (1, .int x1), (2, .int x2)] := hl
  unfold fX2_holdMeeting at hf
  obtain ⟨-, -, hf⟩ := Option.bind_eq_some_iff.mp hf
  refine lv_aload_n K.1 K.2.1 dX2_holdMeeting_0 rfl (lv_at hl 0 rfl) ?_
  refine lv_iload_n K.1 K.2.1 dX2_holdMeeting_1 rfl (lv_at hl 1 rfl) ?_
  refine lv_iload_n K.1 K.2.1 dX2_holdMeeting_2 rfl (lv_at hl 2 rfl) ?_
  obtain ⟨v1, ev1, hf⟩ := Option.bind_eq_some_iff.mp hf
  obtain ⟨q2, eq2⟩ := ah_this ev1
  refine ah_callV (As := [.int x1, .int x2]) (rest := []) K hG hL hl.1 eq2 rfl (ctX2_canMeet l H0 D ca M z a0 x1 x2 v1 ev1) hdX2_canMeet q_344 q_345 q_51 q_347 q_346 ⟨Nat.le_of_ble_eq_true rfl, Nat.le_of_ble_eq_true rfl⟩ rfl rfl (Nat.le_of_ble_eq_true rfl) ⟨Nat.le_refl _, Nat.le_refl _⟩ dX2_holdMeeting_3 (fun H locs hG hL => ?_)
  refine lv_if_ne (tgt := 11) K.1 K.2.1 dX2_holdMeeting_6 (by decide) (fun h3 => ?_) (fun h3 => ?_)
  · rw [if_neg h3] at hf
    refine lv_aload_n K.1 K.2.1 dX2_holdMeeting_11 rfl (lv_at hl 0 rfl) ?_
    refine lv_iload_n K.1 K.2.1 dX2_holdMeeting_12 rfl (lv_at hl 1 rfl) ?_
    refine lv_iload_n K.1 K.2.1 dX2_holdMeeting_13 rfl (lv_at hl 2 rfl) ?_
    refine lv_aload_n K.1 K.2.1 dX2_holdMeeting_14 rfl (lv_at hl 0 rfl) ?_
    refine lv_iload_n K.1 K.2.1 dX2_holdMeeting_15 rfl (lv_at hl 1 rfl) ?_
    obtain ⟨v4, ev4, hf⟩ := Option.bind_eq_some_iff.mp hf
    obtain ⟨q5, eq5⟩ := ah_this ev4
    refine ah_callV (As := [.int x1]) (rest := [.int x2, .int x1, .ref a0]) K hG hL hl.1 eq5 rfl (ctX2_giver l H0 D ca M z a0 x1 v4 ev4) hdX2_giver q_352 q_353 q_51 q_355 q_354 ⟨Nat.le_of_ble_eq_true rfl, Nat.le_of_ble_eq_true rfl⟩ rfl rfl (Nat.le_of_ble_eq_true rfl) ⟨Nat.le_refl _, Nat.le_refl _⟩ dX2_holdMeeting_16 (fun H locs hG hL => ?_)
    refine lv_aload_n K.1 K.2.1 dX2_holdMeeting_19 rfl (lv_at hl 0 rfl) ?_
    refine lv_iload_n K.1 K.2.1 dX2_holdMeeting_20 rfl (lv_at hl 2 rfl) ?_
    obtain ⟨v6, ev6, hf⟩ := Option.bind_eq_some_iff.mp hf
    obtain ⟨q7, eq7⟩ := ah_this ev6
    refine ah_callV (As := [.int x2]) (rest := [.int v4, .int x2, .int x1, .ref a0]) K hG hL hl.1 eq7 rfl (ctX2_giver l H0 D ca M z a0 x2 v6 ev6) hdX2_giver q_352 q_353 q_51 q_355 q_354 ⟨Nat.le_of_ble_eq_true rfl, Nat.le_of_ble_eq_true rfl⟩ rfl rfl (Nat.le_of_ble_eq_true rfl) ⟨Nat.le_refl _, Nat.le_refl _⟩ dX2_holdMeeting_21 (fun H locs hG hL => ?_)
    obtain ⟨v8, ev8, hf⟩ := Option.bind_eq_some_iff.mp hf
    obtain ⟨q9, eq9⟩ := ah_this ev8
    refine ah_callV (As := [.int x1, .int x2, .int v4, .int v6]) (rest := []) K hG hL hl.1 eq9 rfl (ctX2_exchange l H0 D ca M z a0 x1 x2 v4 v6 v8 ev8) hdX2_exchange q_412 q_413 q_51 q_415 q_414 ⟨Nat.le_of_ble_eq_true rfl, Nat.le_of_ble_eq_true rfl⟩ rfl rfl (Nat.le_of_ble_eq_true rfl) ⟨Nat.le_refl _, Nat.le_refl _⟩ dX2_holdMeeting_24 (fun H locs hG hL => ?_)
    refine lv_aload_n K.1 K.2.1 dX2_holdMeeting_27 rfl (lv_at hl 0 rfl) ?_
    refine lv_iload_n K.1 K.2.1 dX2_holdMeeting_28 rfl (lv_at hl 1 rfl) ?_
    obtain ⟨v10, ev10, hf⟩ := Option.bind_eq_some_iff.mp hf
    obtain ⟨q11, eq11⟩ := ah_this ev10
    refine ah_callV (As := [.int x1]) (rest := []) K hG hL hl.1 eq11 rfl (ctX2_acquaint l H0 D ca v8 z a0 x1 v10 ev10) hdX2_acquaint q_336 q_337 q_51 q_339 q_338 ⟨Nat.le_of_ble_eq_true rfl, Nat.le_of_ble_eq_true rfl⟩ rfl rfl (Nat.le_of_ble_eq_true rfl) ⟨Nat.le_refl _, Nat.le_refl _⟩ dX2_holdMeeting_29 (fun H locs hG hL => ?_)
    refine lv_aload_n K.1 K.2.1 dX2_holdMeeting_32 rfl (lv_at hl 0 rfl) ?_
    refine lv_iload_n K.1 K.2.1 dX2_holdMeeting_33 rfl (lv_at hl 2 rfl) ?_
    obtain ⟨v12, ev12, hf⟩ := Option.bind_eq_some_iff.mp hf
    obtain ⟨q13, eq13⟩ := ah_this ev12
    refine ah_callV (As := [.int x2]) (rest := []) K hG hL hl.1 eq13 rfl (ctX2_acquaint l H0 D ca v10 z a0 x2 v12 ev12) hdX2_acquaint q_336 q_337 q_51 q_339 q_338 ⟨Nat.le_of_ble_eq_true rfl, Nat.le_of_ble_eq_true rfl⟩ rfl rfl (Nat.le_of_ble_eq_true rfl) ⟨Nat.le_refl _, Nat.le_refl _⟩ dX2_holdMeeting_34 (fun H locs hG hL => ?_)
    refine lv_iconst (v := 1) K.1 K.2.1 dX2_holdMeeting_37 (by decide) ?_
    have hf := Option.some.inj hf
    subst hf
    exact ah_zret K hG hL (Or.inr rfl) (Nat.le_refl _) (Nat.le_refl _) dX2_holdMeeting_38
  · rw [if_pos h3] at hf
    refine lv_iconst (v := 0) K.1 K.2.1 dX2_holdMeeting_9 (by decide) ?_
    have hf := Option.some.inj hf
    subst hf
    exact ah_zret K hG hL (Or.inl rfl) (Nat.le_refl _) (Nat.le_refl _) dX2_holdMeeting_10
def fX2_holdTold (M : ah_h) (a0 : Nat) (x1 : Nat) (x2 : Int32) : Option (ah_h) := (ah_ob M a0 2).bind fun _ => (fX7_one M x1 x2).bind fun v1 => (fX7_other M x1 x2).bind fun v3 => (fX2_holdMeeting M a0 v1 v3).bind fun v5 => some v5.2
set_option maxRecDepth 100000 in
set_option maxHeartbeats 4000000 in
theorem ctX2_holdTold (l : Launch) (H0 : Heap) (D : va_G) (ca : Nat → ClassId) (M : ah_h) (z : Nat) (a0 : Nat) (x1 : Nat) (x2 : Int32) (Z : ah_h) (hf : fX2_holdTold M a0 x1 x2 = some Z) : ah_ct l H0 D ca yX2_holdTold cX2_holdTold 3 none 5 115 0 0 [.ref a0, .ref x1, .int x2] M z none Z z := by
  refine ah_of (by decide) (Nat.le_of_ble_eq_true rfl) ?_
  intro p e s m below meth c ls hin K hG hl
  have hL : ah_L H0 [] := ah_L.nil
  have hl : lv_has ls 3 [(0, .ref a0), (1, .ref x1), (2, .int x2)] := hl
  unfold fX2_holdTold at hf
  obtain ⟨-, -, hf⟩ := Option.bind_eq_some_iff.mp hf
  refine lv_aload_n K.1 K.2.1 dX2_holdTold_0 rfl (lv_at hl 0 rfl) ?_
  refine lv_aload_n K.1 K.2.1 dX2_holdTold_1 rfl (lv_at hl 1 rfl) ?_
  refine lv_iload_n K.1 K.2.1 dX2_holdTold_2 rfl (lv_at hl 2 rfl) ?_
  obtain ⟨v1, ev1, hf⟩ := Option.bind_eq_some_iff.mp hf
  obtain ⟨q2, eq2⟩ := ah_this ev1
  refine ah_callV (As := [.int x2]) (rest := [.ref a0]) K hG hL hl.1 eq2 rfl (ctX7_one l H0 D ca M z x1 x2 v1 ev1) hdX7_one q_479 q_467 q_53 q_469 q_468 ⟨Nat.le_of_ble_eq_true rfl, Nat.le_of_ble_eq_true rfl⟩ rfl rfl (Nat.le_of_ble_eq_true rfl) ⟨Nat.le_refl _, Nat.le_refl _⟩ dX2_holdTold_3 (fun H locs hG hL => ?_)
  refine lv_aload_n K.1 K.2.1 dX2_holdTold_6 rfl (lv_at hl 1 rfl) ?_
  refine lv_iload_n K.1 K.2.1 dX2_holdTold_7 rfl (lv_at hl 2 rfl) ?_
  obtain ⟨v3, ev3, hf⟩ := Option.bind_eq_some_iff.mp hf
  obtain ⟨q4, eq4⟩ := ah_this ev3
  refine ah_callV (As := [.int x2]) (rest := [.int v1, .ref a0]) K hG hL hl.1 eq4 rfl (ctX7_other l H0 D ca M z x1 x2 v3 ev3) hdX7_other q_480 q_472 q_53 q_474 q_473 ⟨Nat.le_of_ble_eq_true rfl, Nat.le_of_ble_eq_true rfl⟩ rfl rfl (Nat.le_of_ble_eq_true rfl) ⟨Nat.le_refl _, Nat.le_refl _⟩ dX2_holdTold_8 (fun H locs hG hL => ?_)
  obtain ⟨v5, ev5, hf⟩ := Option.bind_eq_some_iff.mp hf
  obtain ⟨q6, eq6⟩ := ah_this ev5
  refine ah_callV (As := [.int v1, .int v3]) (rest := []) K hG hL hl.1 eq6 rfl (ctX2_holdMeeting l H0 D ca M z a0 v1 v3 v5 ev5) hdX2_holdMeeting q_481 q_341 q_51 q_343 q_342 ⟨Nat.le_of_ble_eq_true rfl, Nat.le_of_ble_eq_true rfl⟩ rfl rfl (Nat.le_of_ble_eq_true rfl) ⟨Nat.le_refl _, Nat.le_refl _⟩ dX2_holdTold_11 (fun H locs hG hL => ?_)
  refine lv_pop K.1 K.2.1 dX2_holdTold_14 rfl ?_
  have hf := Option.some.inj hf
  subst hf
  exact ah_vret K hG hL (Nat.le_refl _) (Nat.le_refl _) dX2_holdTold_15
def fX2_lastMeeting_107    (M : ah_h) (a0 : Nat) (x2 : Int32) (x3 : Int32) (x4 : Int32) (x5 : Int32) (x6 : Int32) (x7 : Int32) (s0 : Int32) : Option (Int32 × ah_h) := (fX2_takeBack M a0 x3 x4 x2 x5 x6 x7).bind fun v1 => if s0 = 0 then (some ((-4), v1)) else ((fX10_nameOfMeeting v1 x3 x4).bind fun v4 => some (v4, v1))
set_option maxRecDepth 100000 in
set_option maxHeartbeats 4000000 in
theorem wX2_lastMeeting_107 {p : Program} {l : Launch} {e : Env} {s : State} {m : MethodId} {args : Array Value} {below : List Frame} {meth : Method} {c : Code} {D : va_G} {ca : Nat → ClassId} {H0 : Heap} {z : Nat} (K : ah_K p s m args meth c D ca "ShipsThatMeet$Fleet" cX2_lastMeeting 9 (some .int))   : ∀ (M : ah_h) (a0 : Nat) (x2 : Int32) (x3 : Int32) (x4 : Int32) (x5 : Int32) (x6 : Int32) (x7 : Int32) (s0 : Int32)  (H : Heap) (locs : List Loc) (ls : Array Slot), ah_g H0 D ca M z H → ah_L H0 locs → lv_has ls 9 [(0, .ref a0), (2, .int x2), (3, .int x3), (4, .int x4), (5, .int x5), (6, .int x6), (7, .int x7)] → ∀ Z, fX2_lastMeeting_107    M a0 x2 x3 x4 x5 x6 x7 s0 = some Z → W p l e { frames := 4, cells := 0, slots := 0, locals := 93 } s m args below meth c H locs 0 0 (ah_Q below args s H0 D ca 0 0 (some (.int Z.1)) Z.2 z) (F0 m 107 ls [.int s0]) := by
  intro M a0 x2 x3 x4 x5 x6 x7 s0 H locs ls hG hL hl Z hf
  unfold fX2_lastMeeting_107 at hf
  refine lv_istore (lv' := [(8, .int s0), (0, .ref a0), (2, .int x2), (3, .int x3), (4, .int x4), (5, .int x5), (6, .int x6), (7, .int x7)]) K.1 K.2.1 dX2_lastMeeting_107 hl (by decide) rfl (fun ls hl => ?_)
  refine lv_aload_n K.1 K.2.1 dX2_lastMeeting_109 rfl (lv_at hl 1 rfl) ?_
  refine lv_iload_n K.1 K.2.1 dX2_lastMeeting_110 rfl (lv_at hl 3 rfl) ?_
  refine lv_iload K.1 K.2.1 dX2_lastMeeting_111 (lv_at hl 4 rfl) ?_
  refine lv_iload_n K.1 K.2.1 dX2_lastMeeting_113 rfl (lv_at hl 2 rfl) ?_
  refine lv_iload K.1 K.2.1 dX2_lastMeeting_114 (lv_at hl 5 rfl) ?_
  refine lv_iload K.1 K.2.1 dX2_lastMeeting_116 (lv_at hl 6 rfl) ?_
  refine lv_iload K.1 K.2.1 dX2_lastMeeting_118 (lv_at hl 7 rfl) ?_
  obtain ⟨v1, ev1, hf⟩ := Option.bind_eq_some_iff.mp hf
  obtain ⟨q2, eq2⟩ := ah_this ev1
  refine ah_callV (As := [.int x3, .int x4, .int x2, .int x5, .int x6, .int x7]) (rest := []) K hG hL hl.1 eq2 rfl (ctX2_takeBack l H0 D ca M z a0 x3 x4 x2 x5 x6 x7 v1 ev1) hdX2_takeBack q_541 q_542 q_51 q_544 q_543 ⟨Nat.le_of_ble_eq_true rfl, Nat.le_of_ble_eq_true rfl⟩ rfl rfl (Nat.le_of_ble_eq_true rfl) ⟨Nat.le_refl _, Nat.le_refl _⟩ dX2_lastMeeting_120 (fun H locs hG hL => ?_)
  refine lv_iload K.1 K.2.1 dX2_lastMeeting_123 (lv_at hl 0 rfl) ?_
  refine lv_if_eq (tgt := 137) K.1 K.2.1 dX2_lastMeeting_125 (by decide) (fun h3 => ?_) (fun h3 => ?_)
  · rw [if_pos h3] at hf
    refine lv_bipush (v := (-4)) K.1 K.2.1 dX2_lastMeeting_137 (by decide) ?_
    have hf := Option.some.inj hf
    subst hf
    exact ah_iret K hG hL (Nat.le_refl _) (Nat.le_refl _) dX2_lastMeeting_139
  · rw [if_neg h3] at hf
    refine lv_iload_n K.1 K.2.1 dX2_lastMeeting_128 rfl (lv_at hl 3 rfl) ?_
    refine lv_iload K.1 K.2.1 dX2_lastMeeting_129 (lv_at hl 4 rfl) ?_
    obtain ⟨v4, ev4, hf⟩ := Option.bind_eq_some_iff.mp hf
    refine ah_callSN (As := [.int x3, .int x4]) (rest := []) K hG hL hl.1 (ctX10_nameOfMeeting l H0 D ca v1 z x3 x4 v4 ev4) hdX10_nameOfMeeting (host := "ShipsThatMeet") (by simp [ah_nM]) q_546 q_50 q_547 ⟨Nat.le_of_ble_eq_true rfl, Nat.le_of_ble_eq_true rfl⟩ rfl rfl (Nat.le_of_ble_eq_true rfl) ⟨Nat.le_refl _, Nat.le_refl _⟩ dX2_lastMeeting_131 (fun H locs hG hL => ?_)
    refine lv_goto (tgt := 139) K.1 K.2.1 dX2_lastMeeting_134 (by decide) ?_
    have hf := Option.some.inj hf
    subst hf
    exact ah_iret K hG hL (Nat.le_refl _) (Nat.le_refl _) dX2_lastMeeting_139
def fX2_lastMeeting (M : ah_h) (a0 : Nat) (x1 : Nat) : Option (Int32 × ah_h) := (ah_ob M a0 2).bind fun _ => (fX2_firstAstray M a0 x1).bind fun v1 => if 0 ≤ v1 then ((ah_gr M a0 2 5).bind fun v4 => (ah_ai M v4 v1).bind fun v5 => (ah_ai M x1 v1).bind fun v6 => (fX2_canMeet M a0 v5 v6).bind fun v7 => if v7 = 0 then (some ((-4), M)) else ((fX2_giver M a0 v5).bind fun v10 => if v10 = v1 then ((fX2_giver M a0 v6).bind fun v13 => (fX2_isMan M a0 v13).bind fun v15 => if v15 = 0 then (some ((-4), M)) else ((ah_gr M a0 2 8).bind fun v18 => (ah_ai M v18 v1).bind fun v19 => (ah_gr M a0 2 8).bind fun v20 => (ah_ai M v20 v13).bind fun v21 => (fX2_exchange M a0 v5 v6 v1 v13).bind fun v22 => (fX2_firstAstray v22 a0 x1).bind fun v24 => if 0 ≤ v24 then (fX2_lastMeeting_107 v22 a0 v1 v5 v6 v13 v19 v21 0) else (fX2_lastMeeting_107 v22 a0 v1 v5 v6 v13 v19 v21 1))) else (some ((-4), M)))) else (some ((-4), M))
set_option maxRecDepth 100000 in
set_option maxHeartbeats 4000000 in
theorem ctX2_lastMeeting (l : Launch) (H0 : Heap) (D : va_G) (ca : Nat → ClassId) (M : ah_h) (z : Nat) (a0 : Nat) (x1 : Nat) (Z : Int32 × ah_h) (hf : fX2_lastMeeting M a0 x1 = some Z) : ah_ct l H0 D ca yX2_lastMeeting cX2_lastMeeting 9 (some .int) 4 93 0 0 [.ref a0, .ref x1] M z (some (.int Z.1)) Z.2 z := by
  refine ah_of (by decide) (Nat.le_of_ble_eq_true rfl) ?_
  intro p e s m below meth c ls hin K hG hl
  have hL : ah_L H0 [] := ah_L.nil
  have hl : lv_has ls 9 [(0, .ref a0), (1, .ref x1)] := hl
  unfold fX2_lastMeeting at hf
  obtain ⟨-, -, hf⟩ := Option.bind_eq_some_iff.mp hf
  refine lv_aload_n K.1 K.2.1 dX2_lastMeeting_0 rfl (lv_at hl 0 rfl) ?_
  refine lv_aload_n K.1 K.2.1 dX2_lastMeeting_1 rfl (lv_at hl 1 rfl) ?_
  obtain ⟨v1, ev1, hf⟩ := Option.bind_eq_some_iff.mp hf
  obtain ⟨q2, eq2⟩ := ah_this ev1
  refine ah_callV (As := [.ref x1]) (rest := []) K hG hL hl.1 eq2 rfl (ctX2_firstAstray l H0 D ca M z a0 x1 v1 ev1) hdX2_firstAstray q_540 q_526 q_51 q_528 q_527 ⟨Nat.le_of_ble_eq_true rfl, Nat.le_of_ble_eq_true rfl⟩ rfl rfl (Nat.le_of_ble_eq_true rfl) ⟨Nat.le_refl _, Nat.le_refl _⟩ dX2_lastMeeting_2 (fun H locs hG hL => ?_)
  refine lv_istore_n (lv' := [(2, .int v1), (0, .ref a0), (1, .ref x1)]) K.1 K.2.1 dX2_lastMeeting_5 rfl hl (by decide) rfl (fun ls hl => ?_)
  refine lv_iload_n K.1 K.2.1 dX2_lastMeeting_6 rfl (lv_at hl 0 rfl) ?_
  refine lv_if_ge (tgt := 13) K.1 K.2.1 dX2_lastMeeting_7 (by decide) (fun h3 => ?_) (fun h3 => ?_)
  · rw [if_pos h3] at hf
    refine lv_aload_n K.1 K.2.1 dX2_lastMeeting_13 rfl (lv_at hl 1 rfl) ?_
    obtain ⟨v4, ev4, hf⟩ := Option.bind_eq_some_iff.mp hf
    refine ah_getr K hG ev4 ffX2_24_2 dX2_lastMeeting_14 ?_
    refine lv_iload_n K.1 K.2.1 dX2_lastMeeting_17 rfl (lv_at hl 0 rfl) ?_
    obtain ⟨v5, ev5, hf⟩ := Option.bind_eq_some_iff.mp hf
    refine ah_iald K hG ev5 dX2_lastMeeting_18 ?_
    refine lv_istore_n (lv' := [(3, .int v5), (2, .int v1), (0, .ref a0), (1, .ref x1)]) K.1 K.2.1 dX2_lastMeeting_19 rfl hl (by decide) rfl (fun ls hl => ?_)
    refine lv_aload_n K.1 K.2.1 dX2_lastMeeting_20 rfl (lv_at hl 3 rfl) ?_
    refine lv_iload_n K.1 K.2.1 dX2_lastMeeting_21 rfl (lv_at hl 1 rfl) ?_
    obtain ⟨v6, ev6, hf⟩ := Option.bind_eq_some_iff.mp hf
    refine ah_iald K hG ev6 dX2_lastMeeting_22 ?_
    refine lv_istore (lv' := [(4, .int v6), (3, .int v5), (2, .int v1), (0, .ref a0), (1, .ref x1)]) K.1 K.2.1 dX2_lastMeeting_23 hl (by decide) rfl (fun ls hl => ?_)
    refine lv_aload_n K.1 K.2.1 dX2_lastMeeting_25 rfl (lv_at hl 3 rfl) ?_
    refine lv_iload_n K.1 K.2.1 dX2_lastMeeting_26 rfl (lv_at hl 1 rfl) ?_
    refine lv_iload K.1 K.2.1 dX2_lastMeeting_27 (lv_at hl 0 rfl) ?_
    obtain ⟨v7, ev7, hf⟩ := Option.bind_eq_some_iff.mp hf
    obtain ⟨q8, eq8⟩ := ah_this ev7
    refine ah_callV (As := [.int v5, .int v6]) (rest := []) K hG hL hl.1 eq8 rfl (ctX2_canMeet l H0 D ca M z a0 v5 v6 v7 ev7) hdX2_canMeet q_344 q_345 q_51 q_347 q_346 ⟨Nat.le_of_ble_eq_true rfl, Nat.le_of_ble_eq_true rfl⟩ rfl rfl (Nat.le_of_ble_eq_true rfl) ⟨Nat.le_refl _, Nat.le_refl _⟩ dX2_lastMeeting_29 (fun H locs hG hL => ?_)
    refine lv_if_eq (tgt := 44) K.1 K.2.1 dX2_lastMeeting_32 (by decide) (fun h9 => ?_) (fun h9 => ?_)
    · rw [if_pos h9] at hf
      refine lv_bipush (v := (-4)) K.1 K.2.1 dX2_lastMeeting_44 (by decide) ?_
      have hf := Option.some.inj hf
      subst hf
      exact ah_iret K hG hL (Nat.le_refl _) (Nat.le_refl _) dX2_lastMeeting_46
    · rw [if_neg h9] at hf
      refine lv_aload_n K.1 K.2.1 dX2_lastMeeting_35 rfl (lv_at hl 3 rfl) ?_
      refine lv_iload_n K.1 K.2.1 dX2_lastMeeting_36 rfl (lv_at hl 1 rfl) ?_
      obtain ⟨v10, ev10, hf⟩ := Option.bind_eq_some_iff.mp hf
      obtain ⟨q11, eq11⟩ := ah_this ev10
      refine ah_callV (As := [.int v5]) (rest := []) K hG hL hl.1 eq11 rfl (ctX2_giver l H0 D ca M z a0 v5 v10 ev10) hdX2_giver q_352 q_353 q_51 q_355 q_354 ⟨Nat.le_of_ble_eq_true rfl, Nat.le_of_ble_eq_true rfl⟩ rfl rfl (Nat.le_of_ble_eq_true rfl) ⟨Nat.le_refl _, Nat.le_refl _⟩ dX2_lastMeeting_37 (fun H locs hG hL => ?_)
      refine lv_iload_n K.1 K.2.1 dX2_lastMeeting_40 rfl (lv_at hl 2 rfl) ?_
      refine lv_icmp_eq (tgt := 47) K.1 K.2.1 dX2_lastMeeting_41 (by decide) (fun h12 => ?_) (fun h12 => ?_)
      · rw [if_pos h12] at hf
        refine lv_aload_n K.1 K.2.1 dX2_lastMeeting_47 rfl (lv_at hl 3 rfl) ?_
        refine lv_iload K.1 K.2.1 dX2_lastMeeting_48 (lv_at hl 0 rfl) ?_
        obtain ⟨v13, ev13, hf⟩ := Option.bind_eq_some_iff.mp hf
        obtain ⟨q14, eq14⟩ := ah_this ev13
        refine ah_callV (As := [.int v6]) (rest := []) K hG hL hl.1 eq14 rfl (ctX2_giver l H0 D ca M z a0 v6 v13 ev13) hdX2_giver q_352 q_353 q_51 q_355 q_354 ⟨Nat.le_of_ble_eq_true rfl, Nat.le_of_ble_eq_true rfl⟩ rfl rfl (Nat.le_of_ble_eq_true rfl) ⟨Nat.le_refl _, Nat.le_refl _⟩ dX2_lastMeeting_50 (fun H locs hG hL => ?_)
        refine lv_istore (lv' := [(5, .int v13), (4, .int v6), (3, .int v5), (2, .int v1), (0, .ref a0), (1, .ref x1)]) K.1 K.2.1 dX2_lastMeeting_53 hl (by decide) rfl (fun ls hl => ?_)
        refine lv_aload_n K.1 K.2.1 dX2_lastMeeting_55 rfl (lv_at hl 4 rfl) ?_
        refine lv_iload K.1 K.2.1 dX2_lastMeeting_56 (lv_at hl 0 rfl) ?_
        obtain ⟨v15, ev15, hf⟩ := Option.bind_eq_some_iff.mp hf
        obtain ⟨q16, eq16⟩ := ah_this ev15
        refine ah_callV (As := [.int v13]) (rest := []) K hG hL hl.1 eq16 rfl (ctX2_isMan l H0 D ca M z a0 v13 v15 ev15) hdX2_isMan q_416 q_417 q_51 q_419 q_418 ⟨Nat.le_of_ble_eq_true rfl, Nat.le_of_ble_eq_true rfl⟩ rfl rfl (Nat.le_of_ble_eq_true rfl) ⟨Nat.le_refl _, Nat.le_refl _⟩ dX2_lastMeeting_58 (fun H locs hG hL => ?_)
        refine lv_if_ne (tgt := 67) K.1 K.2.1 dX2_lastMeeting_61 (by decide) (fun h17 => ?_) (fun h17 => ?_)
        · rw [if_neg h17] at hf
          refine lv_aload_n K.1 K.2.1 dX2_lastMeeting_67 rfl (lv_at hl 4 rfl) ?_
          obtain ⟨v18, ev18, hf⟩ := Option.bind_eq_some_iff.mp hf
          refine ah_getr K hG ev18 ffX2_33_2 dX2_lastMeeting_68 ?_
          refine lv_iload_n K.1 K.2.1 dX2_lastMeeting_71 rfl (lv_at hl 3 rfl) ?_
          obtain ⟨v19, ev19, hf⟩ := Option.bind_eq_some_iff.mp hf
          refine ah_iald K hG ev19 dX2_lastMeeting_72 ?_
          refine lv_istore (lv' := [(6, .int v19), (5, .int v13), (4, .int v6), (3, .int v5), (2, .int v1), (0, .ref a0), (1, .ref x1)]) K.1 K.2.1 dX2_lastMeeting_73 hl (by decide) rfl (fun ls hl => ?_)
          refine lv_aload_n K.1 K.2.1 dX2_lastMeeting_75 rfl (lv_at hl 5 rfl) ?_
          obtain ⟨v20, ev20, hf⟩ := Option.bind_eq_some_iff.mp hf
          refine ah_getr K hG ev20 ffX2_33_2 dX2_lastMeeting_76 ?_
          refine lv_iload K.1 K.2.1 dX2_lastMeeting_79 (lv_at hl 1 rfl) ?_
          obtain ⟨v21, ev21, hf⟩ := Option.bind_eq_some_iff.mp hf
          refine ah_iald K hG ev21 dX2_lastMeeting_81 ?_
          refine lv_istore (lv' := [(7, .int v21), (6, .int v19), (5, .int v13), (4, .int v6), (3, .int v5), (2, .int v1), (0, .ref a0), (1, .ref x1)]) K.1 K.2.1 dX2_lastMeeting_82 hl (by decide) rfl (fun ls hl => ?_)
          refine lv_aload_n K.1 K.2.1 dX2_lastMeeting_84 rfl (lv_at hl 6 rfl) ?_
          refine lv_iload_n K.1 K.2.1 dX2_lastMeeting_85 rfl (lv_at hl 4 rfl) ?_
          refine lv_iload K.1 K.2.1 dX2_lastMeeting_86 (lv_at hl 3 rfl) ?_
          refine lv_iload_n K.1 K.2.1 dX2_lastMeeting_88 rfl (lv_at hl 5 rfl) ?_
          refine lv_iload K.1 K.2.1 dX2_lastMeeting_89 (lv_at hl 2 rfl) ?_
          obtain ⟨v22, ev22, hf⟩ := Option.bind_eq_some_iff.mp hf
          obtain ⟨q23, eq23⟩ := ah_this ev22
          refine ah_callV (As := [.int v5, .int v6, .int v1, .int v13]) (rest := []) K hG hL hl.1 eq23 rfl (ctX2_exchange l H0 D ca M z a0 v5 v6 v1 v13 v22 ev22) hdX2_exchange q_412 q_413 q_51 q_415 q_414 ⟨Nat.le_of_ble_eq_true rfl, Nat.le_of_ble_eq_true rfl⟩ rfl rfl (Nat.le_of_ble_eq_true rfl) ⟨Nat.le_refl _, Nat.le_refl _⟩ dX2_lastMeeting_91 (fun H locs hG hL => ?_)
          refine lv_aload_n K.1 K.2.1 dX2_lastMeeting_94 rfl (lv_at hl 6 rfl) ?_
          refine lv_aload_n K.1 K.2.1 dX2_lastMeeting_95 rfl (lv_at hl 7 rfl) ?_
          obtain ⟨v24, ev24, hf⟩ := Option.bind_eq_some_iff.mp hf
          obtain ⟨q25, eq25⟩ := ah_this ev24
          refine ah_callV (As := [.ref x1]) (rest := []) K hG hL hl.1 eq25 rfl (ctX2_firstAstray l H0 D ca v22 z a0 x1 v24 ev24) hdX2_firstAstray q_540 q_526 q_51 q_528 q_527 ⟨Nat.le_of_ble_eq_true rfl, Nat.le_of_ble_eq_true rfl⟩ rfl rfl (Nat.le_of_ble_eq_true rfl) ⟨Nat.le_refl _, Nat.le_refl _⟩ dX2_lastMeeting_96 (fun H locs hG hL => ?_)
          refine lv_if_ge (tgt := 106) K.1 K.2.1 dX2_lastMeeting_99 (by decide) (fun h26 => ?_) (fun h26 => ?_)
          · rw [if_pos h26] at hf
            refine lv_iconst (v := 0) K.1 K.2.1 dX2_lastMeeting_106 (by decide) ?_
            exact wX2_lastMeeting_107 K  v22 a0 v1 v5 v6 v13 v19 v21 0 _ _ _ hG hL (lv_sub hl [6, 5, 4, 3, 2, 1, 0] rfl) _ hf
          · rw [if_neg h26] at hf
            refine lv_iconst (v := 1) K.1 K.2.1 dX2_lastMeeting_102 (by decide) ?_
            refine lv_goto (tgt := 107) K.1 K.2.1 dX2_lastMeeting_103 (by decide) ?_
            exact wX2_lastMeeting_107 K  v22 a0 v1 v5 v6 v13 v19 v21 1 _ _ _ hG hL (lv_sub hl [6, 5, 4, 3, 2, 1, 0] rfl) _ hf
        · rw [if_pos h17] at hf
          refine lv_bipush (v := (-4)) K.1 K.2.1 dX2_lastMeeting_64 (by decide) ?_
          have hf := Option.some.inj hf
          subst hf
          exact ah_iret K hG hL (Nat.le_refl _) (Nat.le_refl _) dX2_lastMeeting_66
      · rw [if_neg h12] at hf
        refine lv_bipush (v := (-4)) K.1 K.2.1 dX2_lastMeeting_44 (by decide) ?_
        have hf := Option.some.inj hf
        subst hf
        exact ah_iret K hG hL (Nat.le_refl _) (Nat.le_refl _) dX2_lastMeeting_46
  · rw [if_neg h3] at hf
    refine lv_bipush (v := (-4)) K.1 K.2.1 dX2_lastMeeting_10 (by decide) ?_
    have hf := Option.some.inj hf
    subst hf
    exact ah_iret K hG hL (Nat.le_refl _) (Nat.le_refl _) dX2_lastMeeting_12
def fX10_ship (M : ah_h) (a0 : Nat) (x1 : Int32) (x2 : Int32) : Option (Int32) := (ah_ob M a0 10).bind fun _ => (ah_gr M a0 10 0).bind fun v1 => (fX2_isShip M v1 x1).bind fun v2 => if v2 = 0 then (some (-1)) else (if x2 = 0 then ((ah_gr M a0 10 0).bind fun v6 => (ah_gr M v6 2 3).bind fun v7 => (ah_ar M v7 2 x1).bind fun v8 => (ah_gc M v8 0).bind fun v9 => some v9) else if x2 = 1 then ((ah_gr M a0 10 0).bind fun v11 => (ah_gr M v11 2 3).bind fun v12 => (ah_ar M v12 2 x1).bind fun v13 => (ah_gc M v13 1).bind fun v14 => some v14) else if x2 = 2 then ((ah_gr M a0 10 0).bind fun v16 => (ah_gr M v16 2 4).bind fun v17 => (ah_ai M v17 x1).bind fun v18 => (fJ6_bitCount_0f7a4 M v18).bind fun v19 => some v19) else if x2 = 3 then ((ah_gr M a0 10 0).bind fun v21 => (ah_gr M v21 2 4).bind fun v22 => (ah_ai M v22 x1).bind fun v23 => some v23) else if x2 = 4 then ((ah_gr M a0 10 0).bind fun v25 => (fX2_giver M v25 x1).bind fun v26 => some v26) else (some (-1)))
set_option maxRecDepth 100000 in
set_option maxHeartbeats 4000000 in
theorem ctX10_ship (l : Launch) (H0 : Heap) (D : va_G) (ca : Nat → ClassId) (M : ah_h) (z : Nat) (a0 : Nat) (x1 : Int32) (x2 : Int32) (Z : Int32) (hf : fX10_ship M a0 x1 x2 = some Z) : ah_ct l H0 D ca yX10_ship cX10_ship 3 (some .int) 4 93 0 0 [.ref a0, .int x1, .int x2] M z (some (.int Z)) M z := by
  refine ah_of (by decide) (Nat.le_of_ble_eq_true rfl) ?_
  intro p e s m below meth c ls hin K hG hl
  have hL : ah_L H0 [] := ah_L.nil
  have hl : lv_has ls 3 [(0, .ref a0), (1, .int x1), (2, .int x2)] := hl
  unfold fX10_ship at hf
  obtain ⟨-, -, hf⟩ := Option.bind_eq_some_iff.mp hf
  refine lv_aload_n K.1 K.2.1 dX10_ship_0 rfl (lv_at hl 0 rfl) ?_
  obtain ⟨v1, ev1, hf⟩ := Option.bind_eq_some_iff.mp hf
  refine ah_getr K hG ev1 ffX10_10_10 dX10_ship_1 ?_
  refine lv_iload_n K.1 K.2.1 dX10_ship_4 rfl (lv_at hl 1 rfl) ?_
  obtain ⟨v2, ev2, hf⟩ := Option.bind_eq_some_iff.mp hf
  obtain ⟨q3, eq3⟩ := ah_this ev2
  refine ah_callV (As := [.int x1]) (rest := []) K hG hL hl.1 eq3 rfl (ctX2_isShip l H0 D ca M z v1 x1 v2 ev2) hdX2_isShip q_428 q_333 q_51 q_335 q_334 ⟨Nat.le_of_ble_eq_true rfl, Nat.le_of_ble_eq_true rfl⟩ rfl rfl (Nat.le_of_ble_eq_true rfl) ⟨Nat.le_refl _, Nat.le_refl _⟩ dX10_ship_5 (fun H locs hG hL => ?_)
  refine lv_if_ne (tgt := 13) K.1 K.2.1 dX10_ship_8 (by decide) (fun h4 => ?_) (fun h4 => ?_)
  · rw [if_neg h4] at hf
    refine lv_iload_n K.1 K.2.1 dX10_ship_13 rfl (lv_at hl 2 rfl) ?_
    by_cases h5 : x2 = 0
    · rw [if_pos h5] at hf
      refine lv_tableIn (off := 34) (tgt := 48) K.1 K.2.1 dX10_ship_14 (by rw [h5]; decide) (by rw [h5]; decide) (by rw [h5]; rfl) (by decide) ?_
      refine lv_aload_n K.1 K.2.1 dX10_ship_48 rfl (lv_at hl 0 rfl) ?_
      obtain ⟨v6, ev6, hf⟩ := Option.bind_eq_some_iff.mp hf
      refine ah_getr K hG ev6 ffX10_10_10 dX10_ship_49 ?_
      obtain ⟨v7, ev7, hf⟩ := Option.bind_eq_some_iff.mp hf
      refine ah_getr K hG ev7 ffX10_76_2 dX10_ship_52 ?_
      refine lv_iload_n K.1 K.2.1 dX10_ship_55 rfl (lv_at hl 1 rfl) ?_
      obtain ⟨v8, ev8, hf⟩ := Option.bind_eq_some_iff.mp hf
      refine ah_aald (t := 2) K hG ev8 rfl rfl dX10_ship_56 ?_
      obtain ⟨v9, ev9, hf⟩ := Option.bind_eq_some_iff.mp hf
      refine ah_getc K hG ev9 ffX10_80_c dX10_ship_57 ?_
      have hf := Option.some.inj hf
      subst hf
      exact ah_iret K hG hL (Nat.le_refl _) (Nat.le_refl _) dX10_ship_60
    rw [if_neg h5] at hf
    by_cases h10 : x2 = 1
    · rw [if_pos h10] at hf
      refine lv_tableIn (off := 47) (tgt := 61) K.1 K.2.1 dX10_ship_14 (by rw [h10]; decide) (by rw [h10]; decide) (by rw [h10]; rfl) (by decide) ?_
      refine lv_aload_n K.1 K.2.1 dX10_ship_61 rfl (lv_at hl 0 rfl) ?_
      obtain ⟨v11, ev11, hf⟩ := Option.bind_eq_some_iff.mp hf
      refine ah_getr K hG ev11 ffX10_10_10 dX10_ship_62 ?_
      obtain ⟨v12, ev12, hf⟩ := Option.bind_eq_some_iff.mp hf
      refine ah_getr K hG ev12 ffX10_76_2 dX10_ship_65 ?_
      refine lv_iload_n K.1 K.2.1 dX10_ship_68 rfl (lv_at hl 1 rfl) ?_
      obtain ⟨v13, ev13, hf⟩ := Option.bind_eq_some_iff.mp hf
      refine ah_aald (t := 2) K hG ev13 rfl rfl dX10_ship_69 ?_
      obtain ⟨v14, ev14, hf⟩ := Option.bind_eq_some_iff.mp hf
      refine ah_getc K hG ev14 ffX10_85_c dX10_ship_70 ?_
      have hf := Option.some.inj hf
      subst hf
      exact ah_iret K hG hL (Nat.le_refl _) (Nat.le_refl _) dX10_ship_73
    rw [if_neg h10] at hf
    by_cases h15 : x2 = 2
    · rw [if_pos h15] at hf
      refine lv_tableIn (off := 60) (tgt := 74) K.1 K.2.1 dX10_ship_14 (by rw [h15]; decide) (by rw [h15]; decide) (by rw [h15]; rfl) (by decide) ?_
      refine lv_aload_n K.1 K.2.1 dX10_ship_74 rfl (lv_at hl 0 rfl) ?_
      obtain ⟨v16, ev16, hf⟩ := Option.bind_eq_some_iff.mp hf
      refine ah_getr K hG ev16 ffX10_10_10 dX10_ship_75 ?_
      obtain ⟨v17, ev17, hf⟩ := Option.bind_eq_some_iff.mp hf
      refine ah_getr K hG ev17 ffX10_88_2 dX10_ship_78 ?_
      refine lv_iload_n K.1 K.2.1 dX10_ship_81 rfl (lv_at hl 1 rfl) ?_
      obtain ⟨v18, ev18, hf⟩ := Option.bind_eq_some_iff.mp hf
      refine ah_iald K hG ev18 dX10_ship_82 ?_
      obtain ⟨v19, ev19, hf⟩ := Option.bind_eq_some_iff.mp hf
      refine ah_callS (As := [.int v18]) (rest := []) K hG hL hl.1 (ctJ6_bitCount_0f7a4 l H0 D ca M z v18 v19 ev19) hdJ6_bitCount_0f7a4 q_429 q_389 q_62 q_390 ⟨Nat.le_of_ble_eq_true rfl, Nat.le_of_ble_eq_true rfl⟩ rfl rfl (Nat.le_of_ble_eq_true rfl) ⟨Nat.le_refl _, Nat.le_refl _⟩ dX10_ship_83 (fun H locs hG hL => ?_)
      have hf := Option.some.inj hf
      subst hf
      exact ah_iret K hG hL (Nat.le_refl _) (Nat.le_refl _) dX10_ship_86
    rw [if_neg h15] at hf
    by_cases h20 : x2 = 3
    · rw [if_pos h20] at hf
      refine lv_tableIn (off := 73) (tgt := 87) K.1 K.2.1 dX10_ship_14 (by rw [h20]; decide) (by rw [h20]; decide) (by rw [h20]; rfl) (by decide) ?_
      refine lv_aload_n K.1 K.2.1 dX10_ship_87 rfl (lv_at hl 0 rfl) ?_
      obtain ⟨v21, ev21, hf⟩ := Option.bind_eq_some_iff.mp hf
      refine ah_getr K hG ev21 ffX10_10_10 dX10_ship_88 ?_
      obtain ⟨v22, ev22, hf⟩ := Option.bind_eq_some_iff.mp hf
      refine ah_getr K hG ev22 ffX10_88_2 dX10_ship_91 ?_
      refine lv_iload_n K.1 K.2.1 dX10_ship_94 rfl (lv_at hl 1 rfl) ?_
      obtain ⟨v23, ev23, hf⟩ := Option.bind_eq_some_iff.mp hf
      refine ah_iald K hG ev23 dX10_ship_95 ?_
      have hf := Option.some.inj hf
      subst hf
      exact ah_iret K hG hL (Nat.le_refl _) (Nat.le_refl _) dX10_ship_96
    rw [if_neg h20] at hf
    by_cases h24 : x2 = 4
    · rw [if_pos h24] at hf
      refine lv_tableIn (off := 83) (tgt := 97) K.1 K.2.1 dX10_ship_14 (by rw [h24]; decide) (by rw [h24]; decide) (by rw [h24]; rfl) (by decide) ?_
      refine lv_aload_n K.1 K.2.1 dX10_ship_97 rfl (lv_at hl 0 rfl) ?_
      obtain ⟨v25, ev25, hf⟩ := Option.bind_eq_some_iff.mp hf
      refine ah_getr K hG ev25 ffX10_10_10 dX10_ship_98 ?_
      refine lv_iload_n K.1 K.2.1 dX10_ship_101 rfl (lv_at hl 1 rfl) ?_
      obtain ⟨v26, ev26, hf⟩ := Option.bind_eq_some_iff.mp hf
      obtain ⟨q27, eq27⟩ := ah_this ev26
      refine ah_callV (As := [.int x1]) (rest := []) K hG hL hl.1 eq27 rfl (ctX2_giver l H0 D ca M z v25 x1 v26 ev26) hdX2_giver q_430 q_353 q_51 q_355 q_354 ⟨Nat.le_of_ble_eq_true rfl, Nat.le_of_ble_eq_true rfl⟩ rfl rfl (Nat.le_of_ble_eq_true rfl) ⟨Nat.le_refl _, Nat.le_refl _⟩ dX10_ship_102 (fun H locs hG hL => ?_)
      have hf := Option.some.inj hf
      subst hf
      exact ah_iret K hG hL (Nat.le_refl _) (Nat.le_refl _) dX10_ship_105
    rw [if_neg h24] at hf
    have th5 := lv_neT (a := 0) h5 (by decide)
    have th10 := lv_neT (a := 1) h10 (by decide)
    have th15 := lv_neT (a := 2) h15 (by decide)
    have th20 := lv_neT (a := 3) h20 (by decide)
    have th24 := lv_neT (a := 4) h24 (by decide)
    refine lv_tableOut (tgt := 106) K.1 K.2.1 dX10_ship_14 (by omega) (by decide) ?_
    refine lv_iconst (v := (-1)) K.1 K.2.1 dX10_ship_106 (by decide) ?_
    have hf := Option.some.inj hf
    subst hf
    exact ah_iret K hG hL (Nat.le_refl _) (Nat.le_refl _) dX10_ship_107
  · rw [if_pos h4] at hf
    refine lv_iconst (v := (-1)) K.1 K.2.1 dX10_ship_11 (by decide) ?_
    have hf := Option.some.inj hf
    subst hf
    exact ah_iret K hG hL (Nat.le_refl _) (Nat.le_refl _) dX10_ship_12
def fX10_meet (M : ah_h) (a0 : Nat) (x1 : Int32) (x2 : Int32) : Option (Int32 × ah_h) := (ah_ob M a0 10).bind fun _ => (ah_gr M a0 10 0).bind fun v1 => (fX2_areUnlikeShips M v1 x1 x2).bind fun v2 => if v2 = 0 then (some ((-1), M)) else ((ah_gr M a0 10 0).bind fun v5 => (fX2_canMeet M v5 x1 x2).bind fun v6 => if v6 = 0 then (some ((-3), M)) else ((ah_gr M a0 10 0).bind fun v9 => (fX2_giver M v9 x1).bind fun v10 => (ah_gr M a0 10 0).bind fun v12 => (fX2_giver M v12 x2).bind fun v13 => (ah_gr M a0 10 0).bind fun v15 => (fX2_holdMeeting M v15 x1 x2).bind fun v16 => some ((100 * v10) + v13, v16.2)))
set_option maxRecDepth 100000 in
set_option maxHeartbeats 4000000 in
theorem ctX10_meet (l : Launch) (H0 : Heap) (D : va_G) (ca : Nat → ClassId) (M : ah_h) (z : Nat) (a0 : Nat) (x1 : Int32) (x2 : Int32) (Z : Int32 × ah_h) (hf : fX10_meet M a0 x1 x2 = some Z) : ah_ct l H0 D ca yX10_meet cX10_meet 4 (some .int) 5 115 0 0 [.ref a0, .int x1, .int x2] M z (some (.int Z.1)) Z.2 z := by
  refine ah_of (by decide) (Nat.le_of_ble_eq_true rfl) ?_
  intro p e s m below meth c ls hin K hG hl
  have hL : ah_L H0 [] := ah_L.nil
  have hl : lv_has ls 4 [(0, .ref a0), (1, .int x1), (2, .int x2)] := hl
  unfold fX10_meet at hf
  obtain ⟨-, -, hf⟩ := Option.bind_eq_some_iff.mp hf
  refine lv_aload_n K.1 K.2.1 dX10_meet_0 rfl (lv_at hl 0 rfl) ?_
  obtain ⟨v1, ev1, hf⟩ := Option.bind_eq_some_iff.mp hf
  refine ah_getr K hG ev1 ffX10_10_10 dX10_meet_1 ?_
  refine lv_iload_n K.1 K.2.1 dX10_meet_4 rfl (lv_at hl 1 rfl) ?_
  refine lv_iload_n K.1 K.2.1 dX10_meet_5 rfl (lv_at hl 2 rfl) ?_
  obtain ⟨v2, ev2, hf⟩ := Option.bind_eq_some_iff.mp hf
  obtain ⟨q3, eq3⟩ := ah_this ev2
  refine ah_callV (As := [.int x1, .int x2]) (rest := []) K hG hL hl.1 eq3 rfl (ctX2_areUnlikeShips l H0 D ca M z v1 x1 x2 v2 ev2) hdX2_areUnlikeShips q_448 q_349 q_51 q_351 q_350 ⟨Nat.le_of_ble_eq_true rfl, Nat.le_of_ble_eq_true rfl⟩ rfl rfl (Nat.le_of_ble_eq_true rfl) ⟨Nat.le_refl _, Nat.le_refl _⟩ dX10_meet_6 (fun H locs hG hL => ?_)
  refine lv_if_ne (tgt := 14) K.1 K.2.1 dX10_meet_9 (by decide) (fun h4 => ?_) (fun h4 => ?_)
  · rw [if_neg h4] at hf
    refine lv_aload_n K.1 K.2.1 dX10_meet_14 rfl (lv_at hl 0 rfl) ?_
    obtain ⟨v5, ev5, hf⟩ := Option.bind_eq_some_iff.mp hf
    refine ah_getr K hG ev5 ffX10_10_10 dX10_meet_15 ?_
    refine lv_iload_n K.1 K.2.1 dX10_meet_18 rfl (lv_at hl 1 rfl) ?_
    refine lv_iload_n K.1 K.2.1 dX10_meet_19 rfl (lv_at hl 2 rfl) ?_
    obtain ⟨v6, ev6, hf⟩ := Option.bind_eq_some_iff.mp hf
    obtain ⟨q7, eq7⟩ := ah_this ev6
    refine ah_callV (As := [.int x1, .int x2]) (rest := []) K hG hL hl.1 eq7 rfl (ctX2_canMeet l H0 D ca M z v5 x1 x2 v6 ev6) hdX2_canMeet q_449 q_345 q_51 q_347 q_346 ⟨Nat.le_of_ble_eq_true rfl, Nat.le_of_ble_eq_true rfl⟩ rfl rfl (Nat.le_of_ble_eq_true rfl) ⟨Nat.le_refl _, Nat.le_refl _⟩ dX10_meet_20 (fun H locs hG hL => ?_)
    refine lv_if_ne (tgt := 29) K.1 K.2.1 dX10_meet_23 (by decide) (fun h8 => ?_) (fun h8 => ?_)
    · rw [if_neg h8] at hf
      refine lv_bipush (v := 100) K.1 K.2.1 dX10_meet_29 (by decide) ?_
      refine lv_aload_n K.1 K.2.1 dX10_meet_31 rfl (lv_at hl 0 rfl) ?_
      obtain ⟨v9, ev9, hf⟩ := Option.bind_eq_some_iff.mp hf
      refine ah_getr K hG ev9 ffX10_10_10 dX10_meet_32 ?_
      refine lv_iload_n K.1 K.2.1 dX10_meet_35 rfl (lv_at hl 1 rfl) ?_
      obtain ⟨v10, ev10, hf⟩ := Option.bind_eq_some_iff.mp hf
      obtain ⟨q11, eq11⟩ := ah_this ev10
      refine ah_callV (As := [.int x1]) (rest := [.int 100]) K hG hL hl.1 eq11 rfl (ctX2_giver l H0 D ca M z v9 x1 v10 ev10) hdX2_giver q_430 q_353 q_51 q_355 q_354 ⟨Nat.le_of_ble_eq_true rfl, Nat.le_of_ble_eq_true rfl⟩ rfl rfl (Nat.le_of_ble_eq_true rfl) ⟨Nat.le_refl _, Nat.le_refl _⟩ dX10_meet_36 (fun H locs hG hL => ?_)
      refine lv_imul K.1 K.2.1 dX10_meet_39 ?_
      refine lv_aload_n K.1 K.2.1 dX10_meet_40 rfl (lv_at hl 0 rfl) ?_
      obtain ⟨v12, ev12, hf⟩ := Option.bind_eq_some_iff.mp hf
      refine ah_getr K hG ev12 ffX10_10_10 dX10_meet_41 ?_
      refine lv_iload_n K.1 K.2.1 dX10_meet_44 rfl (lv_at hl 2 rfl) ?_
      obtain ⟨v13, ev13, hf⟩ := Option.bind_eq_some_iff.mp hf
      obtain ⟨q14, eq14⟩ := ah_this ev13
      refine ah_callV (As := [.int x2]) (rest := [.int (100 * v10)]) K hG hL hl.1 eq14 rfl (ctX2_giver l H0 D ca M z v12 x2 v13 ev13) hdX2_giver q_430 q_353 q_51 q_355 q_354 ⟨Nat.le_of_ble_eq_true rfl, Nat.le_of_ble_eq_true rfl⟩ rfl rfl (Nat.le_of_ble_eq_true rfl) ⟨Nat.le_refl _, Nat.le_refl _⟩ dX10_meet_45 (fun H locs hG hL => ?_)
      refine lv_iadd K.1 K.2.1 dX10_meet_48 ?_
      refine lv_istore_n (lv' := [(3, .int ((100 * v10) + v13)), (0, .ref a0), (1, .int x1), (2, .int x2)]) K.1 K.2.1 dX10_meet_49 rfl hl (by decide) rfl (fun ls hl => ?_)
      refine lv_aload_n K.1 K.2.1 dX10_meet_50 rfl (lv_at hl 1 rfl) ?_
      obtain ⟨v15, ev15, hf⟩ := Option.bind_eq_some_iff.mp hf
      refine ah_getr K hG ev15 ffX10_10_10 dX10_meet_51 ?_
      refine lv_iload_n K.1 K.2.1 dX10_meet_54 rfl (lv_at hl 2 rfl) ?_
      refine lv_iload_n K.1 K.2.1 dX10_meet_55 rfl (lv_at hl 3 rfl) ?_
      obtain ⟨v16, ev16, hf⟩ := Option.bind_eq_some_iff.mp hf
      obtain ⟨q17, eq17⟩ := ah_this ev16
      refine ah_callV (As := [.int x1, .int x2]) (rest := []) K hG hL hl.1 eq17 rfl (ctX2_holdMeeting l H0 D ca M z v15 x1 x2 v16 ev16) hdX2_holdMeeting q_340 q_341 q_51 q_343 q_342 ⟨Nat.le_of_ble_eq_true rfl, Nat.le_of_ble_eq_true rfl⟩ rfl rfl (Nat.le_of_ble_eq_true rfl) ⟨Nat.le_refl _, Nat.le_refl _⟩ dX10_meet_56 (fun H locs hG hL => ?_)
      refine lv_pop K.1 K.2.1 dX10_meet_59 rfl ?_
      refine lv_iload_n K.1 K.2.1 dX10_meet_60 rfl (lv_at hl 0 rfl) ?_
      have hf := Option.some.inj hf
      subst hf
      exact ah_iret K hG hL (Nat.le_refl _) (Nat.le_refl _) dX10_meet_61
    · rw [if_pos h8] at hf
      refine lv_bipush (v := (-3)) K.1 K.2.1 dX10_meet_26 (by decide) ?_
      have hf := Option.some.inj hf
      subst hf
      exact ah_iret K hG hL (Nat.le_refl _) (Nat.le_refl _) dX10_meet_28
  · rw [if_pos h4] at hf
    refine lv_iconst (v := (-1)) K.1 K.2.1 dX10_meet_12 (by decide) ?_
    have hf := Option.some.inj hf
    subst hf
    exact ah_iret K hG hL (Nat.le_refl _) (Nat.le_refl _) dX10_meet_13
def fX10_where_35_b   (k35 : ah_h → Nat → Int32 → Nat → Int32 → Option (Int32 × ah_h))  (M : ah_h) (a0 : Nat) (x1 : Int32) (a4 : Nat) (x5 : Int32) : Option (Int32 × ah_h) := (fX7_meetings M a4).bind fun v1 => if v1 ≤ x5 then ((ah_gr M a0 10 1).bind fun v4 => (ah_gr M v4 2 5).bind fun v5 => (ah_ai M v5 x1).bind fun v6 => some (v6, M)) else ((ah_gr M a0 10 1).bind fun v7 => (fX2_holdTold M v7 a4 x5).bind fun v8 => k35 v8 a0 x1 a4 (x5 + 1))
def fX10_where_35    : Nat → ah_h → Nat → Int32 → Nat → Int32 → Option (Int32 × ah_h)
  | 0 => fun _ _ _ _ _ => none
  | n + 1 => fun M a0 x1 a4 x5 => fX10_where_35_b   (fX10_where_35    n)  M a0 x1 a4 x5
set_option maxRecDepth 100000 in
set_option maxHeartbeats 4000000 in
theorem wX10_where_35_b {p : Program} {l : Launch} {e : Env} {s : State} {m : MethodId} {args : Array Value} {below : List Frame} {meth : Method} {c : Code} {D : va_G} {ca : Nat → ClassId} {H0 : Heap} {z : Nat} (K : ah_K p s m args meth c D ca "ShipsThatMeet" cX10_where 6 (some .int))   (k35 : ah_h → Nat → Int32 → Nat → Int32 → Option (Int32 × ah_h)) (hk35 : ∀ (M : ah_h) (a0 : Nat) (x1 : Int32) (a4 : Nat) (x5 : Int32)  (H : Heap) (locs : List Loc) (ls : Array Slot), ah_g H0 D ca M z H → ah_L H0 locs → lv_has ls 6 [(0, .ref a0), (1, .int x1), (4, .ref a4), (5, .int x5)] → ∀ Z, k35 M a0 x1 a4 x5 = some Z → W p l e { frames := 6, cells := 0, slots := 0, locals := 137 } s m args below meth c H locs 0 0 (ah_Q below args s H0 D ca 0 0 (some (.int Z.1)) Z.2 z) (F0 m 35 ls [])) : ∀ (M : ah_h) (a0 : Nat) (x1 : Int32) (a4 : Nat) (x5 : Int32)  (H : Heap) (locs : List Loc) (ls : Array Slot), ah_g H0 D ca M z H → ah_L H0 locs → lv_has ls 6 [(0, .ref a0), (1, .int x1), (4, .ref a4), (5, .int x5)] → ∀ Z, fX10_where_35_b   k35  M a0 x1 a4 x5 = some Z → W p l e { frames := 6, cells := 0, slots := 0, locals := 137 } s m args below meth c H locs 0 0 (ah_Q below args s H0 D ca 0 0 (some (.int Z.1)) Z.2 z) (F0 m 35 ls []) := by
  intro M a0 x1 a4 x5 H locs ls hG hL hl Z hf
  unfold fX10_where_35_b at hf
  refine lv_iload K.1 K.2.1 dX10_where_35 (lv_at hl 3 rfl) ?_
  refine lv_aload K.1 K.2.1 dX10_where_37 (lv_at hl 2 rfl) ?_
  obtain ⟨v1, ev1, hf⟩ := Option.bind_eq_some_iff.mp hf
  obtain ⟨q2, eq2⟩ := ah_this ev1
  refine ah_callV (As := []) (rest := [.int x5]) K hG hL hl.1 eq2 rfl (ctX7_meetings l H0 D ca M z a4 v1 ev1) hdX7_meetings q_462 q_463 q_53 q_465 q_464 ⟨Nat.le_of_ble_eq_true rfl, Nat.le_of_ble_eq_true rfl⟩ rfl rfl (Nat.le_of_ble_eq_true rfl) ⟨Nat.le_refl _, Nat.le_refl _⟩ dX10_where_39 (fun H locs hG hL => ?_)
  refine lv_icmp_ge (tgt := 62) K.1 K.2.1 dX10_where_42 (by decide) (fun h3 => ?_) (fun h3 => ?_)
  · rw [if_pos h3] at hf
    refine lv_aload_n K.1 K.2.1 dX10_where_62 rfl (lv_at hl 0 rfl) ?_
    obtain ⟨v4, ev4, hf⟩ := Option.bind_eq_some_iff.mp hf
    refine ah_getr K hG ev4 ffX10_16_10 dX10_where_63 ?_
    obtain ⟨v5, ev5, hf⟩ := Option.bind_eq_some_iff.mp hf
    refine ah_getr K hG ev5 ffX10_102_2 dX10_where_66 ?_
    refine lv_iload_n K.1 K.2.1 dX10_where_69 rfl (lv_at hl 1 rfl) ?_
    obtain ⟨v6, ev6, hf⟩ := Option.bind_eq_some_iff.mp hf
    refine ah_iald K hG ev6 dX10_where_70 ?_
    have hf := Option.some.inj hf
    subst hf
    exact ah_iret K hG hL (Nat.le_refl _) (Nat.le_refl _) dX10_where_71
  · rw [if_neg h3] at hf
    refine lv_aload_n K.1 K.2.1 dX10_where_45 rfl (lv_at hl 0 rfl) ?_
    obtain ⟨v7, ev7, hf⟩ := Option.bind_eq_some_iff.mp hf
    refine ah_getr K hG ev7 ffX10_16_10 dX10_where_46 ?_
    refine lv_aload K.1 K.2.1 dX10_where_49 (lv_at hl 2 rfl) ?_
    refine lv_iload K.1 K.2.1 dX10_where_51 (lv_at hl 3 rfl) ?_
    obtain ⟨v8, ev8, hf⟩ := Option.bind_eq_some_iff.mp hf
    obtain ⟨q9, eq9⟩ := ah_this ev8
    refine ah_callV (As := [.ref a4, .int x5]) (rest := []) K hG hL hl.1 eq9 rfl (ctX2_holdTold l H0 D ca M z v7 a4 x5 v8 ev8) hdX2_holdTold q_475 q_476 q_51 q_478 q_477 ⟨Nat.le_of_ble_eq_true rfl, Nat.le_of_ble_eq_true rfl⟩ rfl rfl (Nat.le_of_ble_eq_true rfl) ⟨Nat.le_refl _, Nat.le_refl _⟩ dX10_where_53 (fun H locs hG hL => ?_)
    refine lv_iinc (v := x5 + 1) (lv' := [(5, .int (x5 + 1)), (0, .ref a0), (1, .int x1), (4, .ref a4)]) K.1 K.2.1 dX10_where_56 hl (k := 3) rfl rfl (by decide) rfl (fun ls hl => ?_)
    refine lv_goto (tgt := 35) K.1 K.2.1 dX10_where_59 (by decide) ?_
    exact hk35 v8 a0 x1 a4 (x5 + 1) _ _ _ hG hL (lv_sub hl [1, 2, 3, 0] rfl) _ hf
theorem wX10_where_35 {p : Program} {l : Launch} {e : Env} {s : State} {m : MethodId} {args : Array Value} {below : List Frame} {meth : Method} {c : Code} {D : va_G} {ca : Nat → ClassId} {H0 : Heap} {z : Nat} (K : ah_K p s m args meth c D ca "ShipsThatMeet" cX10_where 6 (some .int))   (n : Nat) : ∀ (M : ah_h) (a0 : Nat) (x1 : Int32) (a4 : Nat) (x5 : Int32)  (H : Heap) (locs : List Loc) (ls : Array Slot), ah_g H0 D ca M z H → ah_L H0 locs → lv_has ls 6 [(0, .ref a0), (1, .int x1), (4, .ref a4), (5, .int x5)] → ∀ Z, fX10_where_35    n M a0 x1 a4 x5 = some Z → W p l e { frames := 6, cells := 0, slots := 0, locals := 137 } s m args below meth c H locs 0 0 (ah_Q below args s H0 D ca 0 0 (some (.int Z.1)) Z.2 z) (F0 m 35 ls []) := by
  induction n with
  | zero => intro M a0 x1 a4 x5 H locs ls hG hL hl Z hf; cases hf
  | succ n ih => exact wX10_where_35_b K  _ ih
def fX10_where (M : ah_h) (a0 : Nat) (x1 : Int32) (x2 : Int32) : Option (Int32 × ah_h) := (ah_ob M a0 10).bind fun _ => (fX10_refusalOfManAndMeetings M a0 x1 x2).bind fun v1 => if 0 ≤ v1 then ((ah_gr M a0 10 4).bind fun v4 => (ah_ar M v4 3 x2).bind fun v5 => (ah_gr M a0 10 1).bind fun v6 => (ah_gr M a0 10 0).bind fun v7 => (fX2_become M v6 v7).bind fun v8 => fX10_where_35 ah_fu v8 a0 x1 v5 0) else (some (v1, M))
set_option maxRecDepth 100000 in
set_option maxHeartbeats 4000000 in
theorem ctX10_where (l : Launch) (H0 : Heap) (D : va_G) (ca : Nat → ClassId) (M : ah_h) (z : Nat) (a0 : Nat) (x1 : Int32) (x2 : Int32) (Z : Int32 × ah_h) (hf : fX10_where M a0 x1 x2 = some Z) : ah_ct l H0 D ca yX10_where cX10_where 6 (some .int) 6 137 0 0 [.ref a0, .int x1, .int x2] M z (some (.int Z.1)) Z.2 z := by
  refine ah_of (by decide) (Nat.le_of_ble_eq_true rfl) ?_
  intro p e s m below meth c ls hin K hG hl
  have hL : ah_L H0 [] := ah_L.nil
  have hl : lv_has ls 6 [(0, .ref a0), (1, .int x1), (2, .int x2)] := hl
  unfold fX10_where at hf
  obtain ⟨-, -, hf⟩ := Option.bind_eq_some_iff.mp hf
  refine lv_aload_n K.1 K.2.1 dX10_where_0 rfl (lv_at hl 0 rfl) ?_
  refine lv_iload_n K.1 K.2.1 dX10_where_1 rfl (lv_at hl 1 rfl) ?_
  refine lv_iload_n K.1 K.2.1 dX10_where_2 rfl (lv_at hl 2 rfl) ?_
  obtain ⟨v1, ev1, hf⟩ := Option.bind_eq_some_iff.mp hf
  obtain ⟨q2, eq2⟩ := ah_this ev1
  refine ah_callV (As := [.int x1, .int x2]) (rest := []) K hG hL hl.1 eq2 rfl (ctX10_refusalOfManAndMeetings l H0 D ca M z a0 x1 x2 v1 ev1) hdX10_refusalOfManAndMeetings q_454 q_456 q_50 q_457 q_3 ⟨Nat.le_of_ble_eq_true rfl, Nat.le_of_ble_eq_true rfl⟩ rfl rfl (Nat.le_of_ble_eq_true rfl) ⟨Nat.le_refl _, Nat.le_refl _⟩ dX10_where_3 (fun H locs hG hL => ?_)
  refine lv_istore_n (lv' := [(3, .int v1), (0, .ref a0), (1, .int x1), (2, .int x2)]) K.1 K.2.1 dX10_where_6 rfl hl (by decide) rfl (fun ls hl => ?_)
  refine lv_iload_n K.1 K.2.1 dX10_where_7 rfl (lv_at hl 0 rfl) ?_
  refine lv_if_ge (tgt := 13) K.1 K.2.1 dX10_where_8 (by decide) (fun h3 => ?_) (fun h3 => ?_)
  · rw [if_pos h3] at hf
    refine lv_aload_n K.1 K.2.1 dX10_where_13 rfl (lv_at hl 1 rfl) ?_
    obtain ⟨v4, ev4, hf⟩ := Option.bind_eq_some_iff.mp hf
    refine ah_getr K hG ev4 ffX10_28_10 dX10_where_14 ?_
    refine lv_iload_n K.1 K.2.1 dX10_where_17 rfl (lv_at hl 3 rfl) ?_
    obtain ⟨v5, ev5, hf⟩ := Option.bind_eq_some_iff.mp hf
    refine ah_aald (t := 3) K hG ev5 rfl rfl dX10_where_18 ?_
    refine lv_astore (lv' := [(4, .ref v5), (3, .int v1), (0, .ref a0), (1, .int x1), (2, .int x2)]) K.1 K.2.1 dX10_where_19 hl (by decide) rfl (fun ls hl => ?_)
    refine lv_aload_n K.1 K.2.1 dX10_where_21 rfl (lv_at hl 2 rfl) ?_
    obtain ⟨v6, ev6, hf⟩ := Option.bind_eq_some_iff.mp hf
    refine ah_getr K hG ev6 ffX10_16_10 dX10_where_22 ?_
    refine lv_aload_n K.1 K.2.1 dX10_where_25 rfl (lv_at hl 2 rfl) ?_
    obtain ⟨v7, ev7, hf⟩ := Option.bind_eq_some_iff.mp hf
    refine ah_getr K hG ev7 ffX10_10_10 dX10_where_26 ?_
    obtain ⟨v8, ev8, hf⟩ := Option.bind_eq_some_iff.mp hf
    obtain ⟨q9, eq9⟩ := ah_this ev8
    refine ah_callV (As := [.ref v7]) (rest := []) K hG hL hl.1 eq9 rfl (ctX2_become l H0 D ca M z v6 v7 v8 ev8) hdX2_become q_243 q_244 q_51 q_246 q_245 ⟨Nat.le_of_ble_eq_true rfl, Nat.le_of_ble_eq_true rfl⟩ rfl rfl (Nat.le_of_ble_eq_true rfl) ⟨Nat.le_refl _, Nat.le_refl _⟩ dX10_where_29 (fun H locs hG hL => ?_)
    refine lv_iconst (v := 0) K.1 K.2.1 dX10_where_32 (by decide) ?_
    refine lv_istore (lv' := [(5, .int 0), (4, .ref v5), (3, .int v1), (0, .ref a0), (1, .int x1), (2, .int x2)]) K.1 K.2.1 dX10_where_33 hl (by decide) rfl (fun ls hl => ?_)
    exact wX10_where_35 K  ah_fu v8 a0 x1 v5 0 _ _ _ hG hL (lv_sub hl [3, 4, 1, 0] rfl) _ hf
  · rw [if_neg h3] at hf
    refine lv_iload_n K.1 K.2.1 dX10_where_11 rfl (lv_at hl 0 rfl) ?_
    have hf := Option.some.inj hf
    subst hf
    exact ah_iret K hG hL (Nat.le_refl _) (Nat.le_refl _) dX10_where_12
def fX10_mixesMost_95  (k7 : ah_h → Nat → Int32 → Int32 → Int32 → Option (Int32 × ah_h)) (k23 : ah_h → Nat → Int32 → Int32 → Int32 → Int32 → Option (Int32 × ah_h))  (M : ah_h) (a0 : Nat) (x1 : Int32) (x2 : Int32) (x3 : Int32) (x4 : Int32) : Option (Int32 × ah_h) := k23 M a0 x1 x2 x3 (x4 + 1)
set_option maxRecDepth 100000 in
set_option maxHeartbeats 4000000 in
theorem wX10_mixesMost_95 {p : Program} {l : Launch} {e : Env} {s : State} {m : MethodId} {args : Array Value} {below : List Frame} {meth : Method} {c : Code} {D : va_G} {ca : Nat → ClassId} {H0 : Heap} {z : Nat} (K : ah_K p s m args meth c D ca "ShipsThatMeet" cX10_mixesMost 6 (some .int))  (k7 : ah_h → Nat → Int32 → Int32 → Int32 → Option (Int32 × ah_h)) (hk7 : ∀ (M : ah_h) (a0 : Nat) (x1 : Int32) (x2 : Int32) (x3 : Int32)  (H : Heap) (locs : List Loc) (ls : Array Slot), ah_g H0 D ca M z H → ah_L H0 locs → lv_has ls 6 [(0, .ref a0), (1, .int x1), (2, .int x2), (3, .int x3)] → ∀ Z, k7 M a0 x1 x2 x3 = some Z → W p l e { frames := 5, cells := 0, slots := 0, locals := 115 } s m args below meth c H locs 0 0 (ah_Q below args s H0 D ca 0 0 (some (.int Z.1)) Z.2 z) (F0 m 7 ls [])) (k23 : ah_h → Nat → Int32 → Int32 → Int32 → Int32 → Option (Int32 × ah_h)) (hk23 : ∀ (M : ah_h) (a0 : Nat) (x1 : Int32) (x2 : Int32) (x3 : Int32) (x4 : Int32)  (H : Heap) (locs : List Loc) (ls : Array Slot), ah_g H0 D ca M z H → ah_L H0 locs → lv_has ls 6 [(0, .ref a0), (1, .int x1), (2, .int x2), (3, .int x3), (4, .int x4)] → ∀ Z, k23 M a0 x1 x2 x3 x4 = some Z → W p l e { frames := 5, cells := 0, slots := 0, locals := 115 } s m args below meth c H locs 0 0 (ah_Q below args s H0 D ca 0 0 (some (.int Z.1)) Z.2 z) (F0 m 23 ls [])) : ∀ (M : ah_h) (a0 : Nat) (x1 : Int32) (x2 : Int32) (x3 : Int32) (x4 : Int32)  (H : Heap) (locs : List Loc) (ls : Array Slot), ah_g H0 D ca M z H → ah_L H0 locs → lv_has ls 6 [(0, .ref a0), (1, .int x1), (2, .int x2), (3, .int x3), (4, .int x4)] → ∀ Z, fX10_mixesMost_95  k7 k23  M a0 x1 x2 x3 x4 = some Z → W p l e { frames := 5, cells := 0, slots := 0, locals := 115 } s m args below meth c H locs 0 0 (ah_Q below args s H0 D ca 0 0 (some (.int Z.1)) Z.2 z) (F0 m 95 ls []) := by
  intro M a0 x1 x2 x3 x4 H locs ls hG hL hl Z hf
  unfold fX10_mixesMost_95 at hf
  refine lv_iinc (v := x4 + 1) (lv' := [(4, .int (x4 + 1)), (0, .ref a0), (1, .int x1), (2, .int x2), (3, .int x3)]) K.1 K.2.1 dX10_mixesMost_95 hl (k := 4) rfl rfl (by decide) rfl (fun ls hl => ?_)
  refine lv_goto (tgt := 23) K.1 K.2.1 dX10_mixesMost_98 (by decide) ?_
  exact hk23 M a0 x1 x2 x3 (x4 + 1) _ _ _ hG hL (lv_sub hl [1, 2, 3, 4, 0] rfl) _ hf
def fX10_mixesMost_23_b  (k7 : ah_h → Nat → Int32 → Int32 → Int32 → Option (Int32 × ah_h)) (k23 : ah_h → Nat → Int32 → Int32 → Int32 → Int32 → Option (Int32 × ah_h))  (M : ah_h) (a0 : Nat) (x1 : Int32) (x2 : Int32) (x3 : Int32) (x4 : Int32) : Option (Int32 × ah_h) := (ah_gr M a0 10 0).bind fun v1 => (ah_gi M v1 2 0).bind fun v2 => if v2 ≤ x4 then (k7 M a0 x1 x2 (x3 + 1)) else ((ah_gr M a0 10 0).bind fun v4 => (fX2_canMeet M v4 x3 x4).bind fun v5 => if v5 = 0 then (fX10_mixesMost_95 k7 k23 M a0 x1 x2 x3 x4) else ((ah_gr M a0 10 1).bind fun v8 => (ah_gr M a0 10 0).bind fun v9 => (fX2_become M v8 v9).bind fun v10 => (ah_gr v10 a0 10 1).bind fun v12 => (fX2_holdMeeting v10 v12 x3 x4).bind fun v13 => (ah_gr v13.2 a0 10 1).bind fun v15 => (fX2_mixedPairs v13.2 v15).bind fun v16 => if v16 ≤ x2 then (fX10_mixesMost_95 k7 k23 v13.2 a0 x1 x2 x3 x4) else ((fX10_nameOfMeeting v13.2 x3 x4).bind fun v19 => fX10_mixesMost_95 k7 k23 v13.2 a0 v19 v16 x3 x4)))
def fX10_mixesMost_23  (k7 : ah_h → Nat → Int32 → Int32 → Int32 → Option (Int32 × ah_h))  : Nat → ah_h → Nat → Int32 → Int32 → Int32 → Int32 → Option (Int32 × ah_h)
  | 0 => fun _ _ _ _ _ _ => none
  | n + 1 => fun M a0 x1 x2 x3 x4 => fX10_mixesMost_23_b  k7 (fX10_mixesMost_23  k7  n)  M a0 x1 x2 x3 x4
set_option maxRecDepth 100000 in
set_option maxHeartbeats 4000000 in
theorem wX10_mixesMost_23_b {p : Program} {l : Launch} {e : Env} {s : State} {m : MethodId} {args : Array Value} {below : List Frame} {meth : Method} {c : Code} {D : va_G} {ca : Nat → ClassId} {H0 : Heap} {z : Nat} (K : ah_K p s m args meth c D ca "ShipsThatMeet" cX10_mixesMost 6 (some .int))  (k7 : ah_h → Nat → Int32 → Int32 → Int32 → Option (Int32 × ah_h)) (hk7 : ∀ (M : ah_h) (a0 : Nat) (x1 : Int32) (x2 : Int32) (x3 : Int32)  (H : Heap) (locs : List Loc) (ls : Array Slot), ah_g H0 D ca M z H → ah_L H0 locs → lv_has ls 6 [(0, .ref a0), (1, .int x1), (2, .int x2), (3, .int x3)] → ∀ Z, k7 M a0 x1 x2 x3 = some Z → W p l e { frames := 5, cells := 0, slots := 0, locals := 115 } s m args below meth c H locs 0 0 (ah_Q below args s H0 D ca 0 0 (some (.int Z.1)) Z.2 z) (F0 m 7 ls [])) (k23 : ah_h → Nat → Int32 → Int32 → Int32 → Int32 → Option (Int32 × ah_h)) (hk23 : ∀ (M : ah_h) (a0 : Nat) (x1 : Int32) (x2 : Int32) (x3 : Int32) (x4 : Int32)  (H : Heap) (locs : List Loc) (ls : Array Slot), ah_g H0 D ca M z H → ah_L H0 locs → lv_has ls 6 [(0, .ref a0), (1, .int x1), (2, .int x2), (3, .int x3), (4, .int x4)] → ∀ Z, k23 M a0 x1 x2 x3 x4 = some Z → W p l e { frames := 5, cells := 0, slots := 0, locals := 115 } s m args below meth c H locs 0 0 (ah_Q below args s H0 D ca 0 0 (some (.int Z.1)) Z.2 z) (F0 m 23 ls [])) : ∀ (M : ah_h) (a0 : Nat) (x1 : Int32) (x2 : Int32) (x3 : Int32) (x4 : Int32)  (H : Heap) (locs : List Loc) (ls : Array Slot), ah_g H0 D ca M z H → ah_L H0 locs → lv_has ls 6 [(0, .ref a0), (1, .int x1), (2, .int x2), (3, .int x3), (4, .int x4)] → ∀ Z, fX10_mixesMost_23_b  k7 k23  M a0 x1 x2 x3 x4 = some Z → W p l e { frames := 5, cells := 0, slots := 0, locals := 115 } s m args below meth c H locs 0 0 (ah_Q below args s H0 D ca 0 0 (some (.int Z.1)) Z.2 z) (F0 m 23 ls []) := by
  intro M a0 x1 x2 x3 x4 H locs ls hG hL hl Z hf
  unfold fX10_mixesMost_23_b at hf
  refine lv_iload K.1 K.2.1 dX10_mixesMost_23 (lv_at hl 4 rfl) ?_
  refine lv_aload_n K.1 K.2.1 dX10_mixesMost_25 rfl (lv_at hl 0 rfl) ?_
  obtain ⟨v1, ev1, hf⟩ := Option.bind_eq_some_iff.mp hf
  refine ah_getr K hG ev1 ffX10_10_10 dX10_mixesMost_26 ?_
  obtain ⟨v2, ev2, hf⟩ := Option.bind_eq_some_iff.mp hf
  refine ah_geti K hG ev2 ffX10_188_2 dX10_mixesMost_29 ?_
  refine lv_icmp_ge (tgt := 101) K.1 K.2.1 dX10_mixesMost_32 (by decide) (fun h3 => ?_) (fun h3 => ?_)
  · rw [if_pos h3] at hf
    refine lv_iinc (v := x3 + 1) (lv' := [(3, .int (x3 + 1)), (0, .ref a0), (1, .int x1), (2, .int x2), (4, .int x4)]) K.1 K.2.1 dX10_mixesMost_101 hl (k := 3) rfl rfl (by decide) rfl (fun ls hl => ?_)
    refine lv_goto (tgt := 7) K.1 K.2.1 dX10_mixesMost_104 (by decide) ?_
    exact hk7 M a0 x1 x2 (x3 + 1) _ _ _ hG hL (lv_sub hl [1, 2, 3, 0] rfl) _ hf
  · rw [if_neg h3] at hf
    refine lv_aload_n K.1 K.2.1 dX10_mixesMost_35 rfl (lv_at hl 0 rfl) ?_
    obtain ⟨v4, ev4, hf⟩ := Option.bind_eq_some_iff.mp hf
    refine ah_getr K hG ev4 ffX10_10_10 dX10_mixesMost_36 ?_
    refine lv_iload_n K.1 K.2.1 dX10_mixesMost_39 rfl (lv_at hl 3 rfl) ?_
    refine lv_iload K.1 K.2.1 dX10_mixesMost_40 (lv_at hl 4 rfl) ?_
    obtain ⟨v5, ev5, hf⟩ := Option.bind_eq_some_iff.mp hf
    obtain ⟨q6, eq6⟩ := ah_this ev5
    refine ah_callV (As := [.int x3, .int x4]) (rest := []) K hG hL hl.1 eq6 rfl (ctX2_canMeet l H0 D ca M z v4 x3 x4 v5 ev5) hdX2_canMeet q_449 q_345 q_51 q_347 q_346 ⟨Nat.le_of_ble_eq_true rfl, Nat.le_of_ble_eq_true rfl⟩ rfl rfl (Nat.le_of_ble_eq_true rfl) ⟨Nat.le_refl _, Nat.le_refl _⟩ dX10_mixesMost_42 (fun H locs hG hL => ?_)
    refine lv_if_eq (tgt := 95) K.1 K.2.1 dX10_mixesMost_45 (by decide) (fun h7 => ?_) (fun h7 => ?_)
    · rw [if_pos h7] at hf
      exact wX10_mixesMost_95 K k7 hk7 k23 hk23 M a0 x1 x2 x3 x4 _ _ _ hG hL (lv_sub hl [0, 1, 2, 3, 4] rfl) _ hf
    · rw [if_neg h7] at hf
      refine lv_aload_n K.1 K.2.1 dX10_mixesMost_48 rfl (lv_at hl 0 rfl) ?_
      obtain ⟨v8, ev8, hf⟩ := Option.bind_eq_some_iff.mp hf
      refine ah_getr K hG ev8 ffX10_16_10 dX10_mixesMost_49 ?_
      refine lv_aload_n K.1 K.2.1 dX10_mixesMost_52 rfl (lv_at hl 0 rfl) ?_
      obtain ⟨v9, ev9, hf⟩ := Option.bind_eq_some_iff.mp hf
      refine ah_getr K hG ev9 ffX10_10_10 dX10_mixesMost_53 ?_
      obtain ⟨v10, ev10, hf⟩ := Option.bind_eq_some_iff.mp hf
      obtain ⟨q11, eq11⟩ := ah_this ev10
      refine ah_callV (As := [.ref v9]) (rest := []) K hG hL hl.1 eq11 rfl (ctX2_become l H0 D ca M z v8 v9 v10 ev10) hdX2_become q_243 q_244 q_51 q_246 q_245 ⟨Nat.le_of_ble_eq_true rfl, Nat.le_of_ble_eq_true rfl⟩ rfl rfl (Nat.le_of_ble_eq_true rfl) ⟨Nat.le_refl _, Nat.le_refl _⟩ dX10_mixesMost_56 (fun H locs hG hL => ?_)
      refine lv_aload_n K.1 K.2.1 dX10_mixesMost_59 rfl (lv_at hl 0 rfl) ?_
      obtain ⟨v12, ev12, hf⟩ := Option.bind_eq_some_iff.mp hf
      refine ah_getr K hG ev12 ffX10_16_10 dX10_mixesMost_60 ?_
      refine lv_iload_n K.1 K.2.1 dX10_mixesMost_63 rfl (lv_at hl 3 rfl) ?_
      refine lv_iload K.1 K.2.1 dX10_mixesMost_64 (lv_at hl 4 rfl) ?_
      obtain ⟨v13, ev13, hf⟩ := Option.bind_eq_some_iff.mp hf
      obtain ⟨q14, eq14⟩ := ah_this ev13
      refine ah_callV (As := [.int x3, .int x4]) (rest := []) K hG hL hl.1 eq14 rfl (ctX2_holdMeeting l H0 D ca v10 z v12 x3 x4 v13 ev13) hdX2_holdMeeting q_340 q_341 q_51 q_343 q_342 ⟨Nat.le_of_ble_eq_true rfl, Nat.le_of_ble_eq_true rfl⟩ rfl rfl (Nat.le_of_ble_eq_true rfl) ⟨Nat.le_refl _, Nat.le_refl _⟩ dX10_mixesMost_66 (fun H locs hG hL => ?_)
      refine lv_pop K.1 K.2.1 dX10_mixesMost_69 rfl ?_
      refine lv_aload_n K.1 K.2.1 dX10_mixesMost_70 rfl (lv_at hl 0 rfl) ?_
      obtain ⟨v15, ev15, hf⟩ := Option.bind_eq_some_iff.mp hf
      refine ah_getr K hG ev15 ffX10_16_10 dX10_mixesMost_71 ?_
      obtain ⟨v16, ev16, hf⟩ := Option.bind_eq_some_iff.mp hf
      obtain ⟨q17, eq17⟩ := ah_this ev16
      refine ah_callV (As := []) (rest := []) K hG hL hl.1 eq17 rfl (ctX2_mixedPairs l H0 D ca v13.2 z v15 v16 ev16) hdX2_mixedPairs q_585 q_586 q_51 q_588 q_587 ⟨Nat.le_of_ble_eq_true rfl, Nat.le_of_ble_eq_true rfl⟩ rfl rfl (Nat.le_of_ble_eq_true rfl) ⟨Nat.le_refl _, Nat.le_refl _⟩ dX10_mixesMost_74 (fun H locs hG hL => ?_)
      refine lv_istore (lv' := [(5, .int v16), (0, .ref a0), (1, .int x1), (2, .int x2), (3, .int x3), (4, .int x4)]) K.1 K.2.1 dX10_mixesMost_77 hl (by decide) rfl (fun ls hl => ?_)
      refine lv_iload K.1 K.2.1 dX10_mixesMost_79 (lv_at hl 0 rfl) ?_
      refine lv_iload_n K.1 K.2.1 dX10_mixesMost_81 rfl (lv_at hl 3 rfl) ?_
      refine lv_icmp_le (tgt := 95) K.1 K.2.1 dX10_mixesMost_82 (by decide) (fun h18 => ?_) (fun h18 => ?_)
      · rw [if_pos h18] at hf
        exact wX10_mixesMost_95 K k7 hk7 k23 hk23 v13.2 a0 x1 x2 x3 x4 _ _ _ hG hL (lv_sub hl [1, 2, 3, 4, 5] rfl) _ hf
      · rw [if_neg h18] at hf
        refine lv_iload K.1 K.2.1 dX10_mixesMost_85 (lv_at hl 0 rfl) ?_
        refine lv_istore_n (lv' := [(2, .int v16), (5, .int v16), (0, .ref a0), (1, .int x1), (3, .int x3), (4, .int x4)]) K.1 K.2.1 dX10_mixesMost_87 rfl hl (by decide) rfl (fun ls hl => ?_)
        refine lv_iload_n K.1 K.2.1 dX10_mixesMost_88 rfl (lv_at hl 4 rfl) ?_
        refine lv_iload K.1 K.2.1 dX10_mixesMost_89 (lv_at hl 5 rfl) ?_
        obtain ⟨v19, ev19, hf⟩ := Option.bind_eq_some_iff.mp hf
        refine ah_callS (As := [.int x3, .int x4]) (rest := []) K hG hL hl.1 (ctX10_nameOfMeeting l H0 D ca v13.2 z x3 x4 v19 ev19) hdX10_nameOfMeeting q_564 q_546 q_50 q_547 ⟨Nat.le_of_ble_eq_true rfl, Nat.le_of_ble_eq_true rfl⟩ rfl rfl (Nat.le_of_ble_eq_true rfl) ⟨Nat.le_refl _, Nat.le_refl _⟩ dX10_mixesMost_91 (fun H locs hG hL => ?_)
        refine lv_istore_n (lv' := [(1, .int v19), (2, .int v16), (5, .int v16), (0, .ref a0), (3, .int x3), (4, .int x4)]) K.1 K.2.1 dX10_mixesMost_94 rfl hl (by decide) rfl (fun ls hl => ?_)
        exact wX10_mixesMost_95 K k7 hk7 k23 hk23 v13.2 a0 v19 v16 x3 x4 _ _ _ hG hL (lv_sub hl [3, 0, 1, 4, 5] rfl) _ hf
theorem wX10_mixesMost_23 {p : Program} {l : Launch} {e : Env} {s : State} {m : MethodId} {args : Array Value} {below : List Frame} {meth : Method} {c : Code} {D : va_G} {ca : Nat → ClassId} {H0 : Heap} {z : Nat} (K : ah_K p s m args meth c D ca "ShipsThatMeet" cX10_mixesMost 6 (some .int))  (k7 : ah_h → Nat → Int32 → Int32 → Int32 → Option (Int32 × ah_h)) (hk7 : ∀ (M : ah_h) (a0 : Nat) (x1 : Int32) (x2 : Int32) (x3 : Int32)  (H : Heap) (locs : List Loc) (ls : Array Slot), ah_g H0 D ca M z H → ah_L H0 locs → lv_has ls 6 [(0, .ref a0), (1, .int x1), (2, .int x2), (3, .int x3)] → ∀ Z, k7 M a0 x1 x2 x3 = some Z → W p l e { frames := 5, cells := 0, slots := 0, locals := 115 } s m args below meth c H locs 0 0 (ah_Q below args s H0 D ca 0 0 (some (.int Z.1)) Z.2 z) (F0 m 7 ls [])) (n : Nat) : ∀ (M : ah_h) (a0 : Nat) (x1 : Int32) (x2 : Int32) (x3 : Int32) (x4 : Int32)  (H : Heap) (locs : List Loc) (ls : Array Slot), ah_g H0 D ca M z H → ah_L H0 locs → lv_has ls 6 [(0, .ref a0), (1, .int x1), (2, .int x2), (3, .int x3), (4, .int x4)] → ∀ Z, fX10_mixesMost_23  k7  n M a0 x1 x2 x3 x4 = some Z → W p l e { frames := 5, cells := 0, slots := 0, locals := 115 } s m args below meth c H locs 0 0 (ah_Q below args s H0 D ca 0 0 (some (.int Z.1)) Z.2 z) (F0 m 23 ls []) := by
  induction n with
  | zero => intro M a0 x1 x2 x3 x4 H locs ls hG hL hl Z hf; cases hf
  | succ n ih => exact wX10_mixesMost_23_b K k7 hk7 _ ih
def fX10_mixesMost_7_b   (k7 : ah_h → Nat → Int32 → Int32 → Int32 → Option (Int32 × ah_h))  (M : ah_h) (a0 : Nat) (x1 : Int32) (x2 : Int32) (x3 : Int32) : Option (Int32 × ah_h) := (ah_gr M a0 10 0).bind fun v1 => (ah_gi M v1 2 0).bind fun v2 => if v2 ≤ x3 then (some (x1, M)) else (fX10_mixesMost_23 k7 ah_fu M a0 x1 x2 x3 (x3 + 1))
def fX10_mixesMost_7    : Nat → ah_h → Nat → Int32 → Int32 → Int32 → Option (Int32 × ah_h)
  | 0 => fun _ _ _ _ _ => none
  | n + 1 => fun M a0 x1 x2 x3 => fX10_mixesMost_7_b   (fX10_mixesMost_7    n)  M a0 x1 x2 x3
set_option maxRecDepth 100000 in
set_option maxHeartbeats 4000000 in
theorem wX10_mixesMost_7_b {p : Program} {l : Launch} {e : Env} {s : State} {m : MethodId} {args : Array Value} {below : List Frame} {meth : Method} {c : Code} {D : va_G} {ca : Nat → ClassId} {H0 : Heap} {z : Nat} (K : ah_K p s m args meth c D ca "ShipsThatMeet" cX10_mixesMost 6 (some .int))   (k7 : ah_h → Nat → Int32 → Int32 → Int32 → Option (Int32 × ah_h)) (hk7 : ∀ (M : ah_h) (a0 : Nat) (x1 : Int32) (x2 : Int32) (x3 : Int32)  (H : Heap) (locs : List Loc) (ls : Array Slot), ah_g H0 D ca M z H → ah_L H0 locs → lv_has ls 6 [(0, .ref a0), (1, .int x1), (2, .int x2), (3, .int x3)] → ∀ Z, k7 M a0 x1 x2 x3 = some Z → W p l e { frames := 5, cells := 0, slots := 0, locals := 115 } s m args below meth c H locs 0 0 (ah_Q below args s H0 D ca 0 0 (some (.int Z.1)) Z.2 z) (F0 m 7 ls [])) : ∀ (M : ah_h) (a0 : Nat) (x1 : Int32) (x2 : Int32) (x3 : Int32)  (H : Heap) (locs : List Loc) (ls : Array Slot), ah_g H0 D ca M z H → ah_L H0 locs → lv_has ls 6 [(0, .ref a0), (1, .int x1), (2, .int x2), (3, .int x3)] → ∀ Z, fX10_mixesMost_7_b   k7  M a0 x1 x2 x3 = some Z → W p l e { frames := 5, cells := 0, slots := 0, locals := 115 } s m args below meth c H locs 0 0 (ah_Q below args s H0 D ca 0 0 (some (.int Z.1)) Z.2 z) (F0 m 7 ls []) := by
  intro M a0 x1 x2 x3 H locs ls hG hL hl Z hf
  unfold fX10_mixesMost_7_b at hf
  refine lv_iload_n K.1 K.2.1 dX10_mixesMost_7 rfl (lv_at hl 3 rfl) ?_
  refine lv_aload_n K.1 K.2.1 dX10_mixesMost_8 rfl (lv_at hl 0 rfl) ?_
  obtain ⟨v1, ev1, hf⟩ := Option.bind_eq_some_iff.mp hf
  refine ah_getr K hG ev1 ffX10_10_10 dX10_mixesMost_9 ?_
  obtain ⟨v2, ev2, hf⟩ := Option.bind_eq_some_iff.mp hf
  refine ah_geti K hG ev2 ffX10_188_2 dX10_mixesMost_12 ?_
  refine lv_icmp_ge (tgt := 107) K.1 K.2.1 dX10_mixesMost_15 (by decide) (fun h3 => ?_) (fun h3 => ?_)
  · rw [if_pos h3] at hf
    refine lv_iload_n K.1 K.2.1 dX10_mixesMost_107 rfl (lv_at hl 1 rfl) ?_
    have hf := Option.some.inj hf
    subst hf
    exact ah_iret K hG hL (Nat.le_refl _) (Nat.le_refl _) dX10_mixesMost_108
  · rw [if_neg h3] at hf
    refine lv_iload_n K.1 K.2.1 dX10_mixesMost_18 rfl (lv_at hl 3 rfl) ?_
    refine lv_iconst (v := 1) K.1 K.2.1 dX10_mixesMost_19 (by decide) ?_
    refine lv_iadd K.1 K.2.1 dX10_mixesMost_20 ?_
    refine lv_istore (lv' := [(4, .int (x3 + 1)), (0, .ref a0), (1, .int x1), (2, .int x2), (3, .int x3)]) K.1 K.2.1 dX10_mixesMost_21 hl (by decide) rfl (fun ls hl => ?_)
    exact wX10_mixesMost_23 K k7 hk7 ah_fu M a0 x1 x2 x3 (x3 + 1) _ _ _ hG hL (lv_sub hl [1, 2, 3, 4, 0] rfl) _ hf
theorem wX10_mixesMost_7 {p : Program} {l : Launch} {e : Env} {s : State} {m : MethodId} {args : Array Value} {below : List Frame} {meth : Method} {c : Code} {D : va_G} {ca : Nat → ClassId} {H0 : Heap} {z : Nat} (K : ah_K p s m args meth c D ca "ShipsThatMeet" cX10_mixesMost 6 (some .int))   (n : Nat) : ∀ (M : ah_h) (a0 : Nat) (x1 : Int32) (x2 : Int32) (x3 : Int32)  (H : Heap) (locs : List Loc) (ls : Array Slot), ah_g H0 D ca M z H → ah_L H0 locs → lv_has ls 6 [(0, .ref a0), (1, .int x1), (2, .int x2), (3, .int x3)] → ∀ Z, fX10_mixesMost_7    n M a0 x1 x2 x3 = some Z → W p l e { frames := 5, cells := 0, slots := 0, locals := 115 } s m args below meth c H locs 0 0 (ah_Q below args s H0 D ca 0 0 (some (.int Z.1)) Z.2 z) (F0 m 7 ls []) := by
  induction n with
  | zero => intro M a0 x1 x2 x3 H locs ls hG hL hl Z hf; cases hf
  | succ n ih => exact wX10_mixesMost_7_b K  _ ih
def fX10_mixesMost (M : ah_h) (a0 : Nat) : Option (Int32 × ah_h) := (ah_ob M a0 10).bind fun _ => fX10_mixesMost_7 ah_fu M a0 (-4) (-1) 0
set_option maxRecDepth 100000 in
set_option maxHeartbeats 4000000 in
theorem ctX10_mixesMost (l : Launch) (H0 : Heap) (D : va_G) (ca : Nat → ClassId) (M : ah_h) (z : Nat) (a0 : Nat) (Z : Int32 × ah_h) (hf : fX10_mixesMost M a0 = some Z) : ah_ct l H0 D ca yX10_mixesMost cX10_mixesMost 6 (some .int) 5 115 0 0 [.ref a0] M z (some (.int Z.1)) Z.2 z := by
  refine ah_of (by decide) (Nat.le_of_ble_eq_true rfl) ?_
  intro p e s m below meth c ls hin K hG hl
  have hL : ah_L H0 [] := ah_L.nil
  have hl : lv_has ls 6 [(0, .ref a0)] := hl
  unfold fX10_mixesMost at hf
  obtain ⟨-, -, hf⟩ := Option.bind_eq_some_iff.mp hf
  refine lv_bipush (v := (-4)) K.1 K.2.1 dX10_mixesMost_0 (by decide) ?_
  refine lv_istore_n (lv' := [(1, .int (-4)), (0, .ref a0)]) K.1 K.2.1 dX10_mixesMost_2 rfl hl (by decide) rfl (fun ls hl => ?_)
  refine lv_iconst (v := (-1)) K.1 K.2.1 dX10_mixesMost_3 (by decide) ?_
  refine lv_istore_n (lv' := [(2, .int (-1)), (1, .int (-4)), (0, .ref a0)]) K.1 K.2.1 dX10_mixesMost_4 rfl hl (by decide) rfl (fun ls hl => ?_)
  refine lv_iconst (v := 0) K.1 K.2.1 dX10_mixesMost_5 (by decide) ?_
  refine lv_istore_n (lv' := [(3, .int 0), (2, .int (-1)), (1, .int (-4)), (0, .ref a0)]) K.1 K.2.1 dX10_mixesMost_6 rfl hl (by decide) rfl (fun ls hl => ?_)
  exact wX10_mixesMost_7 K  ah_fu M a0 (-4) (-1) 0 _ _ _ hG hL (lv_sub hl [3, 2, 1, 0] rfl) _ hf
def fX10_letter_47_b   (k47 : ah_h → Nat → Nat → Int32 → Int32 → Option (Int32 × ah_h))  (M : ah_h) (a0 : Nat) (a4 : Nat) (x5 : Int32) (x6 : Int32) : Option (Int32 × ah_h) := (fX7_meetings M a4).bind fun v1 => if v1 ≤ x6 then (some (x5, M)) else ((ah_gr M a0 10 1).bind fun v4 => (fX2_holdTold M v4 a4 x6).bind fun v5 => (ah_gr v5 a0 10 1).bind fun v7 => (fX2_withShipmates v5 v7 x5).bind fun v8 => k47 v5 a0 a4 v8 (x6 + 1))
def fX10_letter_47    : Nat → ah_h → Nat → Nat → Int32 → Int32 → Option (Int32 × ah_h)
  | 0 => fun _ _ _ _ _ => none
  | n + 1 => fun M a0 a4 x5 x6 => fX10_letter_47_b   (fX10_letter_47    n)  M a0 a4 x5 x6
set_option maxRecDepth 100000 in
set_option maxHeartbeats 4000000 in
theorem wX10_letter_47_b {p : Program} {l : Launch} {e : Env} {s : State} {m : MethodId} {args : Array Value} {below : List Frame} {meth : Method} {c : Code} {D : va_G} {ca : Nat → ClassId} {H0 : Heap} {z : Nat} (K : ah_K p s m args meth c D ca "ShipsThatMeet" cX10_letter 7 (some .int))   (k47 : ah_h → Nat → Nat → Int32 → Int32 → Option (Int32 × ah_h)) (hk47 : ∀ (M : ah_h) (a0 : Nat) (a4 : Nat) (x5 : Int32) (x6 : Int32)  (H : Heap) (locs : List Loc) (ls : Array Slot), ah_g H0 D ca M z H → ah_L H0 locs → lv_has ls 7 [(0, .ref a0), (4, .ref a4), (5, .int x5), (6, .int x6)] → ∀ Z, k47 M a0 a4 x5 x6 = some Z → W p l e { frames := 6, cells := 0, slots := 0, locals := 137 } s m args below meth c H locs 0 0 (ah_Q below args s H0 D ca 0 0 (some (.int Z.1)) Z.2 z) (F0 m 47 ls [])) : ∀ (M : ah_h) (a0 : Nat) (a4 : Nat) (x5 : Int32) (x6 : Int32)  (H : Heap) (locs : List Loc) (ls : Array Slot), ah_g H0 D ca M z H → ah_L H0 locs → lv_has ls 7 [(0, .ref a0), (4, .ref a4), (5, .int x5), (6, .int x6)] → ∀ Z, fX10_letter_47_b   k47  M a0 a4 x5 x6 = some Z → W p l e { frames := 6, cells := 0, slots := 0, locals := 137 } s m args below meth c H locs 0 0 (ah_Q below args s H0 D ca 0 0 (some (.int Z.1)) Z.2 z) (F0 m 47 ls []) := by
  intro M a0 a4 x5 x6 H locs ls hG hL hl Z hf
  unfold fX10_letter_47_b at hf
  refine lv_iload K.1 K.2.1 dX10_letter_47 (lv_at hl 3 rfl) ?_
  refine lv_aload K.1 K.2.1 dX10_letter_49 (lv_at hl 1 rfl) ?_
  obtain ⟨v1, ev1, hf⟩ := Option.bind_eq_some_iff.mp hf
  obtain ⟨q2, eq2⟩ := ah_this ev1
  refine ah_callV (As := []) (rest := [.int x6]) K hG hL hl.1 eq2 rfl (ctX7_meetings l H0 D ca M z a4 v1 ev1) hdX7_meetings q_462 q_463 q_53 q_465 q_464 ⟨Nat.le_of_ble_eq_true rfl, Nat.le_of_ble_eq_true rfl⟩ rfl rfl (Nat.le_of_ble_eq_true rfl) ⟨Nat.le_refl _, Nat.le_refl _⟩ dX10_letter_51 (fun H locs hG hL => ?_)
  refine lv_icmp_ge (tgt := 85) K.1 K.2.1 dX10_letter_54 (by decide) (fun h3 => ?_) (fun h3 => ?_)
  · rw [if_pos h3] at hf
    refine lv_iload K.1 K.2.1 dX10_letter_85 (lv_at hl 2 rfl) ?_
    have hf := Option.some.inj hf
    subst hf
    exact ah_iret K hG hL (Nat.le_refl _) (Nat.le_refl _) dX10_letter_87
  · rw [if_neg h3] at hf
    refine lv_aload_n K.1 K.2.1 dX10_letter_57 rfl (lv_at hl 0 rfl) ?_
    obtain ⟨v4, ev4, hf⟩ := Option.bind_eq_some_iff.mp hf
    refine ah_getr K hG ev4 ffX10_16_10 dX10_letter_58 ?_
    refine lv_aload K.1 K.2.1 dX10_letter_61 (lv_at hl 1 rfl) ?_
    refine lv_iload K.1 K.2.1 dX10_letter_63 (lv_at hl 3 rfl) ?_
    obtain ⟨v5, ev5, hf⟩ := Option.bind_eq_some_iff.mp hf
    obtain ⟨q6, eq6⟩ := ah_this ev5
    refine ah_callV (As := [.ref a4, .int x6]) (rest := []) K hG hL hl.1 eq6 rfl (ctX2_holdTold l H0 D ca M z v4 a4 x6 v5 ev5) hdX2_holdTold q_475 q_476 q_51 q_478 q_477 ⟨Nat.le_of_ble_eq_true rfl, Nat.le_of_ble_eq_true rfl⟩ rfl rfl (Nat.le_of_ble_eq_true rfl) ⟨Nat.le_refl _, Nat.le_refl _⟩ dX10_letter_65 (fun H locs hG hL => ?_)
    refine lv_aload_n K.1 K.2.1 dX10_letter_68 rfl (lv_at hl 0 rfl) ?_
    obtain ⟨v7, ev7, hf⟩ := Option.bind_eq_some_iff.mp hf
    refine ah_getr K hG ev7 ffX10_16_10 dX10_letter_69 ?_
    refine lv_iload K.1 K.2.1 dX10_letter_72 (lv_at hl 2 rfl) ?_
    obtain ⟨v8, ev8, hf⟩ := Option.bind_eq_some_iff.mp hf
    obtain ⟨q9, eq9⟩ := ah_this ev8
    refine ah_callV (As := [.int x5]) (rest := []) K hG hL hl.1 eq9 rfl (ctX2_withShipmates l H0 D ca v5 z v7 x5 v8 ev8) hdX2_withShipmates q_605 q_606 q_51 q_608 q_607 ⟨Nat.le_of_ble_eq_true rfl, Nat.le_of_ble_eq_true rfl⟩ rfl rfl (Nat.le_of_ble_eq_true rfl) ⟨Nat.le_refl _, Nat.le_refl _⟩ dX10_letter_74 (fun H locs hG hL => ?_)
    refine lv_istore (lv' := [(5, .int v8), (0, .ref a0), (4, .ref a4), (6, .int x6)]) K.1 K.2.1 dX10_letter_77 hl (by decide) rfl (fun ls hl => ?_)
    refine lv_iinc (v := x6 + 1) (lv' := [(6, .int (x6 + 1)), (5, .int v8), (0, .ref a0), (4, .ref a4)]) K.1 K.2.1 dX10_letter_79 hl (k := 3) rfl rfl (by decide) rfl (fun ls hl => ?_)
    refine lv_goto (tgt := 47) K.1 K.2.1 dX10_letter_82 (by decide) ?_
    exact hk47 v5 a0 a4 v8 (x6 + 1) _ _ _ hG hL (lv_sub hl [2, 3, 1, 0] rfl) _ hf
theorem wX10_letter_47 {p : Program} {l : Launch} {e : Env} {s : State} {m : MethodId} {args : Array Value} {below : List Frame} {meth : Method} {c : Code} {D : va_G} {ca : Nat → ClassId} {H0 : Heap} {z : Nat} (K : ah_K p s m args meth c D ca "ShipsThatMeet" cX10_letter 7 (some .int))   (n : Nat) : ∀ (M : ah_h) (a0 : Nat) (a4 : Nat) (x5 : Int32) (x6 : Int32)  (H : Heap) (locs : List Loc) (ls : Array Slot), ah_g H0 D ca M z H → ah_L H0 locs → lv_has ls 7 [(0, .ref a0), (4, .ref a4), (5, .int x5), (6, .int x6)] → ∀ Z, fX10_letter_47    n M a0 a4 x5 x6 = some Z → W p l e { frames := 6, cells := 0, slots := 0, locals := 137 } s m args below meth c H locs 0 0 (ah_Q below args s H0 D ca 0 0 (some (.int Z.1)) Z.2 z) (F0 m 47 ls []) := by
  induction n with
  | zero => intro M a0 a4 x5 x6 H locs ls hG hL hl Z hf; cases hf
  | succ n ih => exact wX10_letter_47_b K  _ ih
def fX10_letter (M : ah_h) (a0 : Nat) (x1 : Int32) (x2 : Int32) : Option (Int32 × ah_h) := (ah_ob M a0 10).bind fun _ => (fX10_refusalOfManAndMeetings M a0 x1 x2).bind fun v1 => if 0 ≤ v1 then ((ah_gr M a0 10 4).bind fun v4 => (ah_ar M v4 3 x2).bind fun v5 => (ah_gr M a0 10 1).bind fun v6 => (ah_gr M a0 10 0).bind fun v7 => (fX2_become M v6 v7).bind fun v8 => (ah_gr v8 a0 10 1).bind fun v10 => (fX2_withShipmates v8 v10 ((1 : Int32) <<< (x1 &&& 31))).bind fun v11 => fX10_letter_47 ah_fu v8 a0 v5 v11 0) else (some (v1, M))
set_option maxRecDepth 100000 in
set_option maxHeartbeats 4000000 in
theorem ctX10_letter (l : Launch) (H0 : Heap) (D : va_G) (ca : Nat → ClassId) (M : ah_h) (z : Nat) (a0 : Nat) (x1 : Int32) (x2 : Int32) (Z : Int32 × ah_h) (hf : fX10_letter M a0 x1 x2 = some Z) : ah_ct l H0 D ca yX10_letter cX10_letter 7 (some .int) 6 137 0 0 [.ref a0, .int x1, .int x2] M z (some (.int Z.1)) Z.2 z := by
  refine ah_of (by decide) (Nat.le_of_ble_eq_true rfl) ?_
  intro p e s m below meth c ls hin K hG hl
  have hL : ah_L H0 [] := ah_L.nil
  have hl : lv_has ls 7 [(0, .ref a0), (1, .int x1), (2, .int x2)] := hl
  unfold fX10_letter at hf
  obtain ⟨-, -, hf⟩ := Option.bind_eq_some_iff.mp hf
  refine lv_aload_n K.1 K.2.1 dX10_letter_0 rfl (lv_at hl 0 rfl) ?_
  refine lv_iload_n K.1 K.2.1 dX10_letter_1 rfl (lv_at hl 1 rfl) ?_
  refine lv_iload_n K.1 K.2.1 dX10_letter_2 rfl (lv_at hl 2 rfl) ?_
  obtain ⟨v1, ev1, hf⟩ := Option.bind_eq_some_iff.mp hf
  obtain ⟨q2, eq2⟩ := ah_this ev1
  refine ah_callV (As := [.int x1, .int x2]) (rest := []) K hG hL hl.1 eq2 rfl (ctX10_refusalOfManAndMeetings l H0 D ca M z a0 x1 x2 v1 ev1) hdX10_refusalOfManAndMeetings q_454 q_456 q_50 q_457 q_3 ⟨Nat.le_of_ble_eq_true rfl, Nat.le_of_ble_eq_true rfl⟩ rfl rfl (Nat.le_of_ble_eq_true rfl) ⟨Nat.le_refl _, Nat.le_refl _⟩ dX10_letter_3 (fun H locs hG hL => ?_)
  refine lv_istore_n (lv' := [(3, .int v1), (0, .ref a0), (1, .int x1), (2, .int x2)]) K.1 K.2.1 dX10_letter_6 rfl hl (by decide) rfl (fun ls hl => ?_)
  refine lv_iload_n K.1 K.2.1 dX10_letter_7 rfl (lv_at hl 0 rfl) ?_
  refine lv_if_ge (tgt := 13) K.1 K.2.1 dX10_letter_8 (by decide) (fun h3 => ?_) (fun h3 => ?_)
  · rw [if_pos h3] at hf
    refine lv_aload_n K.1 K.2.1 dX10_letter_13 rfl (lv_at hl 1 rfl) ?_
    obtain ⟨v4, ev4, hf⟩ := Option.bind_eq_some_iff.mp hf
    refine ah_getr K hG ev4 ffX10_28_10 dX10_letter_14 ?_
    refine lv_iload_n K.1 K.2.1 dX10_letter_17 rfl (lv_at hl 3 rfl) ?_
    obtain ⟨v5, ev5, hf⟩ := Option.bind_eq_some_iff.mp hf
    refine ah_aald (t := 3) K hG ev5 rfl rfl dX10_letter_18 ?_
    refine lv_astore (lv' := [(4, .ref v5), (3, .int v1), (0, .ref a0), (1, .int x1), (2, .int x2)]) K.1 K.2.1 dX10_letter_19 hl (by decide) rfl (fun ls hl => ?_)
    refine lv_aload_n K.1 K.2.1 dX10_letter_21 rfl (lv_at hl 2 rfl) ?_
    obtain ⟨v6, ev6, hf⟩ := Option.bind_eq_some_iff.mp hf
    refine ah_getr K hG ev6 ffX10_16_10 dX10_letter_22 ?_
    refine lv_aload_n K.1 K.2.1 dX10_letter_25 rfl (lv_at hl 2 rfl) ?_
    obtain ⟨v7, ev7, hf⟩ := Option.bind_eq_some_iff.mp hf
    refine ah_getr K hG ev7 ffX10_10_10 dX10_letter_26 ?_
    obtain ⟨v8, ev8, hf⟩ := Option.bind_eq_some_iff.mp hf
    obtain ⟨q9, eq9⟩ := ah_this ev8
    refine ah_callV (As := [.ref v7]) (rest := []) K hG hL hl.1 eq9 rfl (ctX2_become l H0 D ca M z v6 v7 v8 ev8) hdX2_become q_243 q_244 q_51 q_246 q_245 ⟨Nat.le_of_ble_eq_true rfl, Nat.le_of_ble_eq_true rfl⟩ rfl rfl (Nat.le_of_ble_eq_true rfl) ⟨Nat.le_refl _, Nat.le_refl _⟩ dX10_letter_29 (fun H locs hG hL => ?_)
    refine lv_aload_n K.1 K.2.1 dX10_letter_32 rfl (lv_at hl 2 rfl) ?_
    obtain ⟨v10, ev10, hf⟩ := Option.bind_eq_some_iff.mp hf
    refine ah_getr K hG ev10 ffX10_16_10 dX10_letter_33 ?_
    refine lv_iconst (v := 1) K.1 K.2.1 dX10_letter_36 (by decide) ?_
    refine lv_iload_n K.1 K.2.1 dX10_letter_37 rfl (lv_at hl 3 rfl) ?_
    refine lv_ishl K.1 K.2.1 dX10_letter_38 ?_
    obtain ⟨v11, ev11, hf⟩ := Option.bind_eq_some_iff.mp hf
    obtain ⟨q12, eq12⟩ := ah_this ev11
    refine ah_callV (As := [.int ((1 : Int32) <<< (x1 &&& 31))]) (rest := []) K hG hL hl.1 eq12 rfl (ctX2_withShipmates l H0 D ca v8 z v10 ((1 : Int32) <<< (x1 &&& 31)) v11 ev11) hdX2_withShipmates q_605 q_606 q_51 q_608 q_607 ⟨Nat.le_of_ble_eq_true rfl, Nat.le_of_ble_eq_true rfl⟩ rfl rfl (Nat.le_of_ble_eq_true rfl) ⟨Nat.le_refl _, Nat.le_refl _⟩ dX10_letter_39 (fun H locs hG hL => ?_)
    refine lv_istore (lv' := [(5, .int v11), (4, .ref v5), (3, .int v1), (0, .ref a0), (1, .int x1), (2, .int x2)]) K.1 K.2.1 dX10_letter_42 hl (by decide) rfl (fun ls hl => ?_)
    refine lv_iconst (v := 0) K.1 K.2.1 dX10_letter_44 (by decide) ?_
    refine lv_istore (lv' := [(6, .int 0), (5, .int v11), (4, .ref v5), (3, .int v1), (0, .ref a0), (1, .int x1), (2, .int x2)]) K.1 K.2.1 dX10_letter_45 hl (by decide) rfl (fun ls hl => ?_)
    exact wX10_letter_47 K  ah_fu v8 a0 v5 v11 0 _ _ _ hG hL (lv_sub hl [4, 2, 1, 0] rfl) _ hf
  · rw [if_neg h3] at hf
    refine lv_iload_n K.1 K.2.1 dX10_letter_11 rfl (lv_at hl 0 rfl) ?_
    have hf := Option.some.inj hf
    subst hf
    exact ah_iret K hG hL (Nat.le_refl _) (Nat.le_refl _) dX10_letter_12
def fX10_law_110  (k65 : ah_h → Nat → Nat → Int32 → Nat → Int32 → Int32 → Option (Int32 × ah_h × Nat))  (M : ah_h) (z : Nat) (a0 : Nat) (x1 : Int32) (a6 : Nat) (x7 : Int32) (x8 : Int32) : Option (Int32 × ah_h × Nat) := k65 M z a0 x1 a6 x7 (x8 + 1)
set_option maxRecDepth 100000 in
set_option maxHeartbeats 4000000 in
theorem wX10_law_110 {p : Program} {l : Launch} {e : Env} {s : State} {m : MethodId} {args : Array Value} {below : List Frame} {meth : Method} {c : Code} {D : va_G} {ca : Nat → ClassId} {H0 : Heap}  (K : ah_K p s m args meth c D ca "ShipsThatMeet" cX10_law 9 (some .int))  {n65 : Nat} (k65 : ah_h → Nat → Nat → Int32 → Nat → Int32 → Int32 → Option (Int32 × ah_h × Nat)) (hk65 : ∀ (M : ah_h) (z : Nat) (a0 : Nat) (x1 : Int32) (a6 : Nat) (x7 : Int32) (x8 : Int32) (cells slots : Nat), cells + n65 * 0 ≤ 1 → slots + n65 * 0 ≤ 2 → ∀ (H : Heap) (locs : List Loc) (ls : Array Slot), ah_g H0 D ca M z H → ah_L H0 locs → lv_has ls 9 [(0, .ref a0), (1, .int x1), (6, .ref a6), (7, .int x7), (8, .int x8)] → ∀ Z, k65 M z a0 x1 a6 x7 x8 = some Z → W p l e { frames := 6, cells := 1, slots := 2, locals := 137 } s m args below meth c H locs cells slots (ah_Q below args s H0 D ca 1 2 (some (.int Z.1)) Z.2.1 Z.2.2) (F0 m 65 ls [])) : ∀ (M : ah_h) (z : Nat) (a0 : Nat) (x1 : Int32) (a6 : Nat) (x7 : Int32) (x8 : Int32) (cells slots : Nat), cells ≤ 1 → slots ≤ 2 → ∀ (H : Heap) (locs : List Loc) (ls : Array Slot), ah_g H0 D ca M z H → ah_L H0 locs → lv_has ls 9 [(0, .ref a0), (1, .int x1), (6, .ref a6), (7, .int x7), (8, .int x8)] → ∀ Z, fX10_law_110  k65  M z a0 x1 a6 x7 x8 = some Z → W p l e { frames := 6, cells := 1, slots := 2, locals := 137 } s m args below meth c H locs cells slots (ah_Q below args s H0 D ca 1 2 (some (.int Z.1)) Z.2.1 Z.2.2) (F0 m 110 ls []) := by
  intro M z a0 x1 a6 x7 x8 cells slots hc hs H locs ls hG hL hl Z hf
  unfold fX10_law_110 at hf
  refine lv_iinc (v := x8 + 1) (lv' := [(8, .int (x8 + 1)), (0, .ref a0), (1, .int x1), (6, .ref a6), (7, .int x7)]) K.1 K.2.1 dX10_law_110 hl (k := 4) rfl rfl (by decide) rfl (fun ls hl => ?_)
  refine lv_goto (tgt := 65) K.1 K.2.1 dX10_law_113 (by decide) ?_
  exact hk65 M z a0 x1 a6 x7 (x8 + 1) _ _ (by omega) (by omega) _ _ _ hG hL (lv_sub hl [1, 2, 3, 4, 0] rfl) _ hf
def fX10_law_65_b   (k65 : ah_h → Nat → Nat → Int32 → Nat → Int32 → Int32 → Option (Int32 × ah_h × Nat))  (M : ah_h) (z : Nat) (a0 : Nat) (x1 : Int32) (a6 : Nat) (x7 : Int32) (x8 : Int32) : Option (Int32 × ah_h × Nat) := (fX7_meetings M a6).bind fun v1 => if v1 ≤ x8 then (some (x7, M, z)) else ((ah_gr M a0 10 1).bind fun v4 => (fX2_holdTold M v4 a6 x8).bind fun v5 => (ah_gr v5 a0 10 1).bind fun v7 => (ah_gr v5 v7 2 5).bind fun v8 => (ah_ai v5 v8 x1).bind fun v9 => (ah_gr v5 a0 10 0).bind fun v10 => (ah_gr v5 v10 2 5).bind fun v11 => (ah_ai v5 v11 x1).bind fun v12 => if v9 = v12 then (fX10_law_110 k65 v5 z a0 x1 a6 x7 x8) else (fX10_law_110 k65 v5 z a0 x1 a6 (x7 + 1) x8))
def fX10_law_65    : Nat → ah_h → Nat → Nat → Int32 → Nat → Int32 → Int32 → Option (Int32 × ah_h × Nat)
  | 0 => fun _ _ _ _ _ _ _ => none
  | n + 1 => fun M z a0 x1 a6 x7 x8 => fX10_law_65_b   (fX10_law_65    n)  M z a0 x1 a6 x7 x8
set_option maxRecDepth 100000 in
set_option maxHeartbeats 4000000 in
theorem wX10_law_65_b {p : Program} {l : Launch} {e : Env} {s : State} {m : MethodId} {args : Array Value} {below : List Frame} {meth : Method} {c : Code} {D : va_G} {ca : Nat → ClassId} {H0 : Heap}  (K : ah_K p s m args meth c D ca "ShipsThatMeet" cX10_law 9 (some .int))   {n65 : Nat} (k65 : ah_h → Nat → Nat → Int32 → Nat → Int32 → Int32 → Option (Int32 × ah_h × Nat)) (hk65 : ∀ (M : ah_h) (z : Nat) (a0 : Nat) (x1 : Int32) (a6 : Nat) (x7 : Int32) (x8 : Int32) (cells slots : Nat), cells + n65 * 0 ≤ 1 → slots + n65 * 0 ≤ 2 → ∀ (H : Heap) (locs : List Loc) (ls : Array Slot), ah_g H0 D ca M z H → ah_L H0 locs → lv_has ls 9 [(0, .ref a0), (1, .int x1), (6, .ref a6), (7, .int x7), (8, .int x8)] → ∀ Z, k65 M z a0 x1 a6 x7 x8 = some Z → W p l e { frames := 6, cells := 1, slots := 2, locals := 137 } s m args below meth c H locs cells slots (ah_Q below args s H0 D ca 1 2 (some (.int Z.1)) Z.2.1 Z.2.2) (F0 m 65 ls [])) : ∀ (M : ah_h) (z : Nat) (a0 : Nat) (x1 : Int32) (a6 : Nat) (x7 : Int32) (x8 : Int32) (cells slots : Nat), cells + (n65 + 1) * 0 ≤ 1 → slots + (n65 + 1) * 0 ≤ 2 → ∀ (H : Heap) (locs : List Loc) (ls : Array Slot), ah_g H0 D ca M z H → ah_L H0 locs → lv_has ls 9 [(0, .ref a0), (1, .int x1), (6, .ref a6), (7, .int x7), (8, .int x8)] → ∀ Z, fX10_law_65_b   k65  M z a0 x1 a6 x7 x8 = some Z → W p l e { frames := 6, cells := 1, slots := 2, locals := 137 } s m args below meth c H locs cells slots (ah_Q below args s H0 D ca 1 2 (some (.int Z.1)) Z.2.1 Z.2.2) (F0 m 65 ls []) := by
  intro M z a0 x1 a6 x7 x8 cells slots hc hs H locs ls hG hL hl Z hf
  unfold fX10_law_65_b at hf
  refine lv_iload K.1 K.2.1 dX10_law_65 (lv_at hl 4 rfl) ?_
  refine lv_aload K.1 K.2.1 dX10_law_67 (lv_at hl 2 rfl) ?_
  obtain ⟨v1, ev1, hf⟩ := Option.bind_eq_some_iff.mp hf
  obtain ⟨q2, eq2⟩ := ah_this ev1
  refine ah_callV (As := []) (rest := [.int x8]) K hG hL hl.1 eq2 rfl (ctX7_meetings l H0 D ca M z a6 v1 ev1) hdX7_meetings q_462 q_463 q_53 q_465 q_464 ⟨Nat.le_of_ble_eq_true rfl, Nat.le_of_ble_eq_true rfl⟩ rfl rfl (Nat.le_of_ble_eq_true rfl) ⟨by show _ ≤ 1; omega, by show _ ≤ 2; omega⟩ dX10_law_69 (fun H locs hG hL => ?_)
  refine lv_icmp_ge (tgt := 116) K.1 K.2.1 dX10_law_72 (by decide) (fun h3 => ?_) (fun h3 => ?_)
  · rw [if_pos h3] at hf
    refine lv_iload K.1 K.2.1 dX10_law_116 (lv_at hl 3 rfl) ?_
    have hf := Option.some.inj hf
    subst hf
    exact ah_iret K hG hL (by omega) (by omega) dX10_law_118
  · rw [if_neg h3] at hf
    refine lv_aload_n K.1 K.2.1 dX10_law_75 rfl (lv_at hl 0 rfl) ?_
    obtain ⟨v4, ev4, hf⟩ := Option.bind_eq_some_iff.mp hf
    refine ah_getr K hG ev4 ffX10_16_10 dX10_law_76 ?_
    refine lv_aload K.1 K.2.1 dX10_law_79 (lv_at hl 2 rfl) ?_
    refine lv_iload K.1 K.2.1 dX10_law_81 (lv_at hl 4 rfl) ?_
    obtain ⟨v5, ev5, hf⟩ := Option.bind_eq_some_iff.mp hf
    obtain ⟨q6, eq6⟩ := ah_this ev5
    refine ah_callV (As := [.ref a6, .int x8]) (rest := []) K hG hL hl.1 eq6 rfl (ctX2_holdTold l H0 D ca M z v4 a6 x8 v5 ev5) hdX2_holdTold q_475 q_476 q_51 q_478 q_477 ⟨Nat.le_of_ble_eq_true rfl, Nat.le_of_ble_eq_true rfl⟩ rfl rfl (Nat.le_of_ble_eq_true rfl) ⟨by show _ ≤ 1; omega, by show _ ≤ 2; omega⟩ dX10_law_83 (fun H locs hG hL => ?_)
    refine lv_aload_n K.1 K.2.1 dX10_law_86 rfl (lv_at hl 0 rfl) ?_
    obtain ⟨v7, ev7, hf⟩ := Option.bind_eq_some_iff.mp hf
    refine ah_getr K hG ev7 ffX10_16_10 dX10_law_87 ?_
    obtain ⟨v8, ev8, hf⟩ := Option.bind_eq_some_iff.mp hf
    refine ah_getr K hG ev8 ffX10_102_2 dX10_law_90 ?_
    refine lv_iload_n K.1 K.2.1 dX10_law_93 rfl (lv_at hl 1 rfl) ?_
    obtain ⟨v9, ev9, hf⟩ := Option.bind_eq_some_iff.mp hf
    refine ah_iald K hG ev9 dX10_law_94 ?_
    refine lv_aload_n K.1 K.2.1 dX10_law_95 rfl (lv_at hl 0 rfl) ?_
    obtain ⟨v10, ev10, hf⟩ := Option.bind_eq_some_iff.mp hf
    refine ah_getr K hG ev10 ffX10_10_10 dX10_law_96 ?_
    obtain ⟨v11, ev11, hf⟩ := Option.bind_eq_some_iff.mp hf
    refine ah_getr K hG ev11 ffX10_102_2 dX10_law_99 ?_
    refine lv_iload_n K.1 K.2.1 dX10_law_102 rfl (lv_at hl 1 rfl) ?_
    obtain ⟨v12, ev12, hf⟩ := Option.bind_eq_some_iff.mp hf
    refine ah_iald K hG ev12 dX10_law_103 ?_
    refine lv_icmp_eq (tgt := 110) K.1 K.2.1 dX10_law_104 (by decide) (fun h13 => ?_) (fun h13 => ?_)
    · rw [if_pos h13] at hf
      exact wX10_law_110 K k65 hk65 v5 z a0 x1 a6 x7 x8 _ _ (by omega) (by omega) _ _ _ hG hL (lv_sub hl [0, 1, 2, 3, 4] rfl) _ hf
    · rw [if_neg h13] at hf
      refine lv_iinc (v := x7 + 1) (lv' := [(7, .int (x7 + 1)), (0, .ref a0), (1, .int x1), (6, .ref a6), (8, .int x8)]) K.1 K.2.1 dX10_law_107 hl (k := 3) rfl rfl (by decide) rfl (fun ls hl => ?_)
      exact wX10_law_110 K k65 hk65 v5 z a0 x1 a6 (x7 + 1) x8 _ _ (by omega) (by omega) _ _ _ hG hL (lv_sub hl [1, 2, 3, 0, 4] rfl) _ hf
theorem wX10_law_65 {p : Program} {l : Launch} {e : Env} {s : State} {m : MethodId} {args : Array Value} {below : List Frame} {meth : Method} {c : Code} {D : va_G} {ca : Nat → ClassId} {H0 : Heap}  (K : ah_K p s m args meth c D ca "ShipsThatMeet" cX10_law 9 (some .int))   (n : Nat) : ∀ (M : ah_h) (z : Nat) (a0 : Nat) (x1 : Int32) (a6 : Nat) (x7 : Int32) (x8 : Int32) (cells slots : Nat), cells + n * 0 ≤ 1 → slots + n * 0 ≤ 2 → ∀ (H : Heap) (locs : List Loc) (ls : Array Slot), ah_g H0 D ca M z H → ah_L H0 locs → lv_has ls 9 [(0, .ref a0), (1, .int x1), (6, .ref a6), (7, .int x7), (8, .int x8)] → ∀ Z, fX10_law_65    n M z a0 x1 a6 x7 x8 = some Z → W p l e { frames := 6, cells := 1, slots := 2, locals := 137 } s m args below meth c H locs cells slots (ah_Q below args s H0 D ca 1 2 (some (.int Z.1)) Z.2.1 Z.2.2) (F0 m 65 ls []) := by
  induction n with
  | zero => intro M z a0 x1 a6 x7 x8 cells slots hc hs H locs ls hG hL hl Z hf; cases hf
  | succ n ih => exact wX10_law_65_b K  _ ih
def fX10_law (M : ah_h) (z : Nat) (a0 : Nat) (x1 : Int32) (x2 : Int32) (x3 : Int32) (x4 : Int32) : Option (Int32 × ah_h × Nat) := (ah_ob M a0 10).bind fun _ => (fX10_isKindAndFigure M x3 x4).bind fun v1 => if v1 = 0 then (some ((-1), M, z)) else ((fX10_refusalOfManAndMeetings M a0 x1 x2).bind fun v3 => if 0 ≤ v3 then ((ah_gr M a0 10 4).bind fun v6 => (ah_ar M v6 3 x2).bind fun v7 => (ah_gr M a0 10 1).bind fun v8 => (ah_gr M a0 10 0).bind fun v9 => (fX2_become M v8 v9).bind fun v10 => (ah_gr v10 a0 10 1).bind fun v12 => (fX10_captainOf v10 z x3 x4).bind fun v13 => (fX2_setAllCaptains v13.2.1 v12 v13.1).bind fun v14 => fX10_law_65 ah_fu v14 v13.2.2 a0 x1 v7 0 0) else (some (v3, M, z)))
set_option maxRecDepth 100000 in
set_option maxHeartbeats 4000000 in
theorem ctX10_law (l : Launch) (H0 : Heap) (D : va_G) (ca : Nat → ClassId) (M : ah_h) (z : Nat) (a0 : Nat) (x1 : Int32) (x2 : Int32) (x3 : Int32) (x4 : Int32) (Z : Int32 × ah_h × Nat) (hf : fX10_law M z a0 x1 x2 x3 x4 = some Z) : ah_ct l H0 D ca yX10_law cX10_law 9 (some .int) 6 137 1 2 [.ref a0, .int x1, .int x2, .int x3, .int x4] M z (some (.int Z.1)) Z.2.1 Z.2.2 := by
  refine ah_of (by decide) (Nat.le_of_ble_eq_true rfl) ?_
  intro p e s m below meth c ls hin K hG hl
  have hL : ah_L H0 [] := ah_L.nil
  have hl : lv_has ls 9 [(0, .ref a0), (1, .int x1), (2, .int x2), (3, .int x3), (4, .int x4)] := hl
  unfold fX10_law at hf
  obtain ⟨-, -, hf⟩ := Option.bind_eq_some_iff.mp hf
  refine lv_iload_n K.1 K.2.1 dX10_law_0 rfl (lv_at hl 3 rfl) ?_
  refine lv_iload K.1 K.2.1 dX10_law_1 (lv_at hl 4 rfl) ?_
  obtain ⟨v1, ev1, hf⟩ := Option.bind_eq_some_iff.mp hf
  refine ah_callS (As := [.int x3, .int x4]) (rest := []) K hG hL hl.1 (ctX10_isKindAndFigure l H0 D ca M z x3 x4 v1 ev1) hdX10_isKindAndFigure q_253 q_254 q_50 q_255 ⟨Nat.le_of_ble_eq_true rfl, Nat.le_of_ble_eq_true rfl⟩ rfl rfl (Nat.le_of_ble_eq_true rfl) ⟨by show _ ≤ 1; omega, by show _ ≤ 2; omega⟩ dX10_law_3 (fun H locs hG hL => ?_)
  refine lv_if_ne (tgt := 11) K.1 K.2.1 dX10_law_6 (by decide) (fun h2 => ?_) (fun h2 => ?_)
  · rw [if_neg h2] at hf
    refine lv_aload_n K.1 K.2.1 dX10_law_11 rfl (lv_at hl 0 rfl) ?_
    refine lv_iload_n K.1 K.2.1 dX10_law_12 rfl (lv_at hl 1 rfl) ?_
    refine lv_iload_n K.1 K.2.1 dX10_law_13 rfl (lv_at hl 2 rfl) ?_
    obtain ⟨v3, ev3, hf⟩ := Option.bind_eq_some_iff.mp hf
    obtain ⟨q4, eq4⟩ := ah_this ev3
    refine ah_callV (As := [.int x1, .int x2]) (rest := []) K hG hL hl.1 eq4 rfl (ctX10_refusalOfManAndMeetings l H0 D ca M z a0 x1 x2 v3 ev3) hdX10_refusalOfManAndMeetings q_454 q_456 q_50 q_457 q_3 ⟨Nat.le_of_ble_eq_true rfl, Nat.le_of_ble_eq_true rfl⟩ rfl rfl (Nat.le_of_ble_eq_true rfl) ⟨by show _ ≤ 1; omega, by show _ ≤ 2; omega⟩ dX10_law_14 (fun H locs hG hL => ?_)
    refine lv_istore (lv' := [(5, .int v3), (0, .ref a0), (1, .int x1), (2, .int x2), (3, .int x3), (4, .int x4)]) K.1 K.2.1 dX10_law_17 hl (by decide) rfl (fun ls hl => ?_)
    refine lv_iload K.1 K.2.1 dX10_law_19 (lv_at hl 0 rfl) ?_
    refine lv_if_ge (tgt := 27) K.1 K.2.1 dX10_law_21 (by decide) (fun h5 => ?_) (fun h5 => ?_)
    · rw [if_pos h5] at hf
      refine lv_aload_n K.1 K.2.1 dX10_law_27 rfl (lv_at hl 1 rfl) ?_
      obtain ⟨v6, ev6, hf⟩ := Option.bind_eq_some_iff.mp hf
      refine ah_getr K hG ev6 ffX10_28_10 dX10_law_28 ?_
      refine lv_iload_n K.1 K.2.1 dX10_law_31 rfl (lv_at hl 3 rfl) ?_
      obtain ⟨v7, ev7, hf⟩ := Option.bind_eq_some_iff.mp hf
      refine ah_aald (t := 3) K hG ev7 rfl rfl dX10_law_32 ?_
      refine lv_astore (lv' := [(6, .ref v7), (5, .int v3), (0, .ref a0), (1, .int x1), (2, .int x2), (3, .int x3), (4, .int x4)]) K.1 K.2.1 dX10_law_33 hl (by decide) rfl (fun ls hl => ?_)
      refine lv_aload_n K.1 K.2.1 dX10_law_35 rfl (lv_at hl 2 rfl) ?_
      obtain ⟨v8, ev8, hf⟩ := Option.bind_eq_some_iff.mp hf
      refine ah_getr K hG ev8 ffX10_16_10 dX10_law_36 ?_
      refine lv_aload_n K.1 K.2.1 dX10_law_39 rfl (lv_at hl 2 rfl) ?_
      obtain ⟨v9, ev9, hf⟩ := Option.bind_eq_some_iff.mp hf
      refine ah_getr K hG ev9 ffX10_10_10 dX10_law_40 ?_
      obtain ⟨v10, ev10, hf⟩ := Option.bind_eq_some_iff.mp hf
      obtain ⟨q11, eq11⟩ := ah_this ev10
      refine ah_callV (As := [.ref v9]) (rest := []) K hG hL hl.1 eq11 rfl (ctX2_become l H0 D ca M z v8 v9 v10 ev10) hdX2_become q_243 q_244 q_51 q_246 q_245 ⟨Nat.le_of_ble_eq_true rfl, Nat.le_of_ble_eq_true rfl⟩ rfl rfl (Nat.le_of_ble_eq_true rfl) ⟨by show _ ≤ 1; omega, by show _ ≤ 2; omega⟩ dX10_law_43 (fun H locs hG hL => ?_)
      refine lv_aload_n K.1 K.2.1 dX10_law_46 rfl (lv_at hl 2 rfl) ?_
      obtain ⟨v12, ev12, hf⟩ := Option.bind_eq_some_iff.mp hf
      refine ah_getr K hG ev12 ffX10_16_10 dX10_law_47 ?_
      refine lv_iload_n K.1 K.2.1 dX10_law_50 rfl (lv_at hl 5 rfl) ?_
      refine lv_iload K.1 K.2.1 dX10_law_51 (lv_at hl 6 rfl) ?_
      obtain ⟨v13, ev13, hf⟩ := Option.bind_eq_some_iff.mp hf
      refine ah_callS (As := [.int x3, .int x4]) (rest := [.ref v12]) K hG hL hl.1 (ctX10_captainOf l H0 D ca v10 z x3 x4 v13 ev13) hdX10_captainOf q_256 q_257 q_50 q_258 ⟨Nat.le_of_ble_eq_true rfl, Nat.le_of_ble_eq_true rfl⟩ rfl rfl (Nat.le_of_ble_eq_true rfl) ⟨by show _ ≤ 1; omega, by show _ ≤ 2; omega⟩ dX10_law_53 (fun H locs hG hL => ?_)
      obtain ⟨v14, ev14, hf⟩ := Option.bind_eq_some_iff.mp hf
      obtain ⟨q15, eq15⟩ := ah_this ev14
      refine ah_callV (As := [.ref v13.1]) (rest := []) K hG hL hl.1 eq15 rfl (ctX2_setAllCaptains l H0 D ca v13.2.1 v13.2.2 v12 v13.1 v14 ev14) hdX2_setAllCaptains q_613 q_614 q_51 q_616 q_615 ⟨Nat.le_of_ble_eq_true rfl, Nat.le_of_ble_eq_true rfl⟩ rfl rfl (Nat.le_of_ble_eq_true rfl) ⟨by show _ ≤ 1; omega, by show _ ≤ 2; omega⟩ dX10_law_56 (fun H locs hG hL => ?_)
      refine lv_iconst (v := 0) K.1 K.2.1 dX10_law_59 (by decide) ?_
      refine lv_istore (lv' := [(7, .int 0), (6, .ref v7), (5, .int v3), (0, .ref a0), (1, .int x1), (2, .int x2), (3, .int x3), (4, .int x4)]) K.1 K.2.1 dX10_law_60 hl (by decide) rfl (fun ls hl => ?_)
      refine lv_iconst (v := 0) K.1 K.2.1 dX10_law_62 (by decide) ?_
      refine lv_istore (lv' := [(8, .int 0), (7, .int 0), (6, .ref v7), (5, .int v3), (0, .ref a0), (1, .int x1), (2, .int x2), (3, .int x3), (4, .int x4)]) K.1 K.2.1 dX10_law_63 hl (by decide) rfl (fun ls hl => ?_)
      exact wX10_law_65 K  ah_fu v14 v13.2.2 a0 x1 v7 0 0 _ _ (by unfold ah_fu; omega) (by unfold ah_fu; omega) _ _ _ hG hL (lv_sub hl [4, 5, 2, 1, 0] rfl) _ hf
    · rw [if_neg h5] at hf
      refine lv_iload K.1 K.2.1 dX10_law_24 (lv_at hl 0 rfl) ?_
      have hf := Option.some.inj hf
      subst hf
      exact ah_iret K hG hL (by omega) (by omega) dX10_law_26
  · rw [if_pos h2] at hf
    refine lv_iconst (v := (-1)) K.1 K.2.1 dX10_law_9 (by decide) ?_
    have hf := Option.some.inj hf
    subst hf
    exact ah_iret K hG hL (by omega) (by omega) dX10_law_10
def fX10_together_97_b   (k97 : ah_h → Nat → Int32 → Int32 → Nat → Int32 → Option (Int32 × ah_h))  (M : ah_h) (a0 : Nat) (x1 : Int32) (x2 : Int32) (a5 : Nat) (x6 : Int32) : Option (Int32 × ah_h) := (fX7_meetings M a5).bind fun v1 => if v1 ≤ x6 then ((fX7_meetings M a5).bind fun v4 => some (v4, M)) else ((ah_gr M a0 10 1).bind fun v6 => (fX2_holdTold M v6 a5 x6).bind fun v7 => (ah_gr v7 a0 10 1).bind fun v9 => (ah_gr v7 v9 2 5).bind fun v10 => (ah_ai v7 v10 x1).bind fun v11 => (ah_gr v7 a0 10 1).bind fun v12 => (ah_gr v7 v12 2 5).bind fun v13 => (ah_ai v7 v13 x2).bind fun v14 => if v11 = v14 then (k97 v7 a0 x1 x2 a5 (x6 + 1)) else (some (x6, v7)))
def fX10_together_97    : Nat → ah_h → Nat → Int32 → Int32 → Nat → Int32 → Option (Int32 × ah_h)
  | 0 => fun _ _ _ _ _ _ => none
  | n + 1 => fun M a0 x1 x2 a5 x6 => fX10_together_97_b   (fX10_together_97    n)  M a0 x1 x2 a5 x6
set_option maxRecDepth 100000 in
set_option maxHeartbeats 4000000 in
theorem wX10_together_97_b {p : Program} {l : Launch} {e : Env} {s : State} {m : MethodId} {args : Array Value} {below : List Frame} {meth : Method} {c : Code} {D : va_G} {ca : Nat → ClassId} {H0 : Heap} {z : Nat} (K : ah_K p s m args meth c D ca "ShipsThatMeet" cX10_together 7 (some .int))   (k97 : ah_h → Nat → Int32 → Int32 → Nat → Int32 → Option (Int32 × ah_h)) (hk97 : ∀ (M : ah_h) (a0 : Nat) (x1 : Int32) (x2 : Int32) (a5 : Nat) (x6 : Int32)  (H : Heap) (locs : List Loc) (ls : Array Slot), ah_g H0 D ca M z H → ah_L H0 locs → lv_has ls 7 [(0, .ref a0), (1, .int x1), (2, .int x2), (5, .ref a5), (6, .int x6)] → ∀ Z, k97 M a0 x1 x2 a5 x6 = some Z → W p l e { frames := 6, cells := 0, slots := 0, locals := 137 } s m args below meth c H locs 0 0 (ah_Q below args s H0 D ca 0 0 (some (.int Z.1)) Z.2 z) (F0 m 97 ls [])) : ∀ (M : ah_h) (a0 : Nat) (x1 : Int32) (x2 : Int32) (a5 : Nat) (x6 : Int32)  (H : Heap) (locs : List Loc) (ls : Array Slot), ah_g H0 D ca M z H → ah_L H0 locs → lv_has ls 7 [(0, .ref a0), (1, .int x1), (2, .int x2), (5, .ref a5), (6, .int x6)] → ∀ Z, fX10_together_97_b   k97  M a0 x1 x2 a5 x6 = some Z → W p l e { frames := 6, cells := 0, slots := 0, locals := 137 } s m args below meth c H locs 0 0 (ah_Q below args s H0 D ca 0 0 (some (.int Z.1)) Z.2 z) (F0 m 97 ls []) := by
  intro M a0 x1 x2 a5 x6 H locs ls hG hL hl Z hf
  unfold fX10_together_97_b at hf
  refine lv_iload K.1 K.2.1 dX10_together_97 (lv_at hl 4 rfl) ?_
  refine lv_aload K.1 K.2.1 dX10_together_99 (lv_at hl 3 rfl) ?_
  obtain ⟨v1, ev1, hf⟩ := Option.bind_eq_some_iff.mp hf
  obtain ⟨q2, eq2⟩ := ah_this ev1
  refine ah_callV (As := []) (rest := [.int x6]) K hG hL hl.1 eq2 rfl (ctX7_meetings l H0 D ca M z a5 v1 ev1) hdX7_meetings q_462 q_463 q_53 q_465 q_464 ⟨Nat.le_of_ble_eq_true rfl, Nat.le_of_ble_eq_true rfl⟩ rfl rfl (Nat.le_of_ble_eq_true rfl) ⟨Nat.le_refl _, Nat.le_refl _⟩ dX10_together_101 (fun H locs hG hL => ?_)
  refine lv_icmp_ge (tgt := 148) K.1 K.2.1 dX10_together_104 (by decide) (fun h3 => ?_) (fun h3 => ?_)
  · rw [if_pos h3] at hf
    refine lv_aload K.1 K.2.1 dX10_together_148 (lv_at hl 3 rfl) ?_
    obtain ⟨v4, ev4, hf⟩ := Option.bind_eq_some_iff.mp hf
    obtain ⟨q5, eq5⟩ := ah_this ev4
    refine ah_callV (As := []) (rest := []) K hG hL hl.1 eq5 rfl (ctX7_meetings l H0 D ca M z a5 v4 ev4) hdX7_meetings q_462 q_463 q_53 q_465 q_464 ⟨Nat.le_of_ble_eq_true rfl, Nat.le_of_ble_eq_true rfl⟩ rfl rfl (Nat.le_of_ble_eq_true rfl) ⟨Nat.le_refl _, Nat.le_refl _⟩ dX10_together_150 (fun H locs hG hL => ?_)
    have hf := Option.some.inj hf
    subst hf
    exact ah_iret K hG hL (Nat.le_refl _) (Nat.le_refl _) dX10_together_153
  · rw [if_neg h3] at hf
    refine lv_aload_n K.1 K.2.1 dX10_together_107 rfl (lv_at hl 0 rfl) ?_
    obtain ⟨v6, ev6, hf⟩ := Option.bind_eq_some_iff.mp hf
    refine ah_getr K hG ev6 ffX10_16_10 dX10_together_108 ?_
    refine lv_aload K.1 K.2.1 dX10_together_111 (lv_at hl 3 rfl) ?_
    refine lv_iload K.1 K.2.1 dX10_together_113 (lv_at hl 4 rfl) ?_
    obtain ⟨v7, ev7, hf⟩ := Option.bind_eq_some_iff.mp hf
    obtain ⟨q8, eq8⟩ := ah_this ev7
    refine ah_callV (As := [.ref a5, .int x6]) (rest := []) K hG hL hl.1 eq8 rfl (ctX2_holdTold l H0 D ca M z v6 a5 x6 v7 ev7) hdX2_holdTold q_475 q_476 q_51 q_478 q_477 ⟨Nat.le_of_ble_eq_true rfl, Nat.le_of_ble_eq_true rfl⟩ rfl rfl (Nat.le_of_ble_eq_true rfl) ⟨Nat.le_refl _, Nat.le_refl _⟩ dX10_together_115 (fun H locs hG hL => ?_)
    refine lv_aload_n K.1 K.2.1 dX10_together_118 rfl (lv_at hl 0 rfl) ?_
    obtain ⟨v9, ev9, hf⟩ := Option.bind_eq_some_iff.mp hf
    refine ah_getr K hG ev9 ffX10_16_10 dX10_together_119 ?_
    obtain ⟨v10, ev10, hf⟩ := Option.bind_eq_some_iff.mp hf
    refine ah_getr K hG ev10 ffX10_102_2 dX10_together_122 ?_
    refine lv_iload_n K.1 K.2.1 dX10_together_125 rfl (lv_at hl 1 rfl) ?_
    obtain ⟨v11, ev11, hf⟩ := Option.bind_eq_some_iff.mp hf
    refine ah_iald K hG ev11 dX10_together_126 ?_
    refine lv_aload_n K.1 K.2.1 dX10_together_127 rfl (lv_at hl 0 rfl) ?_
    obtain ⟨v12, ev12, hf⟩ := Option.bind_eq_some_iff.mp hf
    refine ah_getr K hG ev12 ffX10_16_10 dX10_together_128 ?_
    obtain ⟨v13, ev13, hf⟩ := Option.bind_eq_some_iff.mp hf
    refine ah_getr K hG ev13 ffX10_102_2 dX10_together_131 ?_
    refine lv_iload_n K.1 K.2.1 dX10_together_134 rfl (lv_at hl 2 rfl) ?_
    obtain ⟨v14, ev14, hf⟩ := Option.bind_eq_some_iff.mp hf
    refine ah_iald K hG ev14 dX10_together_135 ?_
    refine lv_icmp_eq (tgt := 142) K.1 K.2.1 dX10_together_136 (by decide) (fun h15 => ?_) (fun h15 => ?_)
    · rw [if_pos h15] at hf
      refine lv_iinc (v := x6 + 1) (lv' := [(6, .int (x6 + 1)), (0, .ref a0), (1, .int x1), (2, .int x2), (5, .ref a5)]) K.1 K.2.1 dX10_together_142 hl (k := 4) rfl rfl (by decide) rfl (fun ls hl => ?_)
      refine lv_goto (tgt := 97) K.1 K.2.1 dX10_together_145 (by decide) ?_
      exact hk97 v7 a0 x1 x2 a5 (x6 + 1) _ _ _ hG hL (lv_sub hl [1, 2, 3, 4, 0] rfl) _ hf
    · rw [if_neg h15] at hf
      refine lv_iload K.1 K.2.1 dX10_together_139 (lv_at hl 4 rfl) ?_
      have hf := Option.some.inj hf
      subst hf
      exact ah_iret K hG hL (Nat.le_refl _) (Nat.le_refl _) dX10_together_141
theorem wX10_together_97 {p : Program} {l : Launch} {e : Env} {s : State} {m : MethodId} {args : Array Value} {below : List Frame} {meth : Method} {c : Code} {D : va_G} {ca : Nat → ClassId} {H0 : Heap} {z : Nat} (K : ah_K p s m args meth c D ca "ShipsThatMeet" cX10_together 7 (some .int))   (n : Nat) : ∀ (M : ah_h) (a0 : Nat) (x1 : Int32) (x2 : Int32) (a5 : Nat) (x6 : Int32)  (H : Heap) (locs : List Loc) (ls : Array Slot), ah_g H0 D ca M z H → ah_L H0 locs → lv_has ls 7 [(0, .ref a0), (1, .int x1), (2, .int x2), (5, .ref a5), (6, .int x6)] → ∀ Z, fX10_together_97    n M a0 x1 x2 a5 x6 = some Z → W p l e { frames := 6, cells := 0, slots := 0, locals := 137 } s m args below meth c H locs 0 0 (ah_Q below args s H0 D ca 0 0 (some (.int Z.1)) Z.2 z) (F0 m 97 ls []) := by
  induction n with
  | zero => intro M a0 x1 x2 a5 x6 H locs ls hG hL hl Z hf; cases hf
  | succ n ih => exact wX10_together_97_b K  _ ih
def fX10_together (M : ah_h) (a0 : Nat) (x1 : Int32) (x2 : Int32) (x3 : Int32) : Option (Int32 × ah_h) := (ah_ob M a0 10).bind fun _ => (ah_gr M a0 10 0).bind fun v1 => (fX2_isMan M v1 x1).bind fun v2 => if v2 = 0 then (some ((-1), M)) else ((ah_gr M a0 10 0).bind fun v5 => (fX2_isMan M v5 x2).bind fun v6 => if v6 = 0 then (some ((-1), M)) else (if x1 = x2 then (some ((-1), M)) else ((fX10_isShelf M x3).bind fun v10 => if v10 = 0 then (some ((-1), M)) else ((ah_gr M a0 10 0).bind fun v12 => (ah_gr M v12 2 5).bind fun v13 => (ah_ai M v13 x1).bind fun v14 => (ah_gr M a0 10 0).bind fun v15 => (ah_gr M v15 2 5).bind fun v16 => (ah_ai M v16 x2).bind fun v17 => if v14 = v17 then ((fX10_refusalOfMeetings M a0 x3).bind fun v19 => if 0 ≤ v19 then ((ah_gr M a0 10 4).bind fun v22 => (ah_ar M v22 3 x3).bind fun v23 => (ah_gr M a0 10 1).bind fun v24 => (ah_gr M a0 10 0).bind fun v25 => (fX2_become M v24 v25).bind fun v26 => fX10_together_97 ah_fu v26 a0 x1 x2 v23 0) else (some (v19, M))) else (some ((-3), M))))))
set_option maxRecDepth 100000 in
set_option maxHeartbeats 4000000 in
theorem ctX10_together (l : Launch) (H0 : Heap) (D : va_G) (ca : Nat → ClassId) (M : ah_h) (z : Nat) (a0 : Nat) (x1 : Int32) (x2 : Int32) (x3 : Int32) (Z : Int32 × ah_h) (hf : fX10_together M a0 x1 x2 x3 = some Z) : ah_ct l H0 D ca yX10_together cX10_together 7 (some .int) 6 137 0 0 [.ref a0, .int x1, .int x2, .int x3] M z (some (.int Z.1)) Z.2 z := by
  refine ah_of (by decide) (Nat.le_of_ble_eq_true rfl) ?_
  intro p e s m below meth c ls hin K hG hl
  have hL : ah_L H0 [] := ah_L.nil
  have hl : lv_has ls 7 [(0, .ref a0), (1, .int x1), (2, .int x2), (3, .int x3)] := hl
  unfold fX10_together at hf
  obtain ⟨-, -, hf⟩ := Option.bind_eq_some_iff.mp hf
  refine lv_aload_n K.1 K.2.1 dX10_together_0 rfl (lv_at hl 0 rfl) ?_
  obtain ⟨v1, ev1, hf⟩ := Option.bind_eq_some_iff.mp hf
  refine ah_getr K hG ev1 ffX10_10_10 dX10_together_1 ?_
  refine lv_iload_n K.1 K.2.1 dX10_together_4 rfl (lv_at hl 1 rfl) ?_
  obtain ⟨v2, ev2, hf⟩ := Option.bind_eq_some_iff.mp hf
  obtain ⟨q3, eq3⟩ := ah_this ev2
  refine ah_callV (As := [.int x1]) (rest := []) K hG hL hl.1 eq3 rfl (ctX2_isMan l H0 D ca M z v1 x1 v2 ev2) hdX2_isMan q_435 q_417 q_51 q_419 q_418 ⟨Nat.le_of_ble_eq_true rfl, Nat.le_of_ble_eq_true rfl⟩ rfl rfl (Nat.le_of_ble_eq_true rfl) ⟨Nat.le_refl _, Nat.le_refl _⟩ dX10_together_5 (fun H locs hG hL => ?_)
  refine lv_if_eq (tgt := 34) K.1 K.2.1 dX10_together_8 (by decide) (fun h4 => ?_) (fun h4 => ?_)
  · rw [if_pos h4] at hf
    refine lv_iconst (v := (-1)) K.1 K.2.1 dX10_together_34 (by decide) ?_
    have hf := Option.some.inj hf
    subst hf
    exact ah_iret K hG hL (Nat.le_refl _) (Nat.le_refl _) dX10_together_35
  · rw [if_neg h4] at hf
    refine lv_aload_n K.1 K.2.1 dX10_together_11 rfl (lv_at hl 0 rfl) ?_
    obtain ⟨v5, ev5, hf⟩ := Option.bind_eq_some_iff.mp hf
    refine ah_getr K hG ev5 ffX10_10_10 dX10_together_12 ?_
    refine lv_iload_n K.1 K.2.1 dX10_together_15 rfl (lv_at hl 2 rfl) ?_
    obtain ⟨v6, ev6, hf⟩ := Option.bind_eq_some_iff.mp hf
    obtain ⟨q7, eq7⟩ := ah_this ev6
    refine ah_callV (As := [.int x2]) (rest := []) K hG hL hl.1 eq7 rfl (ctX2_isMan l H0 D ca M z v5 x2 v6 ev6) hdX2_isMan q_435 q_417 q_51 q_419 q_418 ⟨Nat.le_of_ble_eq_true rfl, Nat.le_of_ble_eq_true rfl⟩ rfl rfl (Nat.le_of_ble_eq_true rfl) ⟨Nat.le_refl _, Nat.le_refl _⟩ dX10_together_16 (fun H locs hG hL => ?_)
    refine lv_if_eq (tgt := 34) K.1 K.2.1 dX10_together_19 (by decide) (fun h8 => ?_) (fun h8 => ?_)
    · rw [if_pos h8] at hf
      refine lv_iconst (v := (-1)) K.1 K.2.1 dX10_together_34 (by decide) ?_
      have hf := Option.some.inj hf
      subst hf
      exact ah_iret K hG hL (Nat.le_refl _) (Nat.le_refl _) dX10_together_35
    · rw [if_neg h8] at hf
      refine lv_iload_n K.1 K.2.1 dX10_together_22 rfl (lv_at hl 1 rfl) ?_
      refine lv_iload_n K.1 K.2.1 dX10_together_23 rfl (lv_at hl 2 rfl) ?_
      refine lv_icmp_eq (tgt := 34) K.1 K.2.1 dX10_together_24 (by decide) (fun h9 => ?_) (fun h9 => ?_)
      · rw [if_pos h9] at hf
        refine lv_iconst (v := (-1)) K.1 K.2.1 dX10_together_34 (by decide) ?_
        have hf := Option.some.inj hf
        subst hf
        exact ah_iret K hG hL (Nat.le_refl _) (Nat.le_refl _) dX10_together_35
      · rw [if_neg h9] at hf
        refine lv_iload_n K.1 K.2.1 dX10_together_27 rfl (lv_at hl 3 rfl) ?_
        obtain ⟨v10, ev10, hf⟩ := Option.bind_eq_some_iff.mp hf
        refine ah_callS (As := [.int x3]) (rest := []) K hG hL hl.1 (ctX10_isShelf l H0 D ca M z x3 v10 ev10) hdX10_isShelf q_218 q_219 q_50 q_220 ⟨Nat.le_of_ble_eq_true rfl, Nat.le_of_ble_eq_true rfl⟩ rfl rfl (Nat.le_of_ble_eq_true rfl) ⟨Nat.le_refl _, Nat.le_refl _⟩ dX10_together_28 (fun H locs hG hL => ?_)
        refine lv_if_ne (tgt := 36) K.1 K.2.1 dX10_together_31 (by decide) (fun h11 => ?_) (fun h11 => ?_)
        · rw [if_neg h11] at hf
          refine lv_aload_n K.1 K.2.1 dX10_together_36 rfl (lv_at hl 0 rfl) ?_
          obtain ⟨v12, ev12, hf⟩ := Option.bind_eq_some_iff.mp hf
          refine ah_getr K hG ev12 ffX10_10_10 dX10_together_37 ?_
          obtain ⟨v13, ev13, hf⟩ := Option.bind_eq_some_iff.mp hf
          refine ah_getr K hG ev13 ffX10_102_2 dX10_together_40 ?_
          refine lv_iload_n K.1 K.2.1 dX10_together_43 rfl (lv_at hl 1 rfl) ?_
          obtain ⟨v14, ev14, hf⟩ := Option.bind_eq_some_iff.mp hf
          refine ah_iald K hG ev14 dX10_together_44 ?_
          refine lv_aload_n K.1 K.2.1 dX10_together_45 rfl (lv_at hl 0 rfl) ?_
          obtain ⟨v15, ev15, hf⟩ := Option.bind_eq_some_iff.mp hf
          refine ah_getr K hG ev15 ffX10_10_10 dX10_together_46 ?_
          obtain ⟨v16, ev16, hf⟩ := Option.bind_eq_some_iff.mp hf
          refine ah_getr K hG ev16 ffX10_102_2 dX10_together_49 ?_
          refine lv_iload_n K.1 K.2.1 dX10_together_52 rfl (lv_at hl 2 rfl) ?_
          obtain ⟨v17, ev17, hf⟩ := Option.bind_eq_some_iff.mp hf
          refine ah_iald K hG ev17 dX10_together_53 ?_
          refine lv_icmp_eq (tgt := 60) K.1 K.2.1 dX10_together_54 (by decide) (fun h18 => ?_) (fun h18 => ?_)
          · rw [if_pos h18] at hf
            refine lv_aload_n K.1 K.2.1 dX10_together_60 rfl (lv_at hl 0 rfl) ?_
            refine lv_iload_n K.1 K.2.1 dX10_together_61 rfl (lv_at hl 3 rfl) ?_
            obtain ⟨v19, ev19, hf⟩ := Option.bind_eq_some_iff.mp hf
            obtain ⟨q20, eq20⟩ := ah_this ev19
            refine ah_callV (As := [.int x3]) (rest := []) K hG hL hl.1 eq20 rfl (ctX10_refusalOfMeetings l H0 D ca M z a0 x3 v19 ev19) hdX10_refusalOfMeetings q_458 q_460 q_50 q_461 q_4 ⟨Nat.le_of_ble_eq_true rfl, Nat.le_of_ble_eq_true rfl⟩ rfl rfl (Nat.le_of_ble_eq_true rfl) ⟨Nat.le_refl _, Nat.le_refl _⟩ dX10_together_62 (fun H locs hG hL => ?_)
            refine lv_istore (lv' := [(4, .int v19), (0, .ref a0), (1, .int x1), (2, .int x2), (3, .int x3)]) K.1 K.2.1 dX10_together_65 hl (by decide) rfl (fun ls hl => ?_)
            refine lv_iload K.1 K.2.1 dX10_together_67 (lv_at hl 0 rfl) ?_
            refine lv_if_ge (tgt := 75) K.1 K.2.1 dX10_together_69 (by decide) (fun h21 => ?_) (fun h21 => ?_)
            · rw [if_pos h21] at hf
              refine lv_aload_n K.1 K.2.1 dX10_together_75 rfl (lv_at hl 1 rfl) ?_
              obtain ⟨v22, ev22, hf⟩ := Option.bind_eq_some_iff.mp hf
              refine ah_getr K hG ev22 ffX10_28_10 dX10_together_76 ?_
              refine lv_iload_n K.1 K.2.1 dX10_together_79 rfl (lv_at hl 4 rfl) ?_
              obtain ⟨v23, ev23, hf⟩ := Option.bind_eq_some_iff.mp hf
              refine ah_aald (t := 3) K hG ev23 rfl rfl dX10_together_80 ?_
              refine lv_astore (lv' := [(5, .ref v23), (4, .int v19), (0, .ref a0), (1, .int x1), (2, .int x2), (3, .int x3)]) K.1 K.2.1 dX10_together_81 hl (by decide) rfl (fun ls hl => ?_)
              refine lv_aload_n K.1 K.2.1 dX10_together_83 rfl (lv_at hl 2 rfl) ?_
              obtain ⟨v24, ev24, hf⟩ := Option.bind_eq_some_iff.mp hf
              refine ah_getr K hG ev24 ffX10_16_10 dX10_together_84 ?_
              refine lv_aload_n K.1 K.2.1 dX10_together_87 rfl (lv_at hl 2 rfl) ?_
              obtain ⟨v25, ev25, hf⟩ := Option.bind_eq_some_iff.mp hf
              refine ah_getr K hG ev25 ffX10_10_10 dX10_together_88 ?_
              obtain ⟨v26, ev26, hf⟩ := Option.bind_eq_some_iff.mp hf
              obtain ⟨q27, eq27⟩ := ah_this ev26
              refine ah_callV (As := [.ref v25]) (rest := []) K hG hL hl.1 eq27 rfl (ctX2_become l H0 D ca M z v24 v25 v26 ev26) hdX2_become q_243 q_244 q_51 q_246 q_245 ⟨Nat.le_of_ble_eq_true rfl, Nat.le_of_ble_eq_true rfl⟩ rfl rfl (Nat.le_of_ble_eq_true rfl) ⟨Nat.le_refl _, Nat.le_refl _⟩ dX10_together_91 (fun H locs hG hL => ?_)
              refine lv_iconst (v := 0) K.1 K.2.1 dX10_together_94 (by decide) ?_
              refine lv_istore (lv' := [(6, .int 0), (5, .ref v23), (4, .int v19), (0, .ref a0), (1, .int x1), (2, .int x2), (3, .int x3)]) K.1 K.2.1 dX10_together_95 hl (by decide) rfl (fun ls hl => ?_)
              exact wX10_together_97 K  ah_fu v26 a0 x1 x2 v23 0 _ _ _ hG hL (lv_sub hl [3, 4, 5, 1, 0] rfl) _ hf
            · rw [if_neg h21] at hf
              refine lv_iload K.1 K.2.1 dX10_together_72 (lv_at hl 0 rfl) ?_
              have hf := Option.some.inj hf
              subst hf
              exact ah_iret K hG hL (Nat.le_refl _) (Nat.le_refl _) dX10_together_74
          · rw [if_neg h18] at hf
            refine lv_bipush (v := (-3)) K.1 K.2.1 dX10_together_57 (by decide) ?_
            have hf := Option.some.inj hf
            subst hf
            exact ah_iret K hG hL (Nat.le_refl _) (Nat.le_refl _) dX10_together_59
        · rw [if_pos h11] at hf
          refine lv_iconst (v := (-1)) K.1 K.2.1 dX10_together_34 (by decide) ?_
          have hf := Option.some.inj hf
          subst hf
          exact ah_iret K hG hL (Nat.le_refl _) (Nat.le_refl _) dX10_together_35
def fX10_moved_87  (k38 : ah_h → Nat → Int32 → Nat → Int32 → Int32 → Option (Int32 × ah_h))  (M : ah_h) (a0 : Nat) (x1 : Int32) (a4 : Nat) (x5 : Int32) (x6 : Int32) : Option (Int32 × ah_h) := k38 M a0 x1 a4 x5 (x6 + 1)
set_option maxRecDepth 100000 in
set_option maxHeartbeats 4000000 in
theorem wX10_moved_87 {p : Program} {l : Launch} {e : Env} {s : State} {m : MethodId} {args : Array Value} {below : List Frame} {meth : Method} {c : Code} {D : va_G} {ca : Nat → ClassId} {H0 : Heap} {z : Nat} (K : ah_K p s m args meth c D ca "ShipsThatMeet" cX10_moved 8 (some .int))  (k38 : ah_h → Nat → Int32 → Nat → Int32 → Int32 → Option (Int32 × ah_h)) (hk38 : ∀ (M : ah_h) (a0 : Nat) (x1 : Int32) (a4 : Nat) (x5 : Int32) (x6 : Int32)  (H : Heap) (locs : List Loc) (ls : Array Slot), ah_g H0 D ca M z H → ah_L H0 locs → lv_has ls 8 [(0, .ref a0), (1, .int x1), (4, .ref a4), (5, .int x5), (6, .int x6)] → ∀ Z, k38 M a0 x1 a4 x5 x6 = some Z → W p l e { frames := 6, cells := 0, slots := 0, locals := 137 } s m args below meth c H locs 0 0 (ah_Q below args s H0 D ca 0 0 (some (.int Z.1)) Z.2 z) (F0 m 38 ls [])) : ∀ (M : ah_h) (a0 : Nat) (x1 : Int32) (a4 : Nat) (x5 : Int32) (x6 : Int32)  (H : Heap) (locs : List Loc) (ls : Array Slot), ah_g H0 D ca M z H → ah_L H0 locs → lv_has ls 8 [(0, .ref a0), (1, .int x1), (4, .ref a4), (5, .int x5), (6, .int x6)] → ∀ Z, fX10_moved_87  k38  M a0 x1 a4 x5 x6 = some Z → W p l e { frames := 6, cells := 0, slots := 0, locals := 137 } s m args below meth c H locs 0 0 (ah_Q below args s H0 D ca 0 0 (some (.int Z.1)) Z.2 z) (F0 m 87 ls []) := by
  intro M a0 x1 a4 x5 x6 H locs ls hG hL hl Z hf
  unfold fX10_moved_87 at hf
  refine lv_iinc (v := x6 + 1) (lv' := [(6, .int (x6 + 1)), (0, .ref a0), (1, .int x1), (4, .ref a4), (5, .int x5)]) K.1 K.2.1 dX10_moved_87 hl (k := 4) rfl rfl (by decide) rfl (fun ls hl => ?_)
  refine lv_goto (tgt := 38) K.1 K.2.1 dX10_moved_90 (by decide) ?_
  exact hk38 M a0 x1 a4 x5 (x6 + 1) _ _ _ hG hL (lv_sub hl [1, 2, 3, 4, 0] rfl) _ hf
def fX10_moved_38_b   (k38 : ah_h → Nat → Int32 → Nat → Int32 → Int32 → Option (Int32 × ah_h))  (M : ah_h) (a0 : Nat) (x1 : Int32) (a4 : Nat) (x5 : Int32) (x6 : Int32) : Option (Int32 × ah_h) := (fX7_meetings M a4).bind fun v1 => if v1 ≤ x6 then (some (x5, M)) else ((ah_gr M a0 10 1).bind fun v4 => (ah_gr M v4 2 5).bind fun v5 => (ah_ai M v5 x1).bind fun v6 => (ah_gr M a0 10 1).bind fun v7 => (fX2_holdTold M v7 a4 x6).bind fun v8 => (ah_gr v8 a0 10 1).bind fun v10 => (ah_gr v8 v10 2 5).bind fun v11 => (ah_ai v8 v11 x1).bind fun v12 => if v12 = v6 then (fX10_moved_87 k38 v8 a0 x1 a4 x5 x6) else (fX10_moved_87 k38 v8 a0 x1 a4 (x5 + 1) x6))
def fX10_moved_38    : Nat → ah_h → Nat → Int32 → Nat → Int32 → Int32 → Option (Int32 × ah_h)
  | 0 => fun _ _ _ _ _ _ => none
  | n + 1 => fun M a0 x1 a4 x5 x6 => fX10_moved_38_b   (fX10_moved_38    n)  M a0 x1 a4 x5 x6
set_option maxRecDepth 100000 in
set_option maxHeartbeats 4000000 in
theorem wX10_moved_38_b {p : Program} {l : Launch} {e : Env} {s : State} {m : MethodId} {args : Array Value} {below : List Frame} {meth : Method} {c : Code} {D : va_G} {ca : Nat → ClassId} {H0 : Heap} {z : Nat} (K : ah_K p s m args meth c D ca "ShipsThatMeet" cX10_moved 8 (some .int))   (k38 : ah_h → Nat → Int32 → Nat → Int32 → Int32 → Option (Int32 × ah_h)) (hk38 : ∀ (M : ah_h) (a0 : Nat) (x1 : Int32) (a4 : Nat) (x5 : Int32) (x6 : Int32)  (H : Heap) (locs : List Loc) (ls : Array Slot), ah_g H0 D ca M z H → ah_L H0 locs → lv_has ls 8 [(0, .ref a0), (1, .int x1), (4, .ref a4), (5, .int x5), (6, .int x6)] → ∀ Z, k38 M a0 x1 a4 x5 x6 = some Z → W p l e { frames := 6, cells := 0, slots := 0, locals := 137 } s m args below meth c H locs 0 0 (ah_Q below args s H0 D ca 0 0 (some (.int Z.1)) Z.2 z) (F0 m 38 ls [])) : ∀ (M : ah_h) (a0 : Nat) (x1 : Int32) (a4 : Nat) (x5 : Int32) (x6 : Int32)  (H : Heap) (locs : List Loc) (ls : Array Slot), ah_g H0 D ca M z H → ah_L H0 locs → lv_has ls 8 [(0, .ref a0), (1, .int x1), (4, .ref a4), (5, .int x5), (6, .int x6)] → ∀ Z, fX10_moved_38_b   k38  M a0 x1 a4 x5 x6 = some Z → W p l e { frames := 6, cells := 0, slots := 0, locals := 137 } s m args below meth c H locs 0 0 (ah_Q below args s H0 D ca 0 0 (some (.int Z.1)) Z.2 z) (F0 m 38 ls []) := by
  intro M a0 x1 a4 x5 x6 H locs ls hG hL hl Z hf
  unfold fX10_moved_38_b at hf
  refine lv_iload K.1 K.2.1 dX10_moved_38 (lv_at hl 4 rfl) ?_
  refine lv_aload K.1 K.2.1 dX10_moved_40 (lv_at hl 2 rfl) ?_
  obtain ⟨v1, ev1, hf⟩ := Option.bind_eq_some_iff.mp hf
  obtain ⟨q2, eq2⟩ := ah_this ev1
  refine ah_callV (As := []) (rest := [.int x6]) K hG hL hl.1 eq2 rfl (ctX7_meetings l H0 D ca M z a4 v1 ev1) hdX7_meetings q_462 q_463 q_53 q_465 q_464 ⟨Nat.le_of_ble_eq_true rfl, Nat.le_of_ble_eq_true rfl⟩ rfl rfl (Nat.le_of_ble_eq_true rfl) ⟨Nat.le_refl _, Nat.le_refl _⟩ dX10_moved_42 (fun H locs hG hL => ?_)
  refine lv_icmp_ge (tgt := 93) K.1 K.2.1 dX10_moved_45 (by decide) (fun h3 => ?_) (fun h3 => ?_)
  · rw [if_pos h3] at hf
    refine lv_iload K.1 K.2.1 dX10_moved_93 (lv_at hl 3 rfl) ?_
    have hf := Option.some.inj hf
    subst hf
    exact ah_iret K hG hL (Nat.le_refl _) (Nat.le_refl _) dX10_moved_95
  · rw [if_neg h3] at hf
    refine lv_aload_n K.1 K.2.1 dX10_moved_48 rfl (lv_at hl 0 rfl) ?_
    obtain ⟨v4, ev4, hf⟩ := Option.bind_eq_some_iff.mp hf
    refine ah_getr K hG ev4 ffX10_16_10 dX10_moved_49 ?_
    obtain ⟨v5, ev5, hf⟩ := Option.bind_eq_some_iff.mp hf
    refine ah_getr K hG ev5 ffX10_102_2 dX10_moved_52 ?_
    refine lv_iload_n K.1 K.2.1 dX10_moved_55 rfl (lv_at hl 1 rfl) ?_
    obtain ⟨v6, ev6, hf⟩ := Option.bind_eq_some_iff.mp hf
    refine ah_iald K hG ev6 dX10_moved_56 ?_
    refine lv_istore (lv' := [(7, .int v6), (0, .ref a0), (1, .int x1), (4, .ref a4), (5, .int x5), (6, .int x6)]) K.1 K.2.1 dX10_moved_57 hl (by decide) rfl (fun ls hl => ?_)
    refine lv_aload_n K.1 K.2.1 dX10_moved_59 rfl (lv_at hl 1 rfl) ?_
    obtain ⟨v7, ev7, hf⟩ := Option.bind_eq_some_iff.mp hf
    refine ah_getr K hG ev7 ffX10_16_10 dX10_moved_60 ?_
    refine lv_aload K.1 K.2.1 dX10_moved_63 (lv_at hl 3 rfl) ?_
    refine lv_iload K.1 K.2.1 dX10_moved_65 (lv_at hl 5 rfl) ?_
    obtain ⟨v8, ev8, hf⟩ := Option.bind_eq_some_iff.mp hf
    obtain ⟨q9, eq9⟩ := ah_this ev8
    refine ah_callV (As := [.ref a4, .int x6]) (rest := []) K hG hL hl.1 eq9 rfl (ctX2_holdTold l H0 D ca M z v7 a4 x6 v8 ev8) hdX2_holdTold q_475 q_476 q_51 q_478 q_477 ⟨Nat.le_of_ble_eq_true rfl, Nat.le_of_ble_eq_true rfl⟩ rfl rfl (Nat.le_of_ble_eq_true rfl) ⟨Nat.le_refl _, Nat.le_refl _⟩ dX10_moved_67 (fun H locs hG hL => ?_)
    refine lv_aload_n K.1 K.2.1 dX10_moved_70 rfl (lv_at hl 1 rfl) ?_
    obtain ⟨v10, ev10, hf⟩ := Option.bind_eq_some_iff.mp hf
    refine ah_getr K hG ev10 ffX10_16_10 dX10_moved_71 ?_
    obtain ⟨v11, ev11, hf⟩ := Option.bind_eq_some_iff.mp hf
    refine ah_getr K hG ev11 ffX10_102_2 dX10_moved_74 ?_
    refine lv_iload_n K.1 K.2.1 dX10_moved_77 rfl (lv_at hl 2 rfl) ?_
    obtain ⟨v12, ev12, hf⟩ := Option.bind_eq_some_iff.mp hf
    refine ah_iald K hG ev12 dX10_moved_78 ?_
    refine lv_iload K.1 K.2.1 dX10_moved_79 (lv_at hl 0 rfl) ?_
    refine lv_icmp_eq (tgt := 87) K.1 K.2.1 dX10_moved_81 (by decide) (fun h13 => ?_) (fun h13 => ?_)
    · rw [if_pos h13] at hf
      exact wX10_moved_87 K k38 hk38 v8 a0 x1 a4 x5 x6 _ _ _ hG hL (lv_sub hl [1, 2, 3, 4, 5] rfl) _ hf
    · rw [if_neg h13] at hf
      refine lv_iinc (v := x5 + 1) (lv' := [(5, .int (x5 + 1)), (7, .int v6), (0, .ref a0), (1, .int x1), (4, .ref a4), (6, .int x6)]) K.1 K.2.1 dX10_moved_84 hl (k := 4) rfl rfl (by decide) rfl (fun ls hl => ?_)
      exact wX10_moved_87 K k38 hk38 v8 a0 x1 a4 (x5 + 1) x6 _ _ _ hG hL (lv_sub hl [2, 3, 4, 0, 5] rfl) _ hf
theorem wX10_moved_38 {p : Program} {l : Launch} {e : Env} {s : State} {m : MethodId} {args : Array Value} {below : List Frame} {meth : Method} {c : Code} {D : va_G} {ca : Nat → ClassId} {H0 : Heap} {z : Nat} (K : ah_K p s m args meth c D ca "ShipsThatMeet" cX10_moved 8 (some .int))   (n : Nat) : ∀ (M : ah_h) (a0 : Nat) (x1 : Int32) (a4 : Nat) (x5 : Int32) (x6 : Int32)  (H : Heap) (locs : List Loc) (ls : Array Slot), ah_g H0 D ca M z H → ah_L H0 locs → lv_has ls 8 [(0, .ref a0), (1, .int x1), (4, .ref a4), (5, .int x5), (6, .int x6)] → ∀ Z, fX10_moved_38    n M a0 x1 a4 x5 x6 = some Z → W p l e { frames := 6, cells := 0, slots := 0, locals := 137 } s m args below meth c H locs 0 0 (ah_Q below args s H0 D ca 0 0 (some (.int Z.1)) Z.2 z) (F0 m 38 ls []) := by
  induction n with
  | zero => intro M a0 x1 a4 x5 x6 H locs ls hG hL hl Z hf; cases hf
  | succ n ih => exact wX10_moved_38_b K  _ ih
def fX10_moved (M : ah_h) (a0 : Nat) (x1 : Int32) (x2 : Int32) : Option (Int32 × ah_h) := (ah_ob M a0 10).bind fun _ => (fX10_refusalOfManAndMeetings M a0 x1 x2).bind fun v1 => if 0 ≤ v1 then ((ah_gr M a0 10 4).bind fun v4 => (ah_ar M v4 3 x2).bind fun v5 => (ah_gr M a0 10 1).bind fun v6 => (ah_gr M a0 10 0).bind fun v7 => (fX2_become M v6 v7).bind fun v8 => fX10_moved_38 ah_fu v8 a0 x1 v5 0 0) else (some (v1, M))
set_option maxRecDepth 100000 in
set_option maxHeartbeats 4000000 in
theorem ctX10_moved (l : Launch) (H0 : Heap) (D : va_G) (ca : Nat → ClassId) (M : ah_h) (z : Nat) (a0 : Nat) (x1 : Int32) (x2 : Int32) (Z : Int32 × ah_h) (hf : fX10_moved M a0 x1 x2 = some Z) : ah_ct l H0 D ca yX10_moved cX10_moved 8 (some .int) 6 137 0 0 [.ref a0, .int x1, .int x2] M z (some (.int Z.1)) Z.2 z := by
  refine ah_of (by decide) (Nat.le_of_ble_eq_true rfl) ?_
  intro p e s m below meth c ls hin K hG hl
  have hL : ah_L H0 [] := ah_L.nil
  have hl : lv_has ls 8 [(0, .ref a0), (1, .int x1), (2, .int x2)] := hl
  unfold fX10_moved at hf
  obtain ⟨-, -, hf⟩ := Option.bind_eq_some_iff.mp hf
  refine lv_aload_n K.1 K.2.1 dX10_moved_0 rfl (lv_at hl 0 rfl) ?_
  refine lv_iload_n K.1 K.2.1 dX10_moved_1 rfl (lv_at hl 1 rfl) ?_
  refine lv_iload_n K.1 K.2.1 dX10_moved_2 rfl (lv_at hl 2 rfl) ?_
  obtain ⟨v1, ev1, hf⟩ := Option.bind_eq_some_iff.mp hf
  obtain ⟨q2, eq2⟩ := ah_this ev1
  refine ah_callV (As := [.int x1, .int x2]) (rest := []) K hG hL hl.1 eq2 rfl (ctX10_refusalOfManAndMeetings l H0 D ca M z a0 x1 x2 v1 ev1) hdX10_refusalOfManAndMeetings q_454 q_456 q_50 q_457 q_3 ⟨Nat.le_of_ble_eq_true rfl, Nat.le_of_ble_eq_true rfl⟩ rfl rfl (Nat.le_of_ble_eq_true rfl) ⟨Nat.le_refl _, Nat.le_refl _⟩ dX10_moved_3 (fun H locs hG hL => ?_)
  refine lv_istore_n (lv' := [(3, .int v1), (0, .ref a0), (1, .int x1), (2, .int x2)]) K.1 K.2.1 dX10_moved_6 rfl hl (by decide) rfl (fun ls hl => ?_)
  refine lv_iload_n K.1 K.2.1 dX10_moved_7 rfl (lv_at hl 0 rfl) ?_
  refine lv_if_ge (tgt := 13) K.1 K.2.1 dX10_moved_8 (by decide) (fun h3 => ?_) (fun h3 => ?_)
  · rw [if_pos h3] at hf
    refine lv_aload_n K.1 K.2.1 dX10_moved_13 rfl (lv_at hl 1 rfl) ?_
    obtain ⟨v4, ev4, hf⟩ := Option.bind_eq_some_iff.mp hf
    refine ah_getr K hG ev4 ffX10_28_10 dX10_moved_14 ?_
    refine lv_iload_n K.1 K.2.1 dX10_moved_17 rfl (lv_at hl 3 rfl) ?_
    obtain ⟨v5, ev5, hf⟩ := Option.bind_eq_some_iff.mp hf
    refine ah_aald (t := 3) K hG ev5 rfl rfl dX10_moved_18 ?_
    refine lv_astore (lv' := [(4, .ref v5), (3, .int v1), (0, .ref a0), (1, .int x1), (2, .int x2)]) K.1 K.2.1 dX10_moved_19 hl (by decide) rfl (fun ls hl => ?_)
    refine lv_aload_n K.1 K.2.1 dX10_moved_21 rfl (lv_at hl 2 rfl) ?_
    obtain ⟨v6, ev6, hf⟩ := Option.bind_eq_some_iff.mp hf
    refine ah_getr K hG ev6 ffX10_16_10 dX10_moved_22 ?_
    refine lv_aload_n K.1 K.2.1 dX10_moved_25 rfl (lv_at hl 2 rfl) ?_
    obtain ⟨v7, ev7, hf⟩ := Option.bind_eq_some_iff.mp hf
    refine ah_getr K hG ev7 ffX10_10_10 dX10_moved_26 ?_
    obtain ⟨v8, ev8, hf⟩ := Option.bind_eq_some_iff.mp hf
    obtain ⟨q9, eq9⟩ := ah_this ev8
    refine ah_callV (As := [.ref v7]) (rest := []) K hG hL hl.1 eq9 rfl (ctX2_become l H0 D ca M z v6 v7 v8 ev8) hdX2_become q_243 q_244 q_51 q_246 q_245 ⟨Nat.le_of_ble_eq_true rfl, Nat.le_of_ble_eq_true rfl⟩ rfl rfl (Nat.le_of_ble_eq_true rfl) ⟨Nat.le_refl _, Nat.le_refl _⟩ dX10_moved_29 (fun H locs hG hL => ?_)
    refine lv_iconst (v := 0) K.1 K.2.1 dX10_moved_32 (by decide) ?_
    refine lv_istore (lv' := [(5, .int 0), (4, .ref v5), (3, .int v1), (0, .ref a0), (1, .int x1), (2, .int x2)]) K.1 K.2.1 dX10_moved_33 hl (by decide) rfl (fun ls hl => ?_)
    refine lv_iconst (v := 0) K.1 K.2.1 dX10_moved_35 (by decide) ?_
    refine lv_istore (lv' := [(6, .int 0), (5, .int 0), (4, .ref v5), (3, .int v1), (0, .ref a0), (1, .int x1), (2, .int x2)]) K.1 K.2.1 dX10_moved_36 hl (by decide) rfl (fun ls hl => ?_)
    exact wX10_moved_38 K  ah_fu v8 a0 x1 v5 0 0 _ _ _ hG hL (lv_sub hl [4, 5, 2, 1, 0] rfl) _ hf
  · rw [if_neg h3] at hf
    refine lv_iload_n K.1 K.2.1 dX10_moved_11 rfl (lv_at hl 0 rfl) ?_
    have hf := Option.some.inj hf
    subst hf
    exact ah_iret K hG hL (Nat.le_refl _) (Nat.le_refl _) dX10_moved_12
def fX10_seeded_41_b   (k41 : ah_h → Nat → Int32 → Int32 → Int32 → Int32 → Option (Int32 × ah_h))  (M : ah_h) (a0 : Nat) (x1 : Int32) (x2 : Int32) (x4 : Int32) (x5 : Int32) : Option (Int32 × ah_h) := if x2 ≤ x5 then ((ah_gr M a0 10 1).bind fun v2 => (ah_gr M v2 2 5).bind fun v3 => (ah_ai M v3 x1).bind fun v4 => some (v4, M)) else ((fX10_nextSeed M x4).bind fun v5 => (ah_gr M a0 10 1).bind fun v6 => (ah_gi M v6 2 0).bind fun v7 => (fX10_drawBelow M v7 v5).bind fun v8 => (fX10_nextSeed M v5).bind fun v9 => (ah_gr M a0 10 1).bind fun v10 => (ah_gi M v10 2 0).bind fun v11 => (fX10_drawBelow M v11 v9).bind fun v12 => (ah_gr M a0 10 1).bind fun v13 => (fX2_holdMeeting M v13 v8 v12).bind fun v14 => k41 v14.2 a0 x1 x2 v9 (x5 + 1))
def fX10_seeded_41    : Nat → ah_h → Nat → Int32 → Int32 → Int32 → Int32 → Option (Int32 × ah_h)
  | 0 => fun _ _ _ _ _ _ => none
  | n + 1 => fun M a0 x1 x2 x4 x5 => fX10_seeded_41_b   (fX10_seeded_41    n)  M a0 x1 x2 x4 x5
set_option maxRecDepth 100000 in
set_option maxHeartbeats 4000000 in
theorem wX10_seeded_41_b {p : Program} {l : Launch} {e : Env} {s : State} {m : MethodId} {args : Array Value} {below : List Frame} {meth : Method} {c : Code} {D : va_G} {ca : Nat → ClassId} {H0 : Heap} {z : Nat} (K : ah_K p s m args meth c D ca "ShipsThatMeet" cX10_seeded 8 (some .int))   (k41 : ah_h → Nat → Int32 → Int32 → Int32 → Int32 → Option (Int32 × ah_h)) (hk41 : ∀ (M : ah_h) (a0 : Nat) (x1 : Int32) (x2 : Int32) (x4 : Int32) (x5 : Int32)  (H : Heap) (locs : List Loc) (ls : Array Slot), ah_g H0 D ca M z H → ah_L H0 locs → lv_has ls 8 [(0, .ref a0), (1, .int x1), (2, .int x2), (4, .int x4), (5, .int x5)] → ∀ Z, k41 M a0 x1 x2 x4 x5 = some Z → W p l e { frames := 5, cells := 0, slots := 0, locals := 115 } s m args below meth c H locs 0 0 (ah_Q below args s H0 D ca 0 0 (some (.int Z.1)) Z.2 z) (F0 m 41 ls [])) : ∀ (M : ah_h) (a0 : Nat) (x1 : Int32) (x2 : Int32) (x4 : Int32) (x5 : Int32)  (H : Heap) (locs : List Loc) (ls : Array Slot), ah_g H0 D ca M z H → ah_L H0 locs → lv_has ls 8 [(0, .ref a0), (1, .int x1), (2, .int x2), (4, .int x4), (5, .int x5)] → ∀ Z, fX10_seeded_41_b   k41  M a0 x1 x2 x4 x5 = some Z → W p l e { frames := 5, cells := 0, slots := 0, locals := 115 } s m args below meth c H locs 0 0 (ah_Q below args s H0 D ca 0 0 (some (.int Z.1)) Z.2 z) (F0 m 41 ls []) := by
  intro M a0 x1 x2 x4 x5 H locs ls hG hL hl Z hf
  unfold fX10_seeded_41_b at hf
  refine lv_iload K.1 K.2.1 dX10_seeded_41 (lv_at hl 4 rfl) ?_
  refine lv_iload_n K.1 K.2.1 dX10_seeded_43 rfl (lv_at hl 2 rfl) ?_
  refine lv_icmp_ge (tgt := 107) K.1 K.2.1 dX10_seeded_44 (by decide) (fun h1 => ?_) (fun h1 => ?_)
  · rw [if_pos h1] at hf
    refine lv_aload_n K.1 K.2.1 dX10_seeded_107 rfl (lv_at hl 0 rfl) ?_
    obtain ⟨v2, ev2, hf⟩ := Option.bind_eq_some_iff.mp hf
    refine ah_getr K hG ev2 ffX10_16_10 dX10_seeded_108 ?_
    obtain ⟨v3, ev3, hf⟩ := Option.bind_eq_some_iff.mp hf
    refine ah_getr K hG ev3 ffX10_102_2 dX10_seeded_111 ?_
    refine lv_iload_n K.1 K.2.1 dX10_seeded_114 rfl (lv_at hl 1 rfl) ?_
    obtain ⟨v4, ev4, hf⟩ := Option.bind_eq_some_iff.mp hf
    refine ah_iald K hG ev4 dX10_seeded_115 ?_
    have hf := Option.some.inj hf
    subst hf
    exact ah_iret K hG hL (Nat.le_refl _) (Nat.le_refl _) dX10_seeded_116
  · rw [if_neg h1] at hf
    refine lv_iload K.1 K.2.1 dX10_seeded_47 (lv_at hl 3 rfl) ?_
    obtain ⟨v5, ev5, hf⟩ := Option.bind_eq_some_iff.mp hf
    refine ah_callS (As := [.int x4]) (rest := []) K hG hL hl.1 (ctX10_nextSeed l H0 D ca M z x4 v5 ev5) hdX10_nextSeed q_629 q_630 q_50 q_631 ⟨Nat.le_of_ble_eq_true rfl, Nat.le_of_ble_eq_true rfl⟩ rfl rfl (Nat.le_of_ble_eq_true rfl) ⟨Nat.le_refl _, Nat.le_refl _⟩ dX10_seeded_49 (fun H locs hG hL => ?_)
    refine lv_istore (lv' := [(4, .int v5), (0, .ref a0), (1, .int x1), (2, .int x2), (5, .int x5)]) K.1 K.2.1 dX10_seeded_52 hl (by decide) rfl (fun ls hl => ?_)
    refine lv_aload_n K.1 K.2.1 dX10_seeded_54 rfl (lv_at hl 1 rfl) ?_
    obtain ⟨v6, ev6, hf⟩ := Option.bind_eq_some_iff.mp hf
    refine ah_getr K hG ev6 ffX10_16_10 dX10_seeded_55 ?_
    obtain ⟨v7, ev7, hf⟩ := Option.bind_eq_some_iff.mp hf
    refine ah_geti K hG ev7 ffX10_188_2 dX10_seeded_58 ?_
    refine lv_iload K.1 K.2.1 dX10_seeded_61 (lv_at hl 0 rfl) ?_
    obtain ⟨v8, ev8, hf⟩ := Option.bind_eq_some_iff.mp hf
    refine ah_callS (As := [.int v7, .int v5]) (rest := []) K hG hL hl.1 (ctX10_drawBelow l H0 D ca M z v7 v5 v8 ev8) hdX10_drawBelow q_633 q_634 q_50 q_635 ⟨Nat.le_of_ble_eq_true rfl, Nat.le_of_ble_eq_true rfl⟩ rfl rfl (Nat.le_of_ble_eq_true rfl) ⟨Nat.le_refl _, Nat.le_refl _⟩ dX10_seeded_63 (fun H locs hG hL => ?_)
    refine lv_istore (lv' := [(6, .int v8), (4, .int v5), (0, .ref a0), (1, .int x1), (2, .int x2), (5, .int x5)]) K.1 K.2.1 dX10_seeded_66 hl (by decide) rfl (fun ls hl => ?_)
    refine lv_iload K.1 K.2.1 dX10_seeded_68 (lv_at hl 1 rfl) ?_
    obtain ⟨v9, ev9, hf⟩ := Option.bind_eq_some_iff.mp hf
    refine ah_callS (As := [.int v5]) (rest := []) K hG hL hl.1 (ctX10_nextSeed l H0 D ca M z v5 v9 ev9) hdX10_nextSeed q_629 q_630 q_50 q_631 ⟨Nat.le_of_ble_eq_true rfl, Nat.le_of_ble_eq_true rfl⟩ rfl rfl (Nat.le_of_ble_eq_true rfl) ⟨Nat.le_refl _, Nat.le_refl _⟩ dX10_seeded_70 (fun H locs hG hL => ?_)
    refine lv_istore (lv' := [(4, .int v9), (6, .int v8), (0, .ref a0), (1, .int x1), (2, .int x2), (5, .int x5)]) K.1 K.2.1 dX10_seeded_73 hl (by decide) rfl (fun ls hl => ?_)
    refine lv_aload_n K.1 K.2.1 dX10_seeded_75 rfl (lv_at hl 2 rfl) ?_
    obtain ⟨v10, ev10, hf⟩ := Option.bind_eq_some_iff.mp hf
    refine ah_getr K hG ev10 ffX10_16_10 dX10_seeded_76 ?_
    obtain ⟨v11, ev11, hf⟩ := Option.bind_eq_some_iff.mp hf
    refine ah_geti K hG ev11 ffX10_188_2 dX10_seeded_79 ?_
    refine lv_iload K.1 K.2.1 dX10_seeded_82 (lv_at hl 0 rfl) ?_
    obtain ⟨v12, ev12, hf⟩ := Option.bind_eq_some_iff.mp hf
    refine ah_callS (As := [.int v11, .int v9]) (rest := []) K hG hL hl.1 (ctX10_drawBelow l H0 D ca M z v11 v9 v12 ev12) hdX10_drawBelow q_633 q_634 q_50 q_635 ⟨Nat.le_of_ble_eq_true rfl, Nat.le_of_ble_eq_true rfl⟩ rfl rfl (Nat.le_of_ble_eq_true rfl) ⟨Nat.le_refl _, Nat.le_refl _⟩ dX10_seeded_84 (fun H locs hG hL => ?_)
    refine lv_istore (lv' := [(7, .int v12), (4, .int v9), (6, .int v8), (0, .ref a0), (1, .int x1), (2, .int x2), (5, .int x5)]) K.1 K.2.1 dX10_seeded_87 hl (by decide) rfl (fun ls hl => ?_)
    refine lv_aload_n K.1 K.2.1 dX10_seeded_89 rfl (lv_at hl 3 rfl) ?_
    obtain ⟨v13, ev13, hf⟩ := Option.bind_eq_some_iff.mp hf
    refine ah_getr K hG ev13 ffX10_16_10 dX10_seeded_90 ?_
    refine lv_iload K.1 K.2.1 dX10_seeded_93 (lv_at hl 2 rfl) ?_
    refine lv_iload K.1 K.2.1 dX10_seeded_95 (lv_at hl 0 rfl) ?_
    obtain ⟨v14, ev14, hf⟩ := Option.bind_eq_some_iff.mp hf
    obtain ⟨q15, eq15⟩ := ah_this ev14
    refine ah_callV (As := [.int v8, .int v12]) (rest := []) K hG hL hl.1 eq15 rfl (ctX2_holdMeeting l H0 D ca M z v13 v8 v12 v14 ev14) hdX2_holdMeeting q_340 q_341 q_51 q_343 q_342 ⟨Nat.le_of_ble_eq_true rfl, Nat.le_of_ble_eq_true rfl⟩ rfl rfl (Nat.le_of_ble_eq_true rfl) ⟨Nat.le_refl _, Nat.le_refl _⟩ dX10_seeded_97 (fun H locs hG hL => ?_)
    refine lv_pop K.1 K.2.1 dX10_seeded_100 rfl ?_
    refine lv_iinc (v := x5 + 1) (lv' := [(5, .int (x5 + 1)), (7, .int v12), (4, .int v9), (6, .int v8), (0, .ref a0), (1, .int x1), (2, .int x2)]) K.1 K.2.1 dX10_seeded_101 hl (k := 6) rfl rfl (by decide) rfl (fun ls hl => ?_)
    refine lv_goto (tgt := 41) K.1 K.2.1 dX10_seeded_104 (by decide) ?_
    exact hk41 v14.2 a0 x1 x2 v9 (x5 + 1) _ _ _ hG hL (lv_sub hl [4, 5, 6, 2, 0] rfl) _ hf
theorem wX10_seeded_41 {p : Program} {l : Launch} {e : Env} {s : State} {m : MethodId} {args : Array Value} {below : List Frame} {meth : Method} {c : Code} {D : va_G} {ca : Nat → ClassId} {H0 : Heap} {z : Nat} (K : ah_K p s m args meth c D ca "ShipsThatMeet" cX10_seeded 8 (some .int))   (n : Nat) : ∀ (M : ah_h) (a0 : Nat) (x1 : Int32) (x2 : Int32) (x4 : Int32) (x5 : Int32)  (H : Heap) (locs : List Loc) (ls : Array Slot), ah_g H0 D ca M z H → ah_L H0 locs → lv_has ls 8 [(0, .ref a0), (1, .int x1), (2, .int x2), (4, .int x4), (5, .int x5)] → ∀ Z, fX10_seeded_41    n M a0 x1 x2 x4 x5 = some Z → W p l e { frames := 5, cells := 0, slots := 0, locals := 115 } s m args below meth c H locs 0 0 (ah_Q below args s H0 D ca 0 0 (some (.int Z.1)) Z.2 z) (F0 m 41 ls []) := by
  induction n with
  | zero => intro M a0 x1 x2 x4 x5 H locs ls hG hL hl Z hf; cases hf
  | succ n ih => exact wX10_seeded_41_b K  _ ih
def fX10_seeded (M : ah_h) (a0 : Nat) (x1 : Int32) (x2 : Int32) (x3 : Int32) : Option (Int32 × ah_h) := (ah_ob M a0 10).bind fun _ => (ah_gr M a0 10 0).bind fun v1 => (fX2_isMan M v1 x1).bind fun v2 => if v2 = 0 then (some ((-1), M)) else (if x2 < 1 then (some ((-1), M)) else (if x2 ≤ 40 then ((ah_gr M a0 10 1).bind fun v7 => (ah_gr M a0 10 0).bind fun v8 => (fX2_become M v7 v8).bind fun v9 => fX10_seeded_41 ah_fu v9 a0 x1 x2 x3 0) else (some ((-1), M))))
set_option maxRecDepth 100000 in
set_option maxHeartbeats 4000000 in
theorem ctX10_seeded (l : Launch) (H0 : Heap) (D : va_G) (ca : Nat → ClassId) (M : ah_h) (z : Nat) (a0 : Nat) (x1 : Int32) (x2 : Int32) (x3 : Int32) (Z : Int32 × ah_h) (hf : fX10_seeded M a0 x1 x2 x3 = some Z) : ah_ct l H0 D ca yX10_seeded cX10_seeded 8 (some .int) 5 115 0 0 [.ref a0, .int x1, .int x2, .int x3] M z (some (.int Z.1)) Z.2 z := by
  refine ah_of (by decide) (Nat.le_of_ble_eq_true rfl) ?_
  intro p e s m below meth c ls hin K hG hl
  have hL : ah_L H0 [] := ah_L.nil
  have hl : lv_has ls 8 [(0, .ref a0), (1, .int x1), (2, .int x2), (3, .int x3)] := hl
  unfold fX10_seeded at hf
  obtain ⟨-, -, hf⟩ := Option.bind_eq_some_iff.mp hf
  refine lv_aload_n K.1 K.2.1 dX10_seeded_0 rfl (lv_at hl 0 rfl) ?_
  obtain ⟨v1, ev1, hf⟩ := Option.bind_eq_some_iff.mp hf
  refine ah_getr K hG ev1 ffX10_10_10 dX10_seeded_1 ?_
  refine lv_iload_n K.1 K.2.1 dX10_seeded_4 rfl (lv_at hl 1 rfl) ?_
  obtain ⟨v2, ev2, hf⟩ := Option.bind_eq_some_iff.mp hf
  obtain ⟨q3, eq3⟩ := ah_this ev2
  refine ah_callV (As := [.int x1]) (rest := []) K hG hL hl.1 eq3 rfl (ctX2_isMan l H0 D ca M z v1 x1 v2 ev2) hdX2_isMan q_435 q_417 q_51 q_419 q_418 ⟨Nat.le_of_ble_eq_true rfl, Nat.le_of_ble_eq_true rfl⟩ rfl rfl (Nat.le_of_ble_eq_true rfl) ⟨Nat.le_refl _, Nat.le_refl _⟩ dX10_seeded_5 (fun H locs hG hL => ?_)
  refine lv_if_eq (tgt := 22) K.1 K.2.1 dX10_seeded_8 (by decide) (fun h4 => ?_) (fun h4 => ?_)
  · rw [if_pos h4] at hf
    refine lv_iconst (v := (-1)) K.1 K.2.1 dX10_seeded_22 (by decide) ?_
    have hf := Option.some.inj hf
    subst hf
    exact ah_iret K hG hL (Nat.le_refl _) (Nat.le_refl _) dX10_seeded_23
  · rw [if_neg h4] at hf
    refine lv_iload_n K.1 K.2.1 dX10_seeded_11 rfl (lv_at hl 2 rfl) ?_
    refine lv_iconst (v := 1) K.1 K.2.1 dX10_seeded_12 (by decide) ?_
    refine lv_icmp_lt (tgt := 22) K.1 K.2.1 dX10_seeded_13 (by decide) (fun h5 => ?_) (fun h5 => ?_)
    · rw [if_pos h5] at hf
      refine lv_iconst (v := (-1)) K.1 K.2.1 dX10_seeded_22 (by decide) ?_
      have hf := Option.some.inj hf
      subst hf
      exact ah_iret K hG hL (Nat.le_refl _) (Nat.le_refl _) dX10_seeded_23
    · rw [if_neg h5] at hf
      refine lv_iload_n K.1 K.2.1 dX10_seeded_16 rfl (lv_at hl 2 rfl) ?_
      refine lv_bipush (v := 40) K.1 K.2.1 dX10_seeded_17 (by decide) ?_
      refine lv_icmp_le (tgt := 24) K.1 K.2.1 dX10_seeded_19 (by decide) (fun h6 => ?_) (fun h6 => ?_)
      · rw [if_pos h6] at hf
        refine lv_aload_n K.1 K.2.1 dX10_seeded_24 rfl (lv_at hl 0 rfl) ?_
        obtain ⟨v7, ev7, hf⟩ := Option.bind_eq_some_iff.mp hf
        refine ah_getr K hG ev7 ffX10_16_10 dX10_seeded_25 ?_
        refine lv_aload_n K.1 K.2.1 dX10_seeded_28 rfl (lv_at hl 0 rfl) ?_
        obtain ⟨v8, ev8, hf⟩ := Option.bind_eq_some_iff.mp hf
        refine ah_getr K hG ev8 ffX10_10_10 dX10_seeded_29 ?_
        obtain ⟨v9, ev9, hf⟩ := Option.bind_eq_some_iff.mp hf
        obtain ⟨q10, eq10⟩ := ah_this ev9
        refine ah_callV (As := [.ref v8]) (rest := []) K hG hL hl.1 eq10 rfl (ctX2_become l H0 D ca M z v7 v8 v9 ev9) hdX2_become q_243 q_244 q_51 q_246 q_245 ⟨Nat.le_of_ble_eq_true rfl, Nat.le_of_ble_eq_true rfl⟩ rfl rfl (Nat.le_of_ble_eq_true rfl) ⟨Nat.le_refl _, Nat.le_refl _⟩ dX10_seeded_32 (fun H locs hG hL => ?_)
        refine lv_iload_n K.1 K.2.1 dX10_seeded_35 rfl (lv_at hl 3 rfl) ?_
        refine lv_istore (lv' := [(4, .int x3), (0, .ref a0), (1, .int x1), (2, .int x2), (3, .int x3)]) K.1 K.2.1 dX10_seeded_36 hl (by decide) rfl (fun ls hl => ?_)
        refine lv_iconst (v := 0) K.1 K.2.1 dX10_seeded_38 (by decide) ?_
        refine lv_istore (lv' := [(5, .int 0), (4, .int x3), (0, .ref a0), (1, .int x1), (2, .int x2), (3, .int x3)]) K.1 K.2.1 dX10_seeded_39 hl (by decide) rfl (fun ls hl => ?_)
        exact wX10_seeded_41 K  ah_fu v9 a0 x1 x2 x3 0 _ _ _ hG hL (lv_sub hl [2, 3, 4, 1, 0] rfl) _ hf
      · rw [if_neg h6] at hf
        refine lv_iconst (v := (-1)) K.1 K.2.1 dX10_seeded_22 (by decide) ?_
        have hf := Option.some.inj hf
        subst hf
        exact ah_iret K hG hL (Nat.le_refl _) (Nat.le_refl _) dX10_seeded_23
def fX10_pay (M : ah_h) (a0 : Nat) (x1 : Int32) : Option (Int32) := (ah_ob M a0 10).bind fun _ => (fX10_refusalOfCaptain M a0 x1).bind fun v1 => if 0 ≤ v1 then ((ah_gr M a0 10 4).bind fun v4 => (ah_ar M v4 3 x1).bind fun v5 => (ah_gq M v5 7 0).bind fun v6 => v6.bind fun c7 => (dv_wages M c7).bind fun v8 => some v8) else (some v1)
set_option maxRecDepth 100000 in
set_option maxHeartbeats 4000000 in
theorem ctX10_pay (l : Launch) (H0 : Heap) (D : va_G) (ca : Nat → ClassId) (M : ah_h) (z : Nat) (a0 : Nat) (x1 : Int32) (Z : Int32) (hf : fX10_pay M a0 x1 = some Z) : ah_ct l H0 D ca yX10_pay cX10_pay 3 (some .int) 4 80 0 0 [.ref a0, .int x1] M z (some (.int Z)) M z := by
  refine ah_of (by decide) (Nat.le_of_ble_eq_true rfl) ?_
  intro p e s m below meth c ls hin K hG hl
  have hL : ah_L H0 [] := ah_L.nil
  have hl : lv_has ls 3 [(0, .ref a0), (1, .int x1)] := hl
  unfold fX10_pay at hf
  obtain ⟨-, -, hf⟩ := Option.bind_eq_some_iff.mp hf
  refine lv_aload_n K.1 K.2.1 dX10_pay_0 rfl (lv_at hl 0 rfl) ?_
  refine lv_iload_n K.1 K.2.1 dX10_pay_1 rfl (lv_at hl 1 rfl) ?_
  obtain ⟨v1, ev1, hf⟩ := Option.bind_eq_some_iff.mp hf
  obtain ⟨q2, eq2⟩ := ah_this ev1
  refine ah_callV (As := [.int x1]) (rest := []) K hG hL hl.1 eq2 rfl (ctX10_refusalOfCaptain l H0 D ca M z a0 x1 v1 ev1) hdX10_refusalOfCaptain q_440 q_442 q_50 q_443 q_2 ⟨Nat.le_of_ble_eq_true rfl, Nat.le_of_ble_eq_true rfl⟩ rfl rfl (Nat.le_of_ble_eq_true rfl) ⟨Nat.le_refl _, Nat.le_refl _⟩ dX10_pay_2 (fun H locs hG hL => ?_)
  refine lv_istore_n (lv' := [(2, .int v1), (0, .ref a0), (1, .int x1)]) K.1 K.2.1 dX10_pay_5 rfl hl (by decide) rfl (fun ls hl => ?_)
  refine lv_iload_n K.1 K.2.1 dX10_pay_6 rfl (lv_at hl 0 rfl) ?_
  refine lv_if_ge (tgt := 14) K.1 K.2.1 dX10_pay_7 (by decide) (fun h3 => ?_) (fun h3 => ?_)
  · rw [if_pos h3] at hf
    refine lv_aload_n K.1 K.2.1 dX10_pay_14 rfl (lv_at hl 1 rfl) ?_
    obtain ⟨v4, ev4, hf⟩ := Option.bind_eq_some_iff.mp hf
    refine ah_getr K hG ev4 ffX10_28_10 dX10_pay_15 ?_
    refine lv_iload_n K.1 K.2.1 dX10_pay_18 rfl (lv_at hl 2 rfl) ?_
    obtain ⟨v5, ev5, hf⟩ := Option.bind_eq_some_iff.mp hf
    refine ah_aald (t := 3) K hG ev5 rfl rfl dX10_pay_19 ?_
    obtain ⟨v6, ev6, hf⟩ := Option.bind_eq_some_iff.mp hf
    refine ah_getq K hG ev6 ffX10_117_7 dX10_pay_20 ?_
    obtain ⟨c7, ec7, hf⟩ := Option.bind_eq_some_iff.mp hf
    rw [ec7]
    rw [show va_rf (some c7) = .ref c7 from rfl]
    obtain ⟨v8, ev8, hf⟩ := Option.bind_eq_some_iff.mp hf
    refine dv_wages_call (rest := []) K hG hL hl.1 ev8 q_711 (Nat.le_of_ble_eq_true rfl) (Nat.le_of_ble_eq_true rfl) rfl (Nat.le_of_ble_eq_true rfl) ⟨Nat.le_refl _, Nat.le_refl _⟩ dX10_pay_23 (fun H locs hG hL => ?_)
    have hf := Option.some.inj hf
    subst hf
    exact ah_iret K hG hL (Nat.le_refl _) (Nat.le_refl _) dX10_pay_26
  · rw [if_neg h3] at hf
    refine lv_iload_n K.1 K.2.1 dX10_pay_10 rfl (lv_at hl 0 rfl) ?_
    refine lv_goto (tgt := 26) K.1 K.2.1 dX10_pay_11 (by decide) ?_
    have hf := Option.some.inj hf
    subst hf
    exact ah_iret K hG hL (Nat.le_refl _) (Nat.le_refl _) dX10_pay_26
def fX10_isCarriedOut (M : ah_h) (z : Nat) (x0 : Nat) (x1 : Nat) (x2 : Int32) : Option (Int32 × ah_h × Nat) := (fX10_digit M x1 (x2 + 1)).bind fun v1 => (fX10_digit M x1 (x2 + 2)).bind fun v2 => (fX7_at M x1 x2).bind fun v3 => if v3 = 109 then ((fX10_digit M x1 (x2 + 3)).bind fun v6 => (fX2_takesMan M x0 v1 v2 v6).bind fun v7 => if v7.1 = 0 ∨ v7.1 = 1 then some (v7.1, v7.2, z) else none) else if v3 = 115 then ((fX10_isKindAndFigure M v1 v2).bind fun v11 => if v11 = 0 then (some (0, M, z)) else ((fX10_captainOf M z v1 v2).bind fun v13 => (fX2_takesShip v13.2.1 x0 v13.1).bind fun v14 => if v14.1 = 0 then (some (0, v14.2, v13.2.2)) else (some (1, v14.2, v13.2.2)))) else if v3 = 120 then ((fX2_holdMeeting M x0 v1 v2).bind fun v18 => if v18.1 = 0 ∨ v18.1 = 1 then some (v18.1, v18.2, z) else none) else (some (0, M, z))
set_option maxRecDepth 100000 in
set_option maxHeartbeats 4000000 in
theorem ctX10_isCarriedOut (l : Launch) (H0 : Heap) (D : va_G) (ca : Nat → ClassId) (M : ah_h) (z : Nat) (x0 : Nat) (x1 : Nat) (x2 : Int32) (Z : Int32 × ah_h × Nat) (hf : fX10_isCarriedOut M z x0 x1 x2 = some Z) : ah_ct l H0 D ca yX10_isCarriedOut cX10_isCarriedOut 5 (some .boolean) 6 128 1 2 [.ref x0, .ref x1, .int x2] M z (some (.int Z.1)) Z.2.1 Z.2.2 := by
  refine ah_of (by decide) (Nat.le_of_ble_eq_true rfl) ?_
  intro p e s m below meth c ls hin K hG hl
  have hL : ah_L H0 [] := ah_L.nil
  have hl : lv_has ls 5 [(0, .ref x0), (1, .ref x1), (2, .int x2)] := hl
  unfold fX10_isCarriedOut at hf
  refine lv_aload_n K.1 K.2.1 dX10_isCarriedOut_0 rfl (lv_at hl 1 rfl) ?_
  refine lv_iload_n K.1 K.2.1 dX10_isCarriedOut_1 rfl (lv_at hl 2 rfl) ?_
  refine lv_iconst (v := 1) K.1 K.2.1 dX10_isCarriedOut_2 (by decide) ?_
  refine lv_iadd K.1 K.2.1 dX10_isCarriedOut_3 ?_
  obtain ⟨v1, ev1, hf⟩ := Option.bind_eq_some_iff.mp hf
  refine ah_callS (As := [.ref x1, .int (x2 + 1)]) (rest := []) K hG hL hl.1 (ctX10_digit l H0 D ca M z x1 (x2 + 1) v1 ev1) hdX10_digit q_250 q_251 q_50 q_252 ⟨Nat.le_of_ble_eq_true rfl, Nat.le_of_ble_eq_true rfl⟩ rfl rfl (Nat.le_of_ble_eq_true rfl) ⟨by show _ ≤ 1; omega, by show _ ≤ 2; omega⟩ dX10_isCarriedOut_4 (fun H locs hG hL => ?_)
  refine lv_istore_n (lv' := [(3, .int v1), (0, .ref x0), (1, .ref x1), (2, .int x2)]) K.1 K.2.1 dX10_isCarriedOut_7 rfl hl (by decide) rfl (fun ls hl => ?_)
  refine lv_aload_n K.1 K.2.1 dX10_isCarriedOut_8 rfl (lv_at hl 2 rfl) ?_
  refine lv_iload_n K.1 K.2.1 dX10_isCarriedOut_9 rfl (lv_at hl 3 rfl) ?_
  refine lv_iconst (v := 2) K.1 K.2.1 dX10_isCarriedOut_10 (by decide) ?_
  refine lv_iadd K.1 K.2.1 dX10_isCarriedOut_11 ?_
  obtain ⟨v2, ev2, hf⟩ := Option.bind_eq_some_iff.mp hf
  refine ah_callS (As := [.ref x1, .int (x2 + 2)]) (rest := []) K hG hL hl.1 (ctX10_digit l H0 D ca M z x1 (x2 + 2) v2 ev2) hdX10_digit q_250 q_251 q_50 q_252 ⟨Nat.le_of_ble_eq_true rfl, Nat.le_of_ble_eq_true rfl⟩ rfl rfl (Nat.le_of_ble_eq_true rfl) ⟨by show _ ≤ 1; omega, by show _ ≤ 2; omega⟩ dX10_isCarriedOut_12 (fun H locs hG hL => ?_)
  refine lv_istore (lv' := [(4, .int v2), (3, .int v1), (0, .ref x0), (1, .ref x1), (2, .int x2)]) K.1 K.2.1 dX10_isCarriedOut_15 hl (by decide) rfl (fun ls hl => ?_)
  refine lv_aload_n K.1 K.2.1 dX10_isCarriedOut_17 rfl (lv_at hl 3 rfl) ?_
  refine lv_iload_n K.1 K.2.1 dX10_isCarriedOut_18 rfl (lv_at hl 4 rfl) ?_
  obtain ⟨v3, ev3, hf⟩ := Option.bind_eq_some_iff.mp hf
  obtain ⟨q4, eq4⟩ := ah_this ev3
  refine ah_callV (As := [.int x2]) (rest := []) K hG hL hl.1 eq4 rfl (ctX7_at l H0 D ca M z x1 x2 v3 ev3) hdX7_at q_232 q_233 q_53 q_235 q_234 ⟨Nat.le_of_ble_eq_true rfl, Nat.le_of_ble_eq_true rfl⟩ rfl rfl (Nat.le_of_ble_eq_true rfl) ⟨by show _ ≤ 1; omega, by show _ ≤ 2; omega⟩ dX10_isCarriedOut_19 (fun H locs hG hL => ?_)
  by_cases h5 : v3 = 109
  · rw [if_pos h5] at hf
    refine lv_lookup (off := 62) (tgt := 84) K.1 K.2.1 dX10_isCarriedOut_22 (by decide) (by rw [h5]; rfl) (by decide) ?_
    refine lv_aload_n K.1 K.2.1 dX10_isCarriedOut_84 rfl (lv_at hl 2 rfl) ?_
    refine lv_iload_n K.1 K.2.1 dX10_isCarriedOut_85 rfl (lv_at hl 1 rfl) ?_
    refine lv_iload K.1 K.2.1 dX10_isCarriedOut_86 (lv_at hl 0 rfl) ?_
    refine lv_aload_n K.1 K.2.1 dX10_isCarriedOut_88 rfl (lv_at hl 3 rfl) ?_
    refine lv_iload_n K.1 K.2.1 dX10_isCarriedOut_89 rfl (lv_at hl 4 rfl) ?_
    refine lv_iconst (v := 3) K.1 K.2.1 dX10_isCarriedOut_90 (by decide) ?_
    refine lv_iadd K.1 K.2.1 dX10_isCarriedOut_91 ?_
    obtain ⟨v6, ev6, hf⟩ := Option.bind_eq_some_iff.mp hf
    refine ah_callS (As := [.ref x1, .int (x2 + 3)]) (rest := [.int v2, .int v1, .ref x0]) K hG hL hl.1 (ctX10_digit l H0 D ca M z x1 (x2 + 3) v6 ev6) hdX10_digit q_250 q_251 q_50 q_252 ⟨Nat.le_of_ble_eq_true rfl, Nat.le_of_ble_eq_true rfl⟩ rfl rfl (Nat.le_of_ble_eq_true rfl) ⟨by show _ ≤ 1; omega, by show _ ≤ 2; omega⟩ dX10_isCarriedOut_92 (fun H locs hG hL => ?_)
    obtain ⟨v7, ev7, hf⟩ := Option.bind_eq_some_iff.mp hf
    obtain ⟨q8, eq8⟩ := ah_this ev7
    refine ah_callV (As := [.int v1, .int v2, .int v6]) (rest := []) K hG hL hl.1 eq8 rfl (ctX2_takesMan l H0 D ca M z x0 v1 v2 v6 v7 ev7) hdX2_takesMan q_328 q_329 q_51 q_331 q_330 ⟨Nat.le_of_ble_eq_true rfl, Nat.le_of_ble_eq_true rfl⟩ rfl rfl (Nat.le_of_ble_eq_true rfl) ⟨by show _ ≤ 1; omega, by show _ ≤ 2; omega⟩ dX10_isCarriedOut_95 (fun H locs hG hL => ?_)
    by_cases h9 : v7.1 = 0 ∨ v7.1 = 1
    case neg => rw [if_neg h9] at hf; cases hf
    rw [if_pos h9] at hf
    have hf := Option.some.inj hf
    subst hf
    exact ah_zret K hG hL h9 (by omega) (by omega) dX10_isCarriedOut_98
  rw [if_neg h5] at hf
  by_cases h10 : v3 = 115
  · rw [if_pos h10] at hf
    refine lv_lookup (off := 34) (tgt := 56) K.1 K.2.1 dX10_isCarriedOut_22 (by decide) (by rw [h10]; rfl) (by decide) ?_
    refine lv_iload_n K.1 K.2.1 dX10_isCarriedOut_56 rfl (lv_at hl 1 rfl) ?_
    refine lv_iload K.1 K.2.1 dX10_isCarriedOut_57 (lv_at hl 0 rfl) ?_
    obtain ⟨v11, ev11, hf⟩ := Option.bind_eq_some_iff.mp hf
    refine ah_callS (As := [.int v1, .int v2]) (rest := []) K hG hL hl.1 (ctX10_isKindAndFigure l H0 D ca M z v1 v2 v11 ev11) hdX10_isKindAndFigure q_253 q_254 q_50 q_255 ⟨Nat.le_of_ble_eq_true rfl, Nat.le_of_ble_eq_true rfl⟩ rfl rfl (Nat.le_of_ble_eq_true rfl) ⟨by show _ ≤ 1; omega, by show _ ≤ 2; omega⟩ dX10_isCarriedOut_59 (fun H locs hG hL => ?_)
    refine lv_if_eq (tgt := 82) K.1 K.2.1 dX10_isCarriedOut_62 (by decide) (fun h12 => ?_) (fun h12 => ?_)
    · rw [if_pos h12] at hf
      refine lv_iconst (v := 0) K.1 K.2.1 dX10_isCarriedOut_82 (by decide) ?_
      have hf := Option.some.inj hf
      subst hf
      exact ah_zret K hG hL (Or.inl rfl) (by omega) (by omega) dX10_isCarriedOut_83
    · rw [if_neg h12] at hf
      refine lv_aload_n K.1 K.2.1 dX10_isCarriedOut_65 rfl (lv_at hl 2 rfl) ?_
      refine lv_iload_n K.1 K.2.1 dX10_isCarriedOut_66 rfl (lv_at hl 1 rfl) ?_
      refine lv_iload K.1 K.2.1 dX10_isCarriedOut_67 (lv_at hl 0 rfl) ?_
      obtain ⟨v13, ev13, hf⟩ := Option.bind_eq_some_iff.mp hf
      refine ah_callS (As := [.int v1, .int v2]) (rest := [.ref x0]) K hG hL hl.1 (ctX10_captainOf l H0 D ca M z v1 v2 v13 ev13) hdX10_captainOf q_256 q_257 q_50 q_258 ⟨Nat.le_of_ble_eq_true rfl, Nat.le_of_ble_eq_true rfl⟩ rfl rfl (Nat.le_of_ble_eq_true rfl) ⟨by show _ ≤ 1; omega, by show _ ≤ 2; omega⟩ dX10_isCarriedOut_69 (fun H locs hG hL => ?_)
      obtain ⟨v14, ev14, hf⟩ := Option.bind_eq_some_iff.mp hf
      obtain ⟨q15, eq15⟩ := ah_this ev14
      refine ah_callV (As := [.ref v13.1]) (rest := []) K hG hL hl.1 eq15 rfl (ctX2_takesShip l H0 D ca v13.2.1 v13.2.2 x0 v13.1 v14 ev14) hdX2_takesShip q_324 q_325 q_51 q_327 q_326 ⟨Nat.le_of_ble_eq_true rfl, Nat.le_of_ble_eq_true rfl⟩ rfl rfl (Nat.le_of_ble_eq_true rfl) ⟨by show _ ≤ 1; omega, by show _ ≤ 2; omega⟩ dX10_isCarriedOut_72 (fun H locs hG hL => ?_)
      refine lv_if_eq (tgt := 82) K.1 K.2.1 dX10_isCarriedOut_75 (by decide) (fun h16 => ?_) (fun h16 => ?_)
      · rw [if_pos h16] at hf
        refine lv_iconst (v := 0) K.1 K.2.1 dX10_isCarriedOut_82 (by decide) ?_
        have hf := Option.some.inj hf
        subst hf
        exact ah_zret K hG hL (Or.inl rfl) (by omega) (by omega) dX10_isCarriedOut_83
      · rw [if_neg h16] at hf
        refine lv_iconst (v := 1) K.1 K.2.1 dX10_isCarriedOut_78 (by decide) ?_
        refine lv_goto (tgt := 83) K.1 K.2.1 dX10_isCarriedOut_79 (by decide) ?_
        have hf := Option.some.inj hf
        subst hf
        exact ah_zret K hG hL (Or.inr rfl) (by omega) (by omega) dX10_isCarriedOut_83
  rw [if_neg h10] at hf
  by_cases h17 : v3 = 120
  · rw [if_pos h17] at hf
    refine lv_lookup (off := 77) (tgt := 99) K.1 K.2.1 dX10_isCarriedOut_22 (by decide) (by rw [h17]; rfl) (by decide) ?_
    refine lv_aload_n K.1 K.2.1 dX10_isCarriedOut_99 rfl (lv_at hl 2 rfl) ?_
    refine lv_iload_n K.1 K.2.1 dX10_isCarriedOut_100 rfl (lv_at hl 1 rfl) ?_
    refine lv_iload K.1 K.2.1 dX10_isCarriedOut_101 (lv_at hl 0 rfl) ?_
    obtain ⟨v18, ev18, hf⟩ := Option.bind_eq_some_iff.mp hf
    obtain ⟨q19, eq19⟩ := ah_this ev18
    refine ah_callV (As := [.int v1, .int v2]) (rest := []) K hG hL hl.1 eq19 rfl (ctX2_holdMeeting l H0 D ca M z x0 v1 v2 v18 ev18) hdX2_holdMeeting q_340 q_341 q_51 q_343 q_342 ⟨Nat.le_of_ble_eq_true rfl, Nat.le_of_ble_eq_true rfl⟩ rfl rfl (Nat.le_of_ble_eq_true rfl) ⟨by show _ ≤ 1; omega, by show _ ≤ 2; omega⟩ dX10_isCarriedOut_103 (fun H locs hG hL => ?_)
    by_cases h20 : v18.1 = 0 ∨ v18.1 = 1
    case neg => rw [if_neg h20] at hf; cases hf
    rw [if_pos h20] at hf
    have hf := Option.some.inj hf
    subst hf
    exact ah_zret K hG hL h20 (by omega) (by omega) dX10_isCarriedOut_106
  rw [if_neg h17] at hf
  refine lv_lookup (off := 85) (tgt := 107) K.1 K.2.1 dX10_isCarriedOut_22 (by decide) ((congrArg (fun l => Op.lookupswitch.offset l _ _) rfl).trans (by rw [lv_osw h5 (by decide), lv_osw h10 (by decide), lv_osw h17 (by decide)]; rfl)) (by decide) ?_
  refine lv_iconst (v := 0) K.1 K.2.1 dX10_isCarriedOut_107 (by decide) ?_
  have hf := Option.some.inj hf
  subst hf
  exact ah_zret K hG hL (Or.inl rfl) (by omega) (by omega) dX10_isCarriedOut_108
