-- X6_gift X8_gift X9_unwanted X9_gift X10_commands X10_never X10_count X10_row X10_put X10_copy X10_choicesBehind X10_spreadChances X10_captainOf X0_gift X3_gift X10_can X10_soonest X10_keep X10_fillChances
def fX6_gift_45  (k6 : Nat → Int32 → Int32 → Int32 → Option (Int32)) (M : ah_h) (a1 : Nat) (x2 : Int32) (x3 : Int32) (x4 : Int32) : Option (Int32) := k6 a1 x2 x3 (x4 + 1)
set_option maxRecDepth 100000 in
set_option maxHeartbeats 4000000 in
theorem wX6_gift_45 {p : Program} {l : Launch} {e : Env} {s : State} {m : MethodId} {args : Array Value} {below : List Frame} {meth : Method} {c : Code} {D : va_G} {ca : Nat → ClassId} {H0 : Heap} {M : ah_h} {z : Nat} (K : ah_K p s m args meth c D ca "ShipsThatMeet$Old" cX6_gift 5 (some .int))  (k6 : Nat → Int32 → Int32 → Int32 → Option (Int32)) (hk6 : ∀ (a1 : Nat) (x2 : Int32) (x3 : Int32) (x4 : Int32)  (H : Heap) (locs : List Loc) (ls : Array Slot), ah_g H0 D ca M z H → ah_L H0 locs → lv_has ls 5 [(1, .ref a1), (2, .int x2), (3, .int x3), (4, .int x4)] → ∀ Z, k6 a1 x2 x3 x4 = some Z → W p l e { frames := 1, cells := 0, slots := 0, locals := 21 } s m args below meth c H locs 0 0 (ah_Q below args s H0 D ca 0 0 (some (.int Z)) M z) (F0 m 6 ls [])) : ∀ (a1 : Nat) (x2 : Int32) (x3 : Int32) (x4 : Int32)  (H : Heap) (locs : List Loc) (ls : Array Slot), ah_g H0 D ca M z H → ah_L H0 locs → lv_has ls 5 [(1, .ref a1), (2, .int x2), (3, .int x3), (4, .int x4)] → ∀ Z, fX6_gift_45  k6 M a1 x2 x3 x4 = some Z → W p l e { frames := 1, cells := 0, slots := 0, locals := 21 } s m args below meth c H locs 0 0 (ah_Q below args s H0 D ca 0 0 (some (.int Z)) M z) (F0 m 45 ls []) := by
  intro a1 x2 x3 x4 H locs ls hG hL hl Z hf
  unfold fX6_gift_45 at hf
  refine lv_iinc (v := x4 + 1) (lv' := [(4, .int (x4 + 1)), (1, .ref a1), (2, .int x2), (3, .int x3)]) K.1 K.2.1 dX6_gift_45 hl (k := 3) rfl rfl (by decide) rfl (fun ls hl => ?_)
  refine lv_goto (tgt := 6) K.1 K.2.1 dX6_gift_48 (by decide) ?_
  exact hk6 a1 x2 x3 (x4 + 1) _ _ _ hG hL (lv_sub hl [1, 2, 3, 0] rfl) _ hf
def fX6_gift_42  (k6 : Nat → Int32 → Int32 → Int32 → Option (Int32)) (M : ah_h) (a1 : Nat) (x2 : Int32) (x4 : Int32) : Option (Int32) := fX6_gift_45 k6 M a1 x2 x4 x4
set_option maxRecDepth 100000 in
set_option maxHeartbeats 4000000 in
theorem wX6_gift_42 {p : Program} {l : Launch} {e : Env} {s : State} {m : MethodId} {args : Array Value} {below : List Frame} {meth : Method} {c : Code} {D : va_G} {ca : Nat → ClassId} {H0 : Heap} {M : ah_h} {z : Nat} (K : ah_K p s m args meth c D ca "ShipsThatMeet$Old" cX6_gift 5 (some .int))  (k6 : Nat → Int32 → Int32 → Int32 → Option (Int32)) (hk6 : ∀ (a1 : Nat) (x2 : Int32) (x3 : Int32) (x4 : Int32)  (H : Heap) (locs : List Loc) (ls : Array Slot), ah_g H0 D ca M z H → ah_L H0 locs → lv_has ls 5 [(1, .ref a1), (2, .int x2), (3, .int x3), (4, .int x4)] → ∀ Z, k6 a1 x2 x3 x4 = some Z → W p l e { frames := 1, cells := 0, slots := 0, locals := 21 } s m args below meth c H locs 0 0 (ah_Q below args s H0 D ca 0 0 (some (.int Z)) M z) (F0 m 6 ls [])) : ∀ (a1 : Nat) (x2 : Int32) (x4 : Int32)  (H : Heap) (locs : List Loc) (ls : Array Slot), ah_g H0 D ca M z H → ah_L H0 locs → lv_has ls 5 [(1, .ref a1), (2, .int x2), (4, .int x4)] → ∀ Z, fX6_gift_42  k6 M a1 x2 x4 = some Z → W p l e { frames := 1, cells := 0, slots := 0, locals := 21 } s m args below meth c H locs 0 0 (ah_Q below args s H0 D ca 0 0 (some (.int Z)) M z) (F0 m 42 ls []) := by
  intro a1 x2 x4 H locs ls hG hL hl Z hf
  unfold fX6_gift_42 at hf
  refine lv_iload K.1 K.2.1 dX6_gift_42 (lv_at hl 2 rfl) ?_
  refine lv_istore_n (lv' := [(3, .int x4), (1, .ref a1), (2, .int x2), (4, .int x4)]) K.1 K.2.1 dX6_gift_44 rfl hl (by decide) rfl (fun ls hl => ?_)
  exact wX6_gift_45 K k6 hk6 a1 x2 x4 x4 _ _ _ hG hL (lv_sub hl [1, 2, 0, 3] rfl) _ hf
def fX6_gift_6_b   (k6 : Nat → Int32 → Int32 → Int32 → Option (Int32)) (M : ah_h) (a1 : Nat) (x2 : Int32) (x3 : Int32) (x4 : Int32) : Option (Int32) := if 12 ≤ x4 then (some x3) else ((fX10_has M x2 x4).bind fun v2 => if v2 = 0 then (fX6_gift_45 k6 M a1 x2 x3 x4) else (if x3 < 0 then (fX6_gift_42 k6 M a1 x2 x4) else ((ah_gr M a1 2 8).bind fun v5 => (ah_ai M v5 x4).bind fun v6 => (ah_gr M a1 2 8).bind fun v7 => (ah_ai M v7 x3).bind fun v8 => if v8 ≤ v6 then (fX6_gift_45 k6 M a1 x2 x3 x4) else (fX6_gift_42 k6 M a1 x2 x4))))
def fX6_gift_6   (M : ah_h) : Nat → Nat → Int32 → Int32 → Int32 → Option (Int32)
  | 0 => fun _ _ _ _ => none
  | n + 1 => fun a1 x2 x3 x4 => fX6_gift_6_b   (fX6_gift_6   M n) M a1 x2 x3 x4
set_option maxRecDepth 100000 in
set_option maxHeartbeats 4000000 in
theorem wX6_gift_6_b {p : Program} {l : Launch} {e : Env} {s : State} {m : MethodId} {args : Array Value} {below : List Frame} {meth : Method} {c : Code} {D : va_G} {ca : Nat → ClassId} {H0 : Heap} {M : ah_h} {z : Nat} (K : ah_K p s m args meth c D ca "ShipsThatMeet$Old" cX6_gift 5 (some .int))   (k6 : Nat → Int32 → Int32 → Int32 → Option (Int32)) (hk6 : ∀ (a1 : Nat) (x2 : Int32) (x3 : Int32) (x4 : Int32)  (H : Heap) (locs : List Loc) (ls : Array Slot), ah_g H0 D ca M z H → ah_L H0 locs → lv_has ls 5 [(1, .ref a1), (2, .int x2), (3, .int x3), (4, .int x4)] → ∀ Z, k6 a1 x2 x3 x4 = some Z → W p l e { frames := 1, cells := 0, slots := 0, locals := 21 } s m args below meth c H locs 0 0 (ah_Q below args s H0 D ca 0 0 (some (.int Z)) M z) (F0 m 6 ls [])) : ∀ (a1 : Nat) (x2 : Int32) (x3 : Int32) (x4 : Int32)  (H : Heap) (locs : List Loc) (ls : Array Slot), ah_g H0 D ca M z H → ah_L H0 locs → lv_has ls 5 [(1, .ref a1), (2, .int x2), (3, .int x3), (4, .int x4)] → ∀ Z, fX6_gift_6_b   k6 M a1 x2 x3 x4 = some Z → W p l e { frames := 1, cells := 0, slots := 0, locals := 21 } s m args below meth c H locs 0 0 (ah_Q below args s H0 D ca 0 0 (some (.int Z)) M z) (F0 m 6 ls []) := by
  intro a1 x2 x3 x4 H locs ls hG hL hl Z hf
  unfold fX6_gift_6_b at hf
  refine lv_iload K.1 K.2.1 dX6_gift_6 (lv_at hl 3 rfl) ?_
  refine lv_bipush (v := 12) K.1 K.2.1 dX6_gift_8 (by decide) ?_
  refine lv_icmp_ge (tgt := 51) K.1 K.2.1 dX6_gift_10 (by decide) (fun h1 => ?_) (fun h1 => ?_)
  · rw [if_pos h1] at hf
    refine lv_iload_n K.1 K.2.1 dX6_gift_51 rfl (lv_at hl 2 rfl) ?_
    have hf := Option.some.inj hf
    subst hf
    exact ah_iret K hG hL (Nat.le_refl _) (Nat.le_refl _) dX6_gift_52
  · rw [if_neg h1] at hf
    refine lv_iload_n K.1 K.2.1 dX6_gift_13 rfl (lv_at hl 1 rfl) ?_
    refine lv_iload K.1 K.2.1 dX6_gift_14 (lv_at hl 3 rfl) ?_
    obtain ⟨v2, ev2, hf⟩ := Option.bind_eq_some_iff.mp hf
    refine ah_callSN (As := [.int x2, .int x4]) (rest := []) K hG hL hl.1 (ctX10_has l H0 D ca M z x2 x4 v2 ev2) hdX10_has (host := "ShipsThatMeet") (by simp [ah_nM]) q_370 q_50 q_371 ⟨Nat.le_of_ble_eq_true rfl, Nat.le_of_ble_eq_true rfl⟩ rfl rfl (Nat.le_of_ble_eq_true rfl) ⟨Nat.le_refl _, Nat.le_refl _⟩ dX6_gift_16 (fun H locs hG hL => ?_)
    refine lv_if_eq (tgt := 45) K.1 K.2.1 dX6_gift_19 (by decide) (fun h3 => ?_) (fun h3 => ?_)
    · rw [if_pos h3] at hf
      exact wX6_gift_45 K k6 hk6 a1 x2 x3 x4 _ _ _ hG hL (lv_sub hl [0, 1, 2, 3] rfl) _ hf
    · rw [if_neg h3] at hf
      refine lv_iload_n K.1 K.2.1 dX6_gift_22 rfl (lv_at hl 2 rfl) ?_
      refine lv_if_lt (tgt := 42) K.1 K.2.1 dX6_gift_23 (by decide) (fun h4 => ?_) (fun h4 => ?_)
      · rw [if_pos h4] at hf
        exact wX6_gift_42 K k6 hk6 a1 x2 x4 _ _ _ hG hL (lv_sub hl [0, 1, 3] rfl) _ hf
      · rw [if_neg h4] at hf
        refine lv_aload_n K.1 K.2.1 dX6_gift_26 rfl (lv_at hl 0 rfl) ?_
        obtain ⟨v5, ev5, hf⟩ := Option.bind_eq_some_iff.mp hf
        refine ah_getr K hG ev5 ffX6_13_2 dX6_gift_27 ?_
        refine lv_iload K.1 K.2.1 dX6_gift_30 (lv_at hl 3 rfl) ?_
        obtain ⟨v6, ev6, hf⟩ := Option.bind_eq_some_iff.mp hf
        refine ah_iald K hG ev6 dX6_gift_32 ?_
        refine lv_aload_n K.1 K.2.1 dX6_gift_33 rfl (lv_at hl 0 rfl) ?_
        obtain ⟨v7, ev7, hf⟩ := Option.bind_eq_some_iff.mp hf
        refine ah_getr K hG ev7 ffX6_13_2 dX6_gift_34 ?_
        refine lv_iload_n K.1 K.2.1 dX6_gift_37 rfl (lv_at hl 2 rfl) ?_
        obtain ⟨v8, ev8, hf⟩ := Option.bind_eq_some_iff.mp hf
        refine ah_iald K hG ev8 dX6_gift_38 ?_
        refine lv_icmp_ge (tgt := 45) K.1 K.2.1 dX6_gift_39 (by decide) (fun h9 => ?_) (fun h9 => ?_)
        · rw [if_pos h9] at hf
          exact wX6_gift_45 K k6 hk6 a1 x2 x3 x4 _ _ _ hG hL (lv_sub hl [0, 1, 2, 3] rfl) _ hf
        · rw [if_neg h9] at hf
          exact wX6_gift_42 K k6 hk6 a1 x2 x4 _ _ _ hG hL (lv_sub hl [0, 1, 3] rfl) _ hf
theorem wX6_gift_6 {p : Program} {l : Launch} {e : Env} {s : State} {m : MethodId} {args : Array Value} {below : List Frame} {meth : Method} {c : Code} {D : va_G} {ca : Nat → ClassId} {H0 : Heap} {M : ah_h} {z : Nat} (K : ah_K p s m args meth c D ca "ShipsThatMeet$Old" cX6_gift 5 (some .int))   (n : Nat) : ∀ (a1 : Nat) (x2 : Int32) (x3 : Int32) (x4 : Int32)  (H : Heap) (locs : List Loc) (ls : Array Slot), ah_g H0 D ca M z H → ah_L H0 locs → lv_has ls 5 [(1, .ref a1), (2, .int x2), (3, .int x3), (4, .int x4)] → ∀ Z, fX6_gift_6   M n a1 x2 x3 x4 = some Z → W p l e { frames := 1, cells := 0, slots := 0, locals := 21 } s m args below meth c H locs 0 0 (ah_Q below args s H0 D ca 0 0 (some (.int Z)) M z) (F0 m 6 ls []) := by
  induction n with
  | zero => intro a1 x2 x3 x4 H locs ls hG hL hl Z hf; cases hf
  | succ n ih => exact wX6_gift_6_b K  _ ih
def fX6_gift (M : ah_h) (a0 : Nat) (x1 : Nat) (x2 : Int32) : Option (Int32) := fX6_gift_6 M ah_fu x1 x2 (-4) 0
set_option maxRecDepth 100000 in
set_option maxHeartbeats 4000000 in
theorem ctX6_gift (l : Launch) (H0 : Heap) (D : va_G) (ca : Nat → ClassId) (M : ah_h) (z : Nat) (a0 : Nat) (x1 : Nat) (x2 : Int32) (Z : Int32) (hf : fX6_gift M a0 x1 x2 = some Z) : ah_ct l H0 D ca yX6_gift cX6_gift 5 (some .int) 1 21 0 0 [.ref a0, .ref x1, .int x2] M z (some (.int Z)) M z := by
  refine ah_of (by decide) (Nat.le_of_ble_eq_true rfl) ?_
  intro p e s m below meth c ls hin K hG hl
  have hL : ah_L H0 [] := ah_L.nil
  have hl : lv_has ls 5 [(0, .ref a0), (1, .ref x1), (2, .int x2)] := hl
  unfold fX6_gift at hf
  refine lv_bipush (v := (-4)) K.1 K.2.1 dX6_gift_0 (by decide) ?_
  refine lv_istore_n (lv' := [(3, .int (-4)), (0, .ref a0), (1, .ref x1), (2, .int x2)]) K.1 K.2.1 dX6_gift_2 rfl hl (by decide) rfl (fun ls hl => ?_)
  refine lv_iconst (v := 0) K.1 K.2.1 dX6_gift_3 (by decide) ?_
  refine lv_istore (lv' := [(4, .int 0), (3, .int (-4)), (0, .ref a0), (1, .ref x1), (2, .int x2)]) K.1 K.2.1 dX6_gift_4 hl (by decide) rfl (fun ls hl => ?_)
  exact wX6_gift_6 K  ah_fu x1 x2 (-4) 0 _ _ _ hG hL (lv_sub hl [3, 4, 1, 0] rfl) _ hf
def fX8_gift (M : ah_h) (a0 : Nat) (x1 : Nat) (x2 : Int32) : Option (Int32) := (ah_gc M a0 1).bind fun v1 => (fX10_has M x2 v1).bind fun v2 => if v2 = 0 then ((ah_oc M a0).bind fun q5 => (fX1_gift M a0 x1 x2).bind fun v4 => some v4) else ((ah_gc M a0 1).bind fun v6 => some v6)
set_option maxRecDepth 100000 in
set_option maxHeartbeats 4000000 in
theorem ctX8_gift (l : Launch) (H0 : Heap) (D : va_G) (ca : Nat → ClassId) (M : ah_h) (z : Nat) (a0 : Nat) (x1 : Nat) (x2 : Int32) (Z : Int32) (hf : fX8_gift M a0 x1 x2 = some Z) : ah_ct l H0 D ca yX8_gift cX8_gift 3 (some .int) 2 44 0 0 [.ref a0, .ref x1, .int x2] M z (some (.int Z)) M z := by
  refine ah_of (by decide) (Nat.le_of_ble_eq_true rfl) ?_
  intro p e s m below meth c ls hin K hG hl
  have hL : ah_L H0 [] := ah_L.nil
  have hl : lv_has ls 3 [(0, .ref a0), (1, .ref x1), (2, .int x2)] := hl
  unfold fX8_gift at hf
  refine lv_iload_n K.1 K.2.1 dX8_gift_0 rfl (lv_at hl 2 rfl) ?_
  refine lv_aload_n K.1 K.2.1 dX8_gift_1 rfl (lv_at hl 0 rfl) ?_
  obtain ⟨v1, ev1, hf⟩ := Option.bind_eq_some_iff.mp hf
  refine ah_getc K hG ev1 ffX8_7_c dX8_gift_2 ?_
  obtain ⟨v2, ev2, hf⟩ := Option.bind_eq_some_iff.mp hf
  refine ah_callSN (As := [.int x2, .int v1]) (rest := []) K hG hL hl.1 (ctX10_has l H0 D ca M z x2 v1 v2 ev2) hdX10_has (host := "ShipsThatMeet") (by simp [ah_nM]) q_370 q_50 q_371 ⟨Nat.le_of_ble_eq_true rfl, Nat.le_of_ble_eq_true rfl⟩ rfl rfl (Nat.le_of_ble_eq_true rfl) ⟨Nat.le_refl _, Nat.le_refl _⟩ dX8_gift_5 (fun H locs hG hL => ?_)
  refine lv_if_eq (tgt := 18) K.1 K.2.1 dX8_gift_8 (by decide) (fun h3 => ?_) (fun h3 => ?_)
  · rw [if_pos h3] at hf
    refine lv_aload_n K.1 K.2.1 dX8_gift_18 rfl (lv_at hl 0 rfl) ?_
    refine lv_aload_n K.1 K.2.1 dX8_gift_19 rfl (lv_at hl 1 rfl) ?_
    refine lv_iload_n K.1 K.2.1 dX8_gift_20 rfl (lv_at hl 2 rfl) ?_
    obtain ⟨q5, eq5, hf⟩ := Option.bind_eq_some_iff.mp hf
    obtain ⟨v4, ev4, hf⟩ := Option.bind_eq_some_iff.mp hf
    refine ah_callUC (n := 2) (As := [.ref x1, .int x2]) (rest := []) K hG hL hl.1 eq5 (ctX1_gift l H0 D ca M z a0 x1 x2 v4 ev4) (by decide +kernel) q_404 q_357 q_52 q_410 q_359 q_312 ⟨Nat.le_of_ble_eq_true rfl, Nat.le_of_ble_eq_true rfl⟩ rfl rfl (Nat.le_of_ble_eq_true rfl) ⟨Nat.le_refl _, Nat.le_refl _⟩ dX8_gift_21 (fun H locs hG hL => ?_)
    have hf := Option.some.inj hf
    subst hf
    exact ah_iret K hG hL (Nat.le_refl _) (Nat.le_refl _) dX8_gift_24
  · rw [if_neg h3] at hf
    refine lv_aload_n K.1 K.2.1 dX8_gift_11 rfl (lv_at hl 0 rfl) ?_
    obtain ⟨v6, ev6, hf⟩ := Option.bind_eq_some_iff.mp hf
    refine ah_getc K hG ev6 ffX8_7_c dX8_gift_12 ?_
    refine lv_goto (tgt := 24) K.1 K.2.1 dX8_gift_15 (by decide) ?_
    have hf := Option.some.inj hf
    subst hf
    exact ah_iret K hG hL (Nat.le_refl _) (Nat.le_refl _) dX8_gift_24
def fX9_unwanted_44  (k5 : Nat → Nat → Int32 → Int32 → Int32 → Option (Int32)) (M : ah_h) (a0 : Nat) (a1 : Nat) (x2 : Int32) (x3 : Int32) (x4 : Int32) : Option (Int32) := k5 a0 a1 x2 x3 (x4 + 1)
set_option maxRecDepth 100000 in
set_option maxHeartbeats 4000000 in
theorem wX9_unwanted_44 {p : Program} {l : Launch} {e : Env} {s : State} {m : MethodId} {args : Array Value} {below : List Frame} {meth : Method} {c : Code} {D : va_G} {ca : Nat → ClassId} {H0 : Heap} {M : ah_h} {z : Nat} (K : ah_K p s m args meth c D ca "ShipsThatMeet$Want" cX9_unwanted 5 (some .int))  (k5 : Nat → Nat → Int32 → Int32 → Int32 → Option (Int32)) (hk5 : ∀ (a0 : Nat) (a1 : Nat) (x2 : Int32) (x3 : Int32) (x4 : Int32)  (H : Heap) (locs : List Loc) (ls : Array Slot), ah_g H0 D ca M z H → ah_L H0 locs → lv_has ls 5 [(0, .ref a0), (1, .ref a1), (2, .int x2), (3, .int x3), (4, .int x4)] → ∀ Z, k5 a0 a1 x2 x3 x4 = some Z → W p l e { frames := 1, cells := 0, slots := 0, locals := 21 } s m args below meth c H locs 0 0 (ah_Q below args s H0 D ca 0 0 (some (.int Z)) M z) (F0 m 5 ls [])) : ∀ (a0 : Nat) (a1 : Nat) (x2 : Int32) (x3 : Int32) (x4 : Int32)  (H : Heap) (locs : List Loc) (ls : Array Slot), ah_g H0 D ca M z H → ah_L H0 locs → lv_has ls 5 [(0, .ref a0), (1, .ref a1), (2, .int x2), (3, .int x3), (4, .int x4)] → ∀ Z, fX9_unwanted_44  k5 M a0 a1 x2 x3 x4 = some Z → W p l e { frames := 1, cells := 0, slots := 0, locals := 21 } s m args below meth c H locs 0 0 (ah_Q below args s H0 D ca 0 0 (some (.int Z)) M z) (F0 m 44 ls []) := by
  intro a0 a1 x2 x3 x4 H locs ls hG hL hl Z hf
  unfold fX9_unwanted_44 at hf
  refine lv_iinc (v := x4 + 1) (lv' := [(4, .int (x4 + 1)), (0, .ref a0), (1, .ref a1), (2, .int x2), (3, .int x3)]) K.1 K.2.1 dX9_unwanted_44 hl (k := 4) rfl rfl (by decide) rfl (fun ls hl => ?_)
  refine lv_goto (tgt := 5) K.1 K.2.1 dX9_unwanted_47 (by decide) ?_
  exact hk5 a0 a1 x2 x3 (x4 + 1) _ _ _ hG hL (lv_sub hl [1, 2, 3, 4, 0] rfl) _ hf
def fX9_unwanted_5_b   (k5 : Nat → Nat → Int32 → Int32 → Int32 → Option (Int32)) (M : ah_h) (a0 : Nat) (a1 : Nat) (x2 : Int32) (x3 : Int32) (x4 : Int32) : Option (Int32) := if 12 ≤ x4 then (if x3 = 0 then (some x2) else (some x3)) else ((fX10_has M x2 x4).bind fun v3 => if v3 = 0 then (fX9_unwanted_44 k5 M a0 a1 x2 x3 x4) else ((ah_gr M a1 2 6).bind fun v5 => (ah_ai M v5 x4).bind fun v6 => (ah_gc M a0 1).bind fun v7 => if v6 = (v7 - v7 / 4 * 4) then (fX9_unwanted_44 k5 M a0 a1 x2 x3 x4) else (fX9_unwanted_44 k5 M a0 a1 x2 (x3 ||| ((1 : Int32) <<< (x4 &&& 31))) x4)))
def fX9_unwanted_5   (M : ah_h) : Nat → Nat → Nat → Int32 → Int32 → Int32 → Option (Int32)
  | 0 => fun _ _ _ _ _ => none
  | n + 1 => fun a0 a1 x2 x3 x4 => fX9_unwanted_5_b   (fX9_unwanted_5   M n) M a0 a1 x2 x3 x4
set_option maxRecDepth 100000 in
set_option maxHeartbeats 4000000 in
theorem wX9_unwanted_5_b {p : Program} {l : Launch} {e : Env} {s : State} {m : MethodId} {args : Array Value} {below : List Frame} {meth : Method} {c : Code} {D : va_G} {ca : Nat → ClassId} {H0 : Heap} {M : ah_h} {z : Nat} (K : ah_K p s m args meth c D ca "ShipsThatMeet$Want" cX9_unwanted 5 (some .int))   (k5 : Nat → Nat → Int32 → Int32 → Int32 → Option (Int32)) (hk5 : ∀ (a0 : Nat) (a1 : Nat) (x2 : Int32) (x3 : Int32) (x4 : Int32)  (H : Heap) (locs : List Loc) (ls : Array Slot), ah_g H0 D ca M z H → ah_L H0 locs → lv_has ls 5 [(0, .ref a0), (1, .ref a1), (2, .int x2), (3, .int x3), (4, .int x4)] → ∀ Z, k5 a0 a1 x2 x3 x4 = some Z → W p l e { frames := 1, cells := 0, slots := 0, locals := 21 } s m args below meth c H locs 0 0 (ah_Q below args s H0 D ca 0 0 (some (.int Z)) M z) (F0 m 5 ls [])) : ∀ (a0 : Nat) (a1 : Nat) (x2 : Int32) (x3 : Int32) (x4 : Int32)  (H : Heap) (locs : List Loc) (ls : Array Slot), ah_g H0 D ca M z H → ah_L H0 locs → lv_has ls 5 [(0, .ref a0), (1, .ref a1), (2, .int x2), (3, .int x3), (4, .int x4)] → ∀ Z, fX9_unwanted_5_b   k5 M a0 a1 x2 x3 x4 = some Z → W p l e { frames := 1, cells := 0, slots := 0, locals := 21 } s m args below meth c H locs 0 0 (ah_Q below args s H0 D ca 0 0 (some (.int Z)) M z) (F0 m 5 ls []) := by
  intro a0 a1 x2 x3 x4 H locs ls hG hL hl Z hf
  unfold fX9_unwanted_5_b at hf
  refine lv_iload K.1 K.2.1 dX9_unwanted_5 (lv_at hl 4 rfl) ?_
  refine lv_bipush (v := 12) K.1 K.2.1 dX9_unwanted_7 (by decide) ?_
  refine lv_icmp_ge (tgt := 50) K.1 K.2.1 dX9_unwanted_9 (by decide) (fun h1 => ?_) (fun h1 => ?_)
  · rw [if_pos h1] at hf
    refine lv_iload_n K.1 K.2.1 dX9_unwanted_50 rfl (lv_at hl 3 rfl) ?_
    refine lv_if_ne (tgt := 58) K.1 K.2.1 dX9_unwanted_51 (by decide) (fun h2 => ?_) (fun h2 => ?_)
    · rw [if_neg h2] at hf
      refine lv_iload_n K.1 K.2.1 dX9_unwanted_58 rfl (lv_at hl 3 rfl) ?_
      have hf := Option.some.inj hf
      subst hf
      exact ah_iret K hG hL (Nat.le_refl _) (Nat.le_refl _) dX9_unwanted_59
    · rw [if_pos h2] at hf
      refine lv_iload_n K.1 K.2.1 dX9_unwanted_54 rfl (lv_at hl 2 rfl) ?_
      refine lv_goto (tgt := 59) K.1 K.2.1 dX9_unwanted_55 (by decide) ?_
      have hf := Option.some.inj hf
      subst hf
      exact ah_iret K hG hL (Nat.le_refl _) (Nat.le_refl _) dX9_unwanted_59
  · rw [if_neg h1] at hf
    refine lv_iload_n K.1 K.2.1 dX9_unwanted_12 rfl (lv_at hl 2 rfl) ?_
    refine lv_iload K.1 K.2.1 dX9_unwanted_13 (lv_at hl 4 rfl) ?_
    obtain ⟨v3, ev3, hf⟩ := Option.bind_eq_some_iff.mp hf
    refine ah_callSN (As := [.int x2, .int x4]) (rest := []) K hG hL hl.1 (ctX10_has l H0 D ca M z x2 x4 v3 ev3) hdX10_has (host := "ShipsThatMeet") (by simp [ah_nM]) q_370 q_50 q_371 ⟨Nat.le_of_ble_eq_true rfl, Nat.le_of_ble_eq_true rfl⟩ rfl rfl (Nat.le_of_ble_eq_true rfl) ⟨Nat.le_refl _, Nat.le_refl _⟩ dX9_unwanted_15 (fun H locs hG hL => ?_)
    refine lv_if_eq (tgt := 44) K.1 K.2.1 dX9_unwanted_18 (by decide) (fun h4 => ?_) (fun h4 => ?_)
    · rw [if_pos h4] at hf
      exact wX9_unwanted_44 K k5 hk5 a0 a1 x2 x3 x4 _ _ _ hG hL (lv_sub hl [0, 1, 2, 3, 4] rfl) _ hf
    · rw [if_neg h4] at hf
      refine lv_aload_n K.1 K.2.1 dX9_unwanted_21 rfl (lv_at hl 1 rfl) ?_
      obtain ⟨v5, ev5, hf⟩ := Option.bind_eq_some_iff.mp hf
      refine ah_getr K hG ev5 ffX9_13_2 dX9_unwanted_22 ?_
      refine lv_iload K.1 K.2.1 dX9_unwanted_25 (lv_at hl 4 rfl) ?_
      obtain ⟨v6, ev6, hf⟩ := Option.bind_eq_some_iff.mp hf
      refine ah_iald K hG ev6 dX9_unwanted_27 ?_
      refine lv_aload_n K.1 K.2.1 dX9_unwanted_28 rfl (lv_at hl 0 rfl) ?_
      obtain ⟨v7, ev7, hf⟩ := Option.bind_eq_some_iff.mp hf
      refine ah_getc K hG ev7 ffX9_19_c dX9_unwanted_29 ?_
      refine lv_iconst (v := 4) K.1 K.2.1 dX9_unwanted_32 (by decide) ?_
      refine lv_irem K.1 K.2.1 dX9_unwanted_33 (by decide) ?_
      refine lv_icmp_eq (tgt := 44) K.1 K.2.1 dX9_unwanted_34 (by decide) (fun h9 => ?_) (fun h9 => ?_)
      · rw [if_pos h9] at hf
        exact wX9_unwanted_44 K k5 hk5 a0 a1 x2 x3 x4 _ _ _ hG hL (lv_sub hl [0, 1, 2, 3, 4] rfl) _ hf
      · rw [if_neg h9] at hf
        refine lv_iload_n K.1 K.2.1 dX9_unwanted_37 rfl (lv_at hl 3 rfl) ?_
        refine lv_iconst (v := 1) K.1 K.2.1 dX9_unwanted_38 (by decide) ?_
        refine lv_iload K.1 K.2.1 dX9_unwanted_39 (lv_at hl 4 rfl) ?_
        refine lv_ishl K.1 K.2.1 dX9_unwanted_41 ?_
        refine lv_ior K.1 K.2.1 dX9_unwanted_42 ?_
        refine lv_istore_n (lv' := [(3, .int (x3 ||| ((1 : Int32) <<< (x4 &&& 31)))), (0, .ref a0), (1, .ref a1), (2, .int x2), (4, .int x4)]) K.1 K.2.1 dX9_unwanted_43 rfl hl (by decide) rfl (fun ls hl => ?_)
        exact wX9_unwanted_44 K k5 hk5 a0 a1 x2 (x3 ||| ((1 : Int32) <<< (x4 &&& 31))) x4 _ _ _ hG hL (lv_sub hl [1, 2, 3, 0, 4] rfl) _ hf
theorem wX9_unwanted_5 {p : Program} {l : Launch} {e : Env} {s : State} {m : MethodId} {args : Array Value} {below : List Frame} {meth : Method} {c : Code} {D : va_G} {ca : Nat → ClassId} {H0 : Heap} {M : ah_h} {z : Nat} (K : ah_K p s m args meth c D ca "ShipsThatMeet$Want" cX9_unwanted 5 (some .int))   (n : Nat) : ∀ (a0 : Nat) (a1 : Nat) (x2 : Int32) (x3 : Int32) (x4 : Int32)  (H : Heap) (locs : List Loc) (ls : Array Slot), ah_g H0 D ca M z H → ah_L H0 locs → lv_has ls 5 [(0, .ref a0), (1, .ref a1), (2, .int x2), (3, .int x3), (4, .int x4)] → ∀ Z, fX9_unwanted_5   M n a0 a1 x2 x3 x4 = some Z → W p l e { frames := 1, cells := 0, slots := 0, locals := 21 } s m args below meth c H locs 0 0 (ah_Q below args s H0 D ca 0 0 (some (.int Z)) M z) (F0 m 5 ls []) := by
  induction n with
  | zero => intro a0 a1 x2 x3 x4 H locs ls hG hL hl Z hf; cases hf
  | succ n ih => exact wX9_unwanted_5_b K  _ ih
def fX9_unwanted (M : ah_h) (a0 : Nat) (x1 : Nat) (x2 : Int32) : Option (Int32) := fX9_unwanted_5 M ah_fu a0 x1 x2 0 0
set_option maxRecDepth 100000 in
set_option maxHeartbeats 4000000 in
theorem ctX9_unwanted (l : Launch) (H0 : Heap) (D : va_G) (ca : Nat → ClassId) (M : ah_h) (z : Nat) (a0 : Nat) (x1 : Nat) (x2 : Int32) (Z : Int32) (hf : fX9_unwanted M a0 x1 x2 = some Z) : ah_ct l H0 D ca yX9_unwanted cX9_unwanted 5 (some .int) 1 21 0 0 [.ref a0, .ref x1, .int x2] M z (some (.int Z)) M z := by
  refine ah_of (by decide) (Nat.le_of_ble_eq_true rfl) ?_
  intro p e s m below meth c ls hin K hG hl
  have hL : ah_L H0 [] := ah_L.nil
  have hl : lv_has ls 5 [(0, .ref a0), (1, .ref x1), (2, .int x2)] := hl
  unfold fX9_unwanted at hf
  refine lv_iconst (v := 0) K.1 K.2.1 dX9_unwanted_0 (by decide) ?_
  refine lv_istore_n (lv' := [(3, .int 0), (0, .ref a0), (1, .ref x1), (2, .int x2)]) K.1 K.2.1 dX9_unwanted_1 rfl hl (by decide) rfl (fun ls hl => ?_)
  refine lv_iconst (v := 0) K.1 K.2.1 dX9_unwanted_2 (by decide) ?_
  refine lv_istore (lv' := [(4, .int 0), (3, .int 0), (0, .ref a0), (1, .ref x1), (2, .int x2)]) K.1 K.2.1 dX9_unwanted_3 hl (by decide) rfl (fun ls hl => ?_)
  exact wX9_unwanted_5 K  ah_fu a0 x1 x2 0 0 _ _ _ hG hL (lv_sub hl [2, 3, 4, 1, 0] rfl) _ hf
def fX9_gift (M : ah_h) (a0 : Nat) (x1 : Nat) (x2 : Int32) : Option (Int32) := (ah_ob M a0 9).bind fun q2 => (fX9_unwanted M a0 x1 x2).bind fun v1 => (ah_oc M a0).bind fun q4 => (fX1_gift M a0 x1 v1).bind fun v3 => some v3
set_option maxRecDepth 100000 in
set_option maxHeartbeats 4000000 in
theorem ctX9_gift (l : Launch) (H0 : Heap) (D : va_G) (ca : Nat → ClassId) (M : ah_h) (z : Nat) (a0 : Nat) (x1 : Nat) (x2 : Int32) (Z : Int32) (hf : fX9_gift M a0 x1 x2 = some Z) : ah_ct l H0 D ca yX9_gift cX9_gift 3 (some .int) 2 45 0 0 [.ref a0, .ref x1, .int x2] M z (some (.int Z)) M z := by
  refine ah_of (by decide) (Nat.le_of_ble_eq_true rfl) ?_
  intro p e s m below meth c ls hin K hG hl
  have hL : ah_L H0 [] := ah_L.nil
  have hl : lv_has ls 3 [(0, .ref a0), (1, .ref x1), (2, .int x2)] := hl
  unfold fX9_gift at hf
  refine lv_aload_n K.1 K.2.1 dX9_gift_0 rfl (lv_at hl 0 rfl) ?_
  refine lv_aload_n K.1 K.2.1 dX9_gift_1 rfl (lv_at hl 1 rfl) ?_
  refine lv_aload_n K.1 K.2.1 dX9_gift_2 rfl (lv_at hl 0 rfl) ?_
  refine lv_aload_n K.1 K.2.1 dX9_gift_3 rfl (lv_at hl 1 rfl) ?_
  refine lv_iload_n K.1 K.2.1 dX9_gift_4 rfl (lv_at hl 2 rfl) ?_
  obtain ⟨q2, eq2, hf⟩ := Option.bind_eq_some_iff.mp hf
  obtain ⟨v1, ev1, hf⟩ := Option.bind_eq_some_iff.mp hf
  refine ah_callV (As := [.ref x1, .int x2]) (rest := [.ref x1, .ref a0]) K hG hL hl.1 (ah_ob_some eq2) rfl (ctX9_unwanted l H0 D ca M z a0 x1 x2 v1 ev1) hdX9_unwanted q_408 q_367 q_58 q_368 q_1275 ⟨Nat.le_of_ble_eq_true rfl, Nat.le_of_ble_eq_true rfl⟩ rfl rfl (Nat.le_of_ble_eq_true rfl) ⟨Nat.le_refl _, Nat.le_refl _⟩ dX9_gift_5 (fun H locs hG hL => ?_)
  obtain ⟨q4, eq4, hf⟩ := Option.bind_eq_some_iff.mp hf
  obtain ⟨v3, ev3, hf⟩ := Option.bind_eq_some_iff.mp hf
  refine ah_callUC (n := 2) (As := [.ref x1, .int v1]) (rest := []) K hG hL hl.1 eq4 (ctX1_gift l H0 D ca M z a0 x1 v1 v3 ev3) (by decide +kernel) q_409 q_357 q_52 q_410 q_359 q_294 ⟨Nat.le_of_ble_eq_true rfl, Nat.le_of_ble_eq_true rfl⟩ rfl rfl (Nat.le_of_ble_eq_true rfl) ⟨Nat.le_refl _, Nat.le_refl _⟩ dX9_gift_8 (fun H locs hG hL => ?_)
  have hf := Option.some.inj hf
  subst hf
  exact ah_iret K hG hL (Nat.le_refl _) (Nat.le_refl _) dX9_gift_11
def fX10_commands (M : ah_h) (a0 : Nat) (x1 : Int32) (x2 : Int32) : Option (Int32 × ah_h) := (ah_ob M a0 10).bind fun _ => (ah_gr M a0 10 0).bind fun v1 => (fX2_isShip M v1 x2).bind fun v2 => if v2 = 0 then (some ((-1), M)) else ((fX10_refusalOfCaptain M a0 x1).bind fun v5 => if 0 ≤ v5 then ((ah_gr M a0 10 0).bind fun v8 => (ah_gr M v8 2 3).bind fun v9 => (ah_gr M a0 10 4).bind fun v10 => (ah_ar M v10 3 x1).bind fun v11 => (ah_gq M v11 7 0).bind fun v12 => v12.bind fun c14 => (ah_oc M c14).bind fun y15 => (ah_sr M v9 2 x2 c14).bind fun M13 => some (0, M13)) else (some (v5, M)))
set_option maxRecDepth 100000 in
set_option maxHeartbeats 4000000 in
theorem ctX10_commands (l : Launch) (H0 : Heap) (D : va_G) (ca : Nat → ClassId) (M : ah_h) (z : Nat) (a0 : Nat) (x1 : Int32) (x2 : Int32) (Z : Int32 × ah_h) (hf : fX10_commands M a0 x1 x2 = some Z) : ah_ct l H0 D ca yX10_commands cX10_commands 4 (some .int) 2 41 0 0 [.ref a0, .int x1, .int x2] M z (some (.int Z.1)) Z.2 z := by
  refine ah_of (by decide) (Nat.le_of_ble_eq_true rfl) ?_
  intro p e s m below meth c ls hin K hG hl
  have hL : ah_L H0 [] := ah_L.nil
  have hl : lv_has ls 4 [(0, .ref a0), (1, .int x1), (2, .int x2)] := hl
  unfold fX10_commands at hf
  obtain ⟨-, -, hf⟩ := Option.bind_eq_some_iff.mp hf
  refine lv_aload_n K.1 K.2.1 dX10_commands_0 rfl (lv_at hl 0 rfl) ?_
  obtain ⟨v1, ev1, hf⟩ := Option.bind_eq_some_iff.mp hf
  refine ah_getr K hG ev1 ffX10_10_10 dX10_commands_1 ?_
  refine lv_iload_n K.1 K.2.1 dX10_commands_4 rfl (lv_at hl 2 rfl) ?_
  obtain ⟨v2, ev2, hf⟩ := Option.bind_eq_some_iff.mp hf
  obtain ⟨q3, eq3⟩ := ah_this ev2
  refine ah_callV (As := [.int x2]) (rest := []) K hG hL hl.1 eq3 rfl (ctX2_isShip l H0 D ca M z v1 x2 v2 ev2) hdX2_isShip q_428 q_333 q_51 q_335 q_334 ⟨Nat.le_of_ble_eq_true rfl, Nat.le_of_ble_eq_true rfl⟩ rfl rfl (Nat.le_of_ble_eq_true rfl) ⟨Nat.le_refl _, Nat.le_refl _⟩ dX10_commands_5 (fun H locs hG hL => ?_)
  refine lv_if_ne (tgt := 13) K.1 K.2.1 dX10_commands_8 (by decide) (fun h4 => ?_) (fun h4 => ?_)
  · rw [if_neg h4] at hf
    refine lv_aload_n K.1 K.2.1 dX10_commands_13 rfl (lv_at hl 0 rfl) ?_
    refine lv_iload_n K.1 K.2.1 dX10_commands_14 rfl (lv_at hl 1 rfl) ?_
    obtain ⟨v5, ev5, hf⟩ := Option.bind_eq_some_iff.mp hf
    obtain ⟨q6, eq6⟩ := ah_this ev5
    refine ah_callV (As := [.int x1]) (rest := []) K hG hL hl.1 eq6 rfl (ctX10_refusalOfCaptain l H0 D ca M z a0 x1 v5 ev5) hdX10_refusalOfCaptain q_440 q_442 q_50 q_443 q_2 ⟨Nat.le_of_ble_eq_true rfl, Nat.le_of_ble_eq_true rfl⟩ rfl rfl (Nat.le_of_ble_eq_true rfl) ⟨Nat.le_refl _, Nat.le_refl _⟩ dX10_commands_15 (fun H locs hG hL => ?_)
    refine lv_istore_n (lv' := [(3, .int v5), (0, .ref a0), (1, .int x1), (2, .int x2)]) K.1 K.2.1 dX10_commands_18 rfl hl (by decide) rfl (fun ls hl => ?_)
    refine lv_iload_n K.1 K.2.1 dX10_commands_19 rfl (lv_at hl 0 rfl) ?_
    refine lv_if_ge (tgt := 25) K.1 K.2.1 dX10_commands_20 (by decide) (fun h7 => ?_) (fun h7 => ?_)
    · rw [if_pos h7] at hf
      refine lv_aload_n K.1 K.2.1 dX10_commands_25 rfl (lv_at hl 1 rfl) ?_
      obtain ⟨v8, ev8, hf⟩ := Option.bind_eq_some_iff.mp hf
      refine ah_getr K hG ev8 ffX10_10_10 dX10_commands_26 ?_
      obtain ⟨v9, ev9, hf⟩ := Option.bind_eq_some_iff.mp hf
      refine ah_getr K hG ev9 ffX10_76_2 dX10_commands_29 ?_
      refine lv_iload_n K.1 K.2.1 dX10_commands_32 rfl (lv_at hl 3 rfl) ?_
      refine lv_aload_n K.1 K.2.1 dX10_commands_33 rfl (lv_at hl 1 rfl) ?_
      obtain ⟨v10, ev10, hf⟩ := Option.bind_eq_some_iff.mp hf
      refine ah_getr K hG ev10 ffX10_28_10 dX10_commands_34 ?_
      refine lv_iload_n K.1 K.2.1 dX10_commands_37 rfl (lv_at hl 2 rfl) ?_
      obtain ⟨v11, ev11, hf⟩ := Option.bind_eq_some_iff.mp hf
      refine ah_aald (t := 3) K hG ev11 rfl rfl dX10_commands_38 ?_
      obtain ⟨v12, ev12, hf⟩ := Option.bind_eq_some_iff.mp hf
      refine ah_getq K hG ev12 ffX10_117_7 dX10_commands_39 ?_
      obtain ⟨c14, ec14, hf⟩ := Option.bind_eq_some_iff.mp hf
      rw [ec14]
      rw [show va_rf (some c14) = .ref c14 from rfl]
      obtain ⟨y15, ey15, hf⟩ := Option.bind_eq_some_iff.mp hf
      obtain ⟨M13, eM13, hf⟩ := Option.bind_eq_some_iff.mp hf
      refine ah_aast (t := 2) K hG hL eM13 rfl (ah_anyC K hG ey15) dX10_commands_42 (fun H locs hG hL => ?_)
      refine lv_iconst (v := 0) K.1 K.2.1 dX10_commands_43 (by decide) ?_
      have hf := Option.some.inj hf
      subst hf
      exact ah_iret K hG hL (Nat.le_refl _) (Nat.le_refl _) dX10_commands_44
    · rw [if_neg h7] at hf
      refine lv_iload_n K.1 K.2.1 dX10_commands_23 rfl (lv_at hl 0 rfl) ?_
      have hf := Option.some.inj hf
      subst hf
      exact ah_iret K hG hL (Nat.le_refl _) (Nat.le_refl _) dX10_commands_24
  · rw [if_pos h4] at hf
    refine lv_iconst (v := (-1)) K.1 K.2.1 dX10_commands_11 (by decide) ?_
    have hf := Option.some.inj hf
    subst hf
    exact ah_iret K hG hL (Nat.le_refl _) (Nat.le_refl _) dX10_commands_12
def fX10_never_49  (k4 : Nat → Int32 → Int32 → Option (Int32)) (k19 : Nat → Int32 → Int32 → Int32 → Option (Int32)) (M : ah_h) (a0 : Nat) (x1 : Int32) (x2 : Int32) (x3 : Int32) : Option (Int32) := k19 a0 x1 x2 (x3 + 1)
set_option maxRecDepth 100000 in
set_option maxHeartbeats 4000000 in
theorem wX10_never_49 {p : Program} {l : Launch} {e : Env} {s : State} {m : MethodId} {args : Array Value} {below : List Frame} {meth : Method} {c : Code} {D : va_G} {ca : Nat → ClassId} {H0 : Heap} {M : ah_h} {z : Nat} (K : ah_K p s m args meth c D ca "ShipsThatMeet" cX10_never 4 (some .int))  (k4 : Nat → Int32 → Int32 → Option (Int32)) (hk4 : ∀ (a0 : Nat) (x1 : Int32) (x2 : Int32)  (H : Heap) (locs : List Loc) (ls : Array Slot), ah_g H0 D ca M z H → ah_L H0 locs → lv_has ls 4 [(0, .ref a0), (1, .int x1), (2, .int x2)] → ∀ Z, k4 a0 x1 x2 = some Z → W p l e { frames := 1, cells := 0, slots := 0, locals := 21 } s m args below meth c H locs 0 0 (ah_Q below args s H0 D ca 0 0 (some (.int Z)) M z) (F0 m 4 ls [])) (k19 : Nat → Int32 → Int32 → Int32 → Option (Int32)) (hk19 : ∀ (a0 : Nat) (x1 : Int32) (x2 : Int32) (x3 : Int32)  (H : Heap) (locs : List Loc) (ls : Array Slot), ah_g H0 D ca M z H → ah_L H0 locs → lv_has ls 4 [(0, .ref a0), (1, .int x1), (2, .int x2), (3, .int x3)] → ∀ Z, k19 a0 x1 x2 x3 = some Z → W p l e { frames := 1, cells := 0, slots := 0, locals := 21 } s m args below meth c H locs 0 0 (ah_Q below args s H0 D ca 0 0 (some (.int Z)) M z) (F0 m 19 ls [])) : ∀ (a0 : Nat) (x1 : Int32) (x2 : Int32) (x3 : Int32)  (H : Heap) (locs : List Loc) (ls : Array Slot), ah_g H0 D ca M z H → ah_L H0 locs → lv_has ls 4 [(0, .ref a0), (1, .int x1), (2, .int x2), (3, .int x3)] → ∀ Z, fX10_never_49  k4 k19 M a0 x1 x2 x3 = some Z → W p l e { frames := 1, cells := 0, slots := 0, locals := 21 } s m args below meth c H locs 0 0 (ah_Q below args s H0 D ca 0 0 (some (.int Z)) M z) (F0 m 49 ls []) := by
  intro a0 x1 x2 x3 H locs ls hG hL hl Z hf
  unfold fX10_never_49 at hf
  refine lv_iinc (v := x3 + 1) (lv' := [(3, .int (x3 + 1)), (0, .ref a0), (1, .int x1), (2, .int x2)]) K.1 K.2.1 dX10_never_49 hl (k := 3) rfl rfl (by decide) rfl (fun ls hl => ?_)
  refine lv_goto (tgt := 19) K.1 K.2.1 dX10_never_52 (by decide) ?_
  exact hk19 a0 x1 x2 (x3 + 1) _ _ _ hG hL (lv_sub hl [1, 2, 3, 0] rfl) _ hf
def fX10_never_19_b  (k4 : Nat → Int32 → Int32 → Option (Int32)) (k19 : Nat → Int32 → Int32 → Int32 → Option (Int32)) (M : ah_h) (a0 : Nat) (x1 : Int32) (x2 : Int32) (x3 : Int32) : Option (Int32) := (ah_gr M a0 10 0).bind fun v1 => (ah_gi M v1 2 1).bind fun v2 => if v2 ≤ x3 then (k4 a0 x1 (x2 + 1)) else ((ah_gr M a0 10 0).bind fun v4 => (ah_gr M v4 2 9).bind fun v5 => (ah_ai M v5 x2).bind fun v6 => (fX10_has M v6 x3).bind fun v7 => if v7 = 0 then (fX10_never_49 k4 k19 M a0 (x1 + 1) x2 x3) else (fX10_never_49 k4 k19 M a0 x1 x2 x3))
def fX10_never_19  (k4 : Nat → Int32 → Int32 → Option (Int32)) (M : ah_h) : Nat → Nat → Int32 → Int32 → Int32 → Option (Int32)
  | 0 => fun _ _ _ _ => none
  | n + 1 => fun a0 x1 x2 x3 => fX10_never_19_b  k4 (fX10_never_19  k4 M n) M a0 x1 x2 x3
set_option maxRecDepth 100000 in
set_option maxHeartbeats 4000000 in
theorem wX10_never_19_b {p : Program} {l : Launch} {e : Env} {s : State} {m : MethodId} {args : Array Value} {below : List Frame} {meth : Method} {c : Code} {D : va_G} {ca : Nat → ClassId} {H0 : Heap} {M : ah_h} {z : Nat} (K : ah_K p s m args meth c D ca "ShipsThatMeet" cX10_never 4 (some .int))  (k4 : Nat → Int32 → Int32 → Option (Int32)) (hk4 : ∀ (a0 : Nat) (x1 : Int32) (x2 : Int32)  (H : Heap) (locs : List Loc) (ls : Array Slot), ah_g H0 D ca M z H → ah_L H0 locs → lv_has ls 4 [(0, .ref a0), (1, .int x1), (2, .int x2)] → ∀ Z, k4 a0 x1 x2 = some Z → W p l e { frames := 1, cells := 0, slots := 0, locals := 21 } s m args below meth c H locs 0 0 (ah_Q below args s H0 D ca 0 0 (some (.int Z)) M z) (F0 m 4 ls [])) (k19 : Nat → Int32 → Int32 → Int32 → Option (Int32)) (hk19 : ∀ (a0 : Nat) (x1 : Int32) (x2 : Int32) (x3 : Int32)  (H : Heap) (locs : List Loc) (ls : Array Slot), ah_g H0 D ca M z H → ah_L H0 locs → lv_has ls 4 [(0, .ref a0), (1, .int x1), (2, .int x2), (3, .int x3)] → ∀ Z, k19 a0 x1 x2 x3 = some Z → W p l e { frames := 1, cells := 0, slots := 0, locals := 21 } s m args below meth c H locs 0 0 (ah_Q below args s H0 D ca 0 0 (some (.int Z)) M z) (F0 m 19 ls [])) : ∀ (a0 : Nat) (x1 : Int32) (x2 : Int32) (x3 : Int32)  (H : Heap) (locs : List Loc) (ls : Array Slot), ah_g H0 D ca M z H → ah_L H0 locs → lv_has ls 4 [(0, .ref a0), (1, .int x1), (2, .int x2), (3, .int x3)] → ∀ Z, fX10_never_19_b  k4 k19 M a0 x1 x2 x3 = some Z → W p l e { frames := 1, cells := 0, slots := 0, locals := 21 } s m args below meth c H locs 0 0 (ah_Q below args s H0 D ca 0 0 (some (.int Z)) M z) (F0 m 19 ls []) := by
  intro a0 x1 x2 x3 H locs ls hG hL hl Z hf
  unfold fX10_never_19_b at hf
  refine lv_iload_n K.1 K.2.1 dX10_never_19 rfl (lv_at hl 3 rfl) ?_
  refine lv_aload_n K.1 K.2.1 dX10_never_20 rfl (lv_at hl 0 rfl) ?_
  obtain ⟨v1, ev1, hf⟩ := Option.bind_eq_some_iff.mp hf
  refine ah_getr K hG ev1 ffX10_10_10 dX10_never_21 ?_
  obtain ⟨v2, ev2, hf⟩ := Option.bind_eq_some_iff.mp hf
  refine ah_geti K hG ev2 ffX10_182_2 dX10_never_24 ?_
  refine lv_icmp_ge (tgt := 55) K.1 K.2.1 dX10_never_27 (by decide) (fun h3 => ?_) (fun h3 => ?_)
  · rw [if_pos h3] at hf
    refine lv_iinc (v := x2 + 1) (lv' := [(2, .int (x2 + 1)), (0, .ref a0), (1, .int x1), (3, .int x3)]) K.1 K.2.1 dX10_never_55 hl (k := 2) rfl rfl (by decide) rfl (fun ls hl => ?_)
    refine lv_goto (tgt := 4) K.1 K.2.1 dX10_never_58 (by decide) ?_
    exact hk4 a0 x1 (x2 + 1) _ _ _ hG hL (lv_sub hl [1, 2, 0] rfl) _ hf
  · rw [if_neg h3] at hf
    refine lv_aload_n K.1 K.2.1 dX10_never_30 rfl (lv_at hl 0 rfl) ?_
    obtain ⟨v4, ev4, hf⟩ := Option.bind_eq_some_iff.mp hf
    refine ah_getr K hG ev4 ffX10_10_10 dX10_never_31 ?_
    obtain ⟨v5, ev5, hf⟩ := Option.bind_eq_some_iff.mp hf
    refine ah_getr K hG ev5 ffX10_179_2 dX10_never_34 ?_
    refine lv_iload_n K.1 K.2.1 dX10_never_37 rfl (lv_at hl 2 rfl) ?_
    obtain ⟨v6, ev6, hf⟩ := Option.bind_eq_some_iff.mp hf
    refine ah_iald K hG ev6 dX10_never_38 ?_
    refine lv_iload_n K.1 K.2.1 dX10_never_39 rfl (lv_at hl 3 rfl) ?_
    obtain ⟨v7, ev7, hf⟩ := Option.bind_eq_some_iff.mp hf
    refine ah_callS (As := [.int v6, .int x3]) (rest := []) K hG hL hl.1 (ctX10_has l H0 D ca M z v6 x3 v7 ev7) hdX10_has q_490 q_370 q_50 q_371 ⟨Nat.le_of_ble_eq_true rfl, Nat.le_of_ble_eq_true rfl⟩ rfl rfl (Nat.le_of_ble_eq_true rfl) ⟨Nat.le_refl _, Nat.le_refl _⟩ dX10_never_40 (fun H locs hG hL => ?_)
    refine lv_if_ne (tgt := 49) K.1 K.2.1 dX10_never_43 (by decide) (fun h8 => ?_) (fun h8 => ?_)
    · rw [if_neg h8] at hf
      exact wX10_never_49 K k4 hk4 k19 hk19 a0 x1 x2 x3 _ _ _ hG hL (lv_sub hl [0, 1, 2, 3] rfl) _ hf
    · rw [if_pos h8] at hf
      refine lv_iinc (v := x1 + 1) (lv' := [(1, .int (x1 + 1)), (0, .ref a0), (2, .int x2), (3, .int x3)]) K.1 K.2.1 dX10_never_46 hl (k := 1) rfl rfl (by decide) rfl (fun ls hl => ?_)
      exact wX10_never_49 K k4 hk4 k19 hk19 a0 (x1 + 1) x2 x3 _ _ _ hG hL (lv_sub hl [1, 0, 2, 3] rfl) _ hf
theorem wX10_never_19 {p : Program} {l : Launch} {e : Env} {s : State} {m : MethodId} {args : Array Value} {below : List Frame} {meth : Method} {c : Code} {D : va_G} {ca : Nat → ClassId} {H0 : Heap} {M : ah_h} {z : Nat} (K : ah_K p s m args meth c D ca "ShipsThatMeet" cX10_never 4 (some .int))  (k4 : Nat → Int32 → Int32 → Option (Int32)) (hk4 : ∀ (a0 : Nat) (x1 : Int32) (x2 : Int32)  (H : Heap) (locs : List Loc) (ls : Array Slot), ah_g H0 D ca M z H → ah_L H0 locs → lv_has ls 4 [(0, .ref a0), (1, .int x1), (2, .int x2)] → ∀ Z, k4 a0 x1 x2 = some Z → W p l e { frames := 1, cells := 0, slots := 0, locals := 21 } s m args below meth c H locs 0 0 (ah_Q below args s H0 D ca 0 0 (some (.int Z)) M z) (F0 m 4 ls [])) (n : Nat) : ∀ (a0 : Nat) (x1 : Int32) (x2 : Int32) (x3 : Int32)  (H : Heap) (locs : List Loc) (ls : Array Slot), ah_g H0 D ca M z H → ah_L H0 locs → lv_has ls 4 [(0, .ref a0), (1, .int x1), (2, .int x2), (3, .int x3)] → ∀ Z, fX10_never_19  k4 M n a0 x1 x2 x3 = some Z → W p l e { frames := 1, cells := 0, slots := 0, locals := 21 } s m args below meth c H locs 0 0 (ah_Q below args s H0 D ca 0 0 (some (.int Z)) M z) (F0 m 19 ls []) := by
  induction n with
  | zero => intro a0 x1 x2 x3 H locs ls hG hL hl Z hf; cases hf
  | succ n ih => exact wX10_never_19_b K k4 hk4 _ ih
def fX10_never_4_b   (k4 : Nat → Int32 → Int32 → Option (Int32)) (M : ah_h) (a0 : Nat) (x1 : Int32) (x2 : Int32) : Option (Int32) := (ah_gr M a0 10 0).bind fun v1 => (ah_gi M v1 2 1).bind fun v2 => if v2 ≤ x2 then (some x1) else (fX10_never_19 k4 M ah_fu a0 x1 x2 (x2 + 1))
def fX10_never_4   (M : ah_h) : Nat → Nat → Int32 → Int32 → Option (Int32)
  | 0 => fun _ _ _ => none
  | n + 1 => fun a0 x1 x2 => fX10_never_4_b   (fX10_never_4   M n) M a0 x1 x2
set_option maxRecDepth 100000 in
set_option maxHeartbeats 4000000 in
theorem wX10_never_4_b {p : Program} {l : Launch} {e : Env} {s : State} {m : MethodId} {args : Array Value} {below : List Frame} {meth : Method} {c : Code} {D : va_G} {ca : Nat → ClassId} {H0 : Heap} {M : ah_h} {z : Nat} (K : ah_K p s m args meth c D ca "ShipsThatMeet" cX10_never 4 (some .int))   (k4 : Nat → Int32 → Int32 → Option (Int32)) (hk4 : ∀ (a0 : Nat) (x1 : Int32) (x2 : Int32)  (H : Heap) (locs : List Loc) (ls : Array Slot), ah_g H0 D ca M z H → ah_L H0 locs → lv_has ls 4 [(0, .ref a0), (1, .int x1), (2, .int x2)] → ∀ Z, k4 a0 x1 x2 = some Z → W p l e { frames := 1, cells := 0, slots := 0, locals := 21 } s m args below meth c H locs 0 0 (ah_Q below args s H0 D ca 0 0 (some (.int Z)) M z) (F0 m 4 ls [])) : ∀ (a0 : Nat) (x1 : Int32) (x2 : Int32)  (H : Heap) (locs : List Loc) (ls : Array Slot), ah_g H0 D ca M z H → ah_L H0 locs → lv_has ls 4 [(0, .ref a0), (1, .int x1), (2, .int x2)] → ∀ Z, fX10_never_4_b   k4 M a0 x1 x2 = some Z → W p l e { frames := 1, cells := 0, slots := 0, locals := 21 } s m args below meth c H locs 0 0 (ah_Q below args s H0 D ca 0 0 (some (.int Z)) M z) (F0 m 4 ls []) := by
  intro a0 x1 x2 H locs ls hG hL hl Z hf
  unfold fX10_never_4_b at hf
  refine lv_iload_n K.1 K.2.1 dX10_never_4 rfl (lv_at hl 2 rfl) ?_
  refine lv_aload_n K.1 K.2.1 dX10_never_5 rfl (lv_at hl 0 rfl) ?_
  obtain ⟨v1, ev1, hf⟩ := Option.bind_eq_some_iff.mp hf
  refine ah_getr K hG ev1 ffX10_10_10 dX10_never_6 ?_
  obtain ⟨v2, ev2, hf⟩ := Option.bind_eq_some_iff.mp hf
  refine ah_geti K hG ev2 ffX10_182_2 dX10_never_9 ?_
  refine lv_icmp_ge (tgt := 61) K.1 K.2.1 dX10_never_12 (by decide) (fun h3 => ?_) (fun h3 => ?_)
  · rw [if_pos h3] at hf
    refine lv_iload_n K.1 K.2.1 dX10_never_61 rfl (lv_at hl 1 rfl) ?_
    have hf := Option.some.inj hf
    subst hf
    exact ah_iret K hG hL (Nat.le_refl _) (Nat.le_refl _) dX10_never_62
  · rw [if_neg h3] at hf
    refine lv_iload_n K.1 K.2.1 dX10_never_15 rfl (lv_at hl 2 rfl) ?_
    refine lv_iconst (v := 1) K.1 K.2.1 dX10_never_16 (by decide) ?_
    refine lv_iadd K.1 K.2.1 dX10_never_17 ?_
    refine lv_istore_n (lv' := [(3, .int (x2 + 1)), (0, .ref a0), (1, .int x1), (2, .int x2)]) K.1 K.2.1 dX10_never_18 rfl hl (by decide) rfl (fun ls hl => ?_)
    exact wX10_never_19 K k4 hk4 ah_fu a0 x1 x2 (x2 + 1) _ _ _ hG hL (lv_sub hl [1, 2, 3, 0] rfl) _ hf
theorem wX10_never_4 {p : Program} {l : Launch} {e : Env} {s : State} {m : MethodId} {args : Array Value} {below : List Frame} {meth : Method} {c : Code} {D : va_G} {ca : Nat → ClassId} {H0 : Heap} {M : ah_h} {z : Nat} (K : ah_K p s m args meth c D ca "ShipsThatMeet" cX10_never 4 (some .int))   (n : Nat) : ∀ (a0 : Nat) (x1 : Int32) (x2 : Int32)  (H : Heap) (locs : List Loc) (ls : Array Slot), ah_g H0 D ca M z H → ah_L H0 locs → lv_has ls 4 [(0, .ref a0), (1, .int x1), (2, .int x2)] → ∀ Z, fX10_never_4   M n a0 x1 x2 = some Z → W p l e { frames := 1, cells := 0, slots := 0, locals := 21 } s m args below meth c H locs 0 0 (ah_Q below args s H0 D ca 0 0 (some (.int Z)) M z) (F0 m 4 ls []) := by
  induction n with
  | zero => intro a0 x1 x2 H locs ls hG hL hl Z hf; cases hf
  | succ n ih => exact wX10_never_4_b K  _ ih
def fX10_never (M : ah_h) (a0 : Nat) : Option (Int32) := (ah_ob M a0 10).bind fun _ => fX10_never_4 M ah_fu a0 0 0
set_option maxRecDepth 100000 in
set_option maxHeartbeats 4000000 in
theorem ctX10_never (l : Launch) (H0 : Heap) (D : va_G) (ca : Nat → ClassId) (M : ah_h) (z : Nat) (a0 : Nat) (Z : Int32) (hf : fX10_never M a0 = some Z) : ah_ct l H0 D ca yX10_never cX10_never 4 (some .int) 1 21 0 0 [.ref a0] M z (some (.int Z)) M z := by
  refine ah_of (by decide) (Nat.le_of_ble_eq_true rfl) ?_
  intro p e s m below meth c ls hin K hG hl
  have hL : ah_L H0 [] := ah_L.nil
  have hl : lv_has ls 4 [(0, .ref a0)] := hl
  unfold fX10_never at hf
  obtain ⟨-, -, hf⟩ := Option.bind_eq_some_iff.mp hf
  refine lv_iconst (v := 0) K.1 K.2.1 dX10_never_0 (by decide) ?_
  refine lv_istore_n (lv' := [(1, .int 0), (0, .ref a0)]) K.1 K.2.1 dX10_never_1 rfl hl (by decide) rfl (fun ls hl => ?_)
  refine lv_iconst (v := 0) K.1 K.2.1 dX10_never_2 (by decide) ?_
  refine lv_istore_n (lv' := [(2, .int 0), (1, .int 0), (0, .ref a0)]) K.1 K.2.1 dX10_never_3 rfl hl (by decide) rfl (fun ls hl => ?_)
  exact wX10_never_4 K  ah_fu a0 0 0 _ _ _ hG hL (lv_sub hl [2, 1, 0] rfl) _ hf
def fX10_count (M : ah_h) (a0 : Nat) (x1 : Int32) : Option (Int32) := (ah_ob M a0 10).bind fun _ => if x1 = 0 then ((ah_gr M a0 10 0).bind fun v2 => (ah_gi M v2 2 0).bind fun v3 => some v3) else if x1 = 1 then ((ah_gr M a0 10 0).bind fun v5 => (ah_gi M v5 2 1).bind fun v6 => some v6) else if x1 = 2 then ((ah_gr M a0 10 0).bind fun v8 => (ah_gi M v8 2 2).bind fun v9 => some v9) else if x1 = 3 then ((ah_gr M a0 10 0).bind fun v11 => (fX2_shipsWithoutMen M v11).bind fun v12 => some v12) else if x1 = 4 then ((ah_gr M a0 10 0).bind fun v15 => (fX2_mostAboard M v15).bind fun v16 => some v16) else (some (-1))
set_option maxRecDepth 100000 in
set_option maxHeartbeats 4000000 in
theorem ctX10_count (l : Launch) (H0 : Heap) (D : va_G) (ca : Nat → ClassId) (M : ah_h) (z : Nat) (a0 : Nat) (x1 : Int32) (Z : Int32) (hf : fX10_count M a0 x1 = some Z) : ah_ct l H0 D ca yX10_count cX10_count 2 (some .int) 2 46 0 0 [.ref a0, .int x1] M z (some (.int Z)) M z := by
  refine ah_of (by decide) (Nat.le_of_ble_eq_true rfl) ?_
  intro p e s m below meth c ls hin K hG hl
  have hL : ah_L H0 [] := ah_L.nil
  have hl : lv_has ls 2 [(0, .ref a0), (1, .int x1)] := hl
  unfold fX10_count at hf
  obtain ⟨-, -, hf⟩ := Option.bind_eq_some_iff.mp hf
  refine lv_iload_n K.1 K.2.1 dX10_count_0 rfl (lv_at hl 1 rfl) ?_
  by_cases h1 : x1 = 0
  · rw [if_pos h1] at hf
    refine lv_tableIn (off := 35) (tgt := 36) K.1 K.2.1 dX10_count_1 (by rw [h1]; decide) (by rw [h1]; decide) (by rw [h1]; rfl) (by decide) ?_
    refine lv_aload_n K.1 K.2.1 dX10_count_36 rfl (lv_at hl 0 rfl) ?_
    obtain ⟨v2, ev2, hf⟩ := Option.bind_eq_some_iff.mp hf
    refine ah_getr K hG ev2 ffX10_10_10 dX10_count_37 ?_
    obtain ⟨v3, ev3, hf⟩ := Option.bind_eq_some_iff.mp hf
    refine ah_geti K hG ev3 ffX10_188_2 dX10_count_40 ?_
    have hf := Option.some.inj hf
    subst hf
    exact ah_iret K hG hL (Nat.le_refl _) (Nat.le_refl _) dX10_count_43
  rw [if_neg h1] at hf
  by_cases h4 : x1 = 1
  · rw [if_pos h4] at hf
    refine lv_tableIn (off := 43) (tgt := 44) K.1 K.2.1 dX10_count_1 (by rw [h4]; decide) (by rw [h4]; decide) (by rw [h4]; rfl) (by decide) ?_
    refine lv_aload_n K.1 K.2.1 dX10_count_44 rfl (lv_at hl 0 rfl) ?_
    obtain ⟨v5, ev5, hf⟩ := Option.bind_eq_some_iff.mp hf
    refine ah_getr K hG ev5 ffX10_10_10 dX10_count_45 ?_
    obtain ⟨v6, ev6, hf⟩ := Option.bind_eq_some_iff.mp hf
    refine ah_geti K hG ev6 ffX10_182_2 dX10_count_48 ?_
    have hf := Option.some.inj hf
    subst hf
    exact ah_iret K hG hL (Nat.le_refl _) (Nat.le_refl _) dX10_count_51
  rw [if_neg h4] at hf
  by_cases h7 : x1 = 2
  · rw [if_pos h7] at hf
    refine lv_tableIn (off := 51) (tgt := 52) K.1 K.2.1 dX10_count_1 (by rw [h7]; decide) (by rw [h7]; decide) (by rw [h7]; rfl) (by decide) ?_
    refine lv_aload_n K.1 K.2.1 dX10_count_52 rfl (lv_at hl 0 rfl) ?_
    obtain ⟨v8, ev8, hf⟩ := Option.bind_eq_some_iff.mp hf
    refine ah_getr K hG ev8 ffX10_10_10 dX10_count_53 ?_
    obtain ⟨v9, ev9, hf⟩ := Option.bind_eq_some_iff.mp hf
    refine ah_geti K hG ev9 ffX10_230_2 dX10_count_56 ?_
    have hf := Option.some.inj hf
    subst hf
    exact ah_iret K hG hL (Nat.le_refl _) (Nat.le_refl _) dX10_count_59
  rw [if_neg h7] at hf
  by_cases h10 : x1 = 3
  · rw [if_pos h10] at hf
    refine lv_tableIn (off := 59) (tgt := 60) K.1 K.2.1 dX10_count_1 (by rw [h10]; decide) (by rw [h10]; decide) (by rw [h10]; rfl) (by decide) ?_
    refine lv_aload_n K.1 K.2.1 dX10_count_60 rfl (lv_at hl 0 rfl) ?_
    obtain ⟨v11, ev11, hf⟩ := Option.bind_eq_some_iff.mp hf
    refine ah_getr K hG ev11 ffX10_10_10 dX10_count_61 ?_
    obtain ⟨v12, ev12, hf⟩ := Option.bind_eq_some_iff.mp hf
    obtain ⟨q13, eq13⟩ := ah_this ev12
    refine ah_callV (As := []) (rest := []) K hG hL hl.1 eq13 rfl (ctX2_shipsWithoutMen l H0 D ca M z v11 v12 ev12) hdX2_shipsWithoutMen q_657 q_658 q_51 q_660 q_659 ⟨Nat.le_of_ble_eq_true rfl, Nat.le_of_ble_eq_true rfl⟩ rfl rfl (Nat.le_of_ble_eq_true rfl) ⟨Nat.le_refl _, Nat.le_refl _⟩ dX10_count_64 (fun H locs hG hL => ?_)
    have hf := Option.some.inj hf
    subst hf
    exact ah_iret K hG hL (Nat.le_refl _) (Nat.le_refl _) dX10_count_67
  rw [if_neg h10] at hf
  by_cases h14 : x1 = 4
  · rw [if_pos h14] at hf
    refine lv_tableIn (off := 67) (tgt := 68) K.1 K.2.1 dX10_count_1 (by rw [h14]; decide) (by rw [h14]; decide) (by rw [h14]; rfl) (by decide) ?_
    refine lv_aload_n K.1 K.2.1 dX10_count_68 rfl (lv_at hl 0 rfl) ?_
    obtain ⟨v15, ev15, hf⟩ := Option.bind_eq_some_iff.mp hf
    refine ah_getr K hG ev15 ffX10_10_10 dX10_count_69 ?_
    obtain ⟨v16, ev16, hf⟩ := Option.bind_eq_some_iff.mp hf
    obtain ⟨q17, eq17⟩ := ah_this ev16
    refine ah_callV (As := []) (rest := []) K hG hL hl.1 eq17 rfl (ctX2_mostAboard l H0 D ca M z v15 v16 ev16) hdX2_mostAboard q_661 q_662 q_51 q_664 q_663 ⟨Nat.le_of_ble_eq_true rfl, Nat.le_of_ble_eq_true rfl⟩ rfl rfl (Nat.le_of_ble_eq_true rfl) ⟨Nat.le_refl _, Nat.le_refl _⟩ dX10_count_72 (fun H locs hG hL => ?_)
    have hf := Option.some.inj hf
    subst hf
    exact ah_iret K hG hL (Nat.le_refl _) (Nat.le_refl _) dX10_count_75
  rw [if_neg h14] at hf
  have th1 := lv_neT (a := 0) h1 (by decide)
  have th4 := lv_neT (a := 1) h4 (by decide)
  have th7 := lv_neT (a := 2) h7 (by decide)
  have th10 := lv_neT (a := 3) h10 (by decide)
  have th14 := lv_neT (a := 4) h14 (by decide)
  refine lv_tableOut (tgt := 76) K.1 K.2.1 dX10_count_1 (by omega) (by decide) ?_
  refine lv_iconst (v := (-1)) K.1 K.2.1 dX10_count_76 (by decide) ?_
  have hf := Option.some.inj hf
  subst hf
  exact ah_iret K hG hL (Nat.le_refl _) (Nat.le_refl _) dX10_count_77
def fX10_row (M : ah_h) (a0 : Nat) (x1 : Int32) (x2 : Int32) (x3 : Int32) : Option (Int32 × ah_h) := (ah_ob M a0 10).bind fun _ => (fX10_isShelf M x1).bind fun v1 => if v1 = 0 then (some ((-1), M)) else (if x2 < 0 then (some ((-1), M)) else (if 3 ≤ x2 then (some ((-1), M)) else (if x3 ≤ 100 then (if 0 ≤ x3 then ((ah_gr M a0 10 4).bind fun v7 => (ah_ar M v7 3 x1).bind fun v8 => (fX7_holdRow M v8 x2 x3).bind fun v9 => some (0, v9)) else (some ((-14), M))) else (some ((-1), M)))))
set_option maxRecDepth 100000 in
set_option maxHeartbeats 4000000 in
theorem ctX10_row (l : Launch) (H0 : Heap) (D : va_G) (ca : Nat → ClassId) (M : ah_h) (z : Nat) (a0 : Nat) (x1 : Int32) (x2 : Int32) (x3 : Int32) (Z : Int32 × ah_h) (hf : fX10_row M a0 x1 x2 x3 = some Z) : ah_ct l H0 D ca yX10_row cX10_row 4 (some .int) 2 43 0 0 [.ref a0, .int x1, .int x2, .int x3] M z (some (.int Z.1)) Z.2 z := by
  refine ah_of (by decide) (Nat.le_of_ble_eq_true rfl) ?_
  intro p e s m below meth c ls hin K hG hl
  have hL : ah_L H0 [] := ah_L.nil
  have hl : lv_has ls 4 [(0, .ref a0), (1, .int x1), (2, .int x2), (3, .int x3)] := hl
  unfold fX10_row at hf
  obtain ⟨-, -, hf⟩ := Option.bind_eq_some_iff.mp hf
  refine lv_iload_n K.1 K.2.1 dX10_row_0 rfl (lv_at hl 1 rfl) ?_
  obtain ⟨v1, ev1, hf⟩ := Option.bind_eq_some_iff.mp hf
  refine ah_callS (As := [.int x1]) (rest := []) K hG hL hl.1 (ctX10_isShelf l H0 D ca M z x1 v1 ev1) hdX10_isShelf q_218 q_219 q_50 q_220 ⟨Nat.le_of_ble_eq_true rfl, Nat.le_of_ble_eq_true rfl⟩ rfl rfl (Nat.le_of_ble_eq_true rfl) ⟨Nat.le_refl _, Nat.le_refl _⟩ dX10_row_1 (fun H locs hG hL => ?_)
  refine lv_if_eq (tgt := 22) K.1 K.2.1 dX10_row_4 (by decide) (fun h2 => ?_) (fun h2 => ?_)
  · rw [if_pos h2] at hf
    refine lv_iconst (v := (-1)) K.1 K.2.1 dX10_row_22 (by decide) ?_
    have hf := Option.some.inj hf
    subst hf
    exact ah_iret K hG hL (Nat.le_refl _) (Nat.le_refl _) dX10_row_23
  · rw [if_neg h2] at hf
    refine lv_iload_n K.1 K.2.1 dX10_row_7 rfl (lv_at hl 2 rfl) ?_
    refine lv_if_lt (tgt := 22) K.1 K.2.1 dX10_row_8 (by decide) (fun h3 => ?_) (fun h3 => ?_)
    · rw [if_pos h3] at hf
      refine lv_iconst (v := (-1)) K.1 K.2.1 dX10_row_22 (by decide) ?_
      have hf := Option.some.inj hf
      subst hf
      exact ah_iret K hG hL (Nat.le_refl _) (Nat.le_refl _) dX10_row_23
    · rw [if_neg h3] at hf
      refine lv_iload_n K.1 K.2.1 dX10_row_11 rfl (lv_at hl 2 rfl) ?_
      refine lv_iconst (v := 3) K.1 K.2.1 dX10_row_12 (by decide) ?_
      refine lv_icmp_ge (tgt := 22) K.1 K.2.1 dX10_row_13 (by decide) (fun h4 => ?_) (fun h4 => ?_)
      · rw [if_pos h4] at hf
        refine lv_iconst (v := (-1)) K.1 K.2.1 dX10_row_22 (by decide) ?_
        have hf := Option.some.inj hf
        subst hf
        exact ah_iret K hG hL (Nat.le_refl _) (Nat.le_refl _) dX10_row_23
      · rw [if_neg h4] at hf
        refine lv_iload_n K.1 K.2.1 dX10_row_16 rfl (lv_at hl 3 rfl) ?_
        refine lv_bipush (v := 100) K.1 K.2.1 dX10_row_17 (by decide) ?_
        refine lv_icmp_le (tgt := 24) K.1 K.2.1 dX10_row_19 (by decide) (fun h5 => ?_) (fun h5 => ?_)
        · rw [if_pos h5] at hf
          refine lv_iload_n K.1 K.2.1 dX10_row_24 rfl (lv_at hl 3 rfl) ?_
          refine lv_if_ge (tgt := 31) K.1 K.2.1 dX10_row_25 (by decide) (fun h6 => ?_) (fun h6 => ?_)
          · rw [if_pos h6] at hf
            refine lv_aload_n K.1 K.2.1 dX10_row_31 rfl (lv_at hl 0 rfl) ?_
            obtain ⟨v7, ev7, hf⟩ := Option.bind_eq_some_iff.mp hf
            refine ah_getr K hG ev7 ffX10_28_10 dX10_row_32 ?_
            refine lv_iload_n K.1 K.2.1 dX10_row_35 rfl (lv_at hl 1 rfl) ?_
            obtain ⟨v8, ev8, hf⟩ := Option.bind_eq_some_iff.mp hf
            refine ah_aald (t := 3) K hG ev8 rfl rfl dX10_row_36 ?_
            refine lv_iload_n K.1 K.2.1 dX10_row_37 rfl (lv_at hl 2 rfl) ?_
            refine lv_iload_n K.1 K.2.1 dX10_row_38 rfl (lv_at hl 3 rfl) ?_
            obtain ⟨v9, ev9, hf⟩ := Option.bind_eq_some_iff.mp hf
            obtain ⟨q10, eq10⟩ := ah_this ev9
            refine ah_callV (As := [.int x2, .int x3]) (rest := []) K hG hL hl.1 eq10 rfl (ctX7_holdRow l H0 D ca M z v8 x2 x3 v9 ev9) hdX7_holdRow q_683 q_684 q_53 q_686 q_685 ⟨Nat.le_of_ble_eq_true rfl, Nat.le_of_ble_eq_true rfl⟩ rfl rfl (Nat.le_of_ble_eq_true rfl) ⟨Nat.le_refl _, Nat.le_refl _⟩ dX10_row_39 (fun H locs hG hL => ?_)
            refine lv_iconst (v := 0) K.1 K.2.1 dX10_row_42 (by decide) ?_
            have hf := Option.some.inj hf
            subst hf
            exact ah_iret K hG hL (Nat.le_refl _) (Nat.le_refl _) dX10_row_43
          · rw [if_neg h6] at hf
            refine lv_bipush (v := (-14)) K.1 K.2.1 dX10_row_28 (by decide) ?_
            have hf := Option.some.inj hf
            subst hf
            exact ah_iret K hG hL (Nat.le_refl _) (Nat.le_refl _) dX10_row_30
        · rw [if_neg h5] at hf
          refine lv_iconst (v := (-1)) K.1 K.2.1 dX10_row_22 (by decide) ?_
          have hf := Option.some.inj hf
          subst hf
          exact ah_iret K hG hL (Nat.le_refl _) (Nat.le_refl _) dX10_row_23
def fX10_put (M : ah_h) (a0 : Nat) (x1 : Int32) (x2 : Int32) (x3 : Int32) : Option (Int32 × ah_h) := (ah_ob M a0 10).bind fun _ => (fX10_refusalOfRow M a0 x1).bind fun v1 => if 0 ≤ v1 then ((ah_gr M a0 10 4).bind fun v4 => (ah_ar M v4 3 x1).bind fun v5 => (fX7_hasPlace M v5 x2).bind fun v6 => if v6 = 0 then (some ((-13), M)) else ((ah_gr M a0 10 4).bind fun v9 => (ah_ar M v9 3 x1).bind fun v10 => (fX7_write M v10 x2 x3).bind fun v11 => some (0, v11))) else (some (v1, M))
set_option maxRecDepth 100000 in
set_option maxHeartbeats 4000000 in
theorem ctX10_put (l : Launch) (H0 : Heap) (D : va_G) (ca : Nat → ClassId) (M : ah_h) (z : Nat) (a0 : Nat) (x1 : Int32) (x2 : Int32) (x3 : Int32) (Z : Int32 × ah_h) (hf : fX10_put M a0 x1 x2 x3 = some Z) : ah_ct l H0 D ca yX10_put cX10_put 5 (some .int) 2 43 0 0 [.ref a0, .int x1, .int x2, .int x3] M z (some (.int Z.1)) Z.2 z := by
  refine ah_of (by decide) (Nat.le_of_ble_eq_true rfl) ?_
  intro p e s m below meth c ls hin K hG hl
  have hL : ah_L H0 [] := ah_L.nil
  have hl : lv_has ls 5 [(0, .ref a0), (1, .int x1), (2, .int x2), (3, .int x3)] := hl
  unfold fX10_put at hf
  obtain ⟨-, -, hf⟩ := Option.bind_eq_some_iff.mp hf
  refine lv_aload_n K.1 K.2.1 dX10_put_0 rfl (lv_at hl 0 rfl) ?_
  refine lv_iload_n K.1 K.2.1 dX10_put_1 rfl (lv_at hl 1 rfl) ?_
  obtain ⟨v1, ev1, hf⟩ := Option.bind_eq_some_iff.mp hf
  obtain ⟨q2, eq2⟩ := ah_this ev1
  refine ah_callV (As := [.int x1]) (rest := []) K hG hL hl.1 eq2 rfl (ctX10_refusalOfRow l H0 D ca M z a0 x1 v1 ev1) hdX10_refusalOfRow q_214 q_216 q_50 q_217 q_1 ⟨Nat.le_of_ble_eq_true rfl, Nat.le_of_ble_eq_true rfl⟩ rfl rfl (Nat.le_of_ble_eq_true rfl) ⟨Nat.le_refl _, Nat.le_refl _⟩ dX10_put_2 (fun H locs hG hL => ?_)
  refine lv_istore (lv' := [(4, .int v1), (0, .ref a0), (1, .int x1), (2, .int x2), (3, .int x3)]) K.1 K.2.1 dX10_put_5 hl (by decide) rfl (fun ls hl => ?_)
  refine lv_iload K.1 K.2.1 dX10_put_7 (lv_at hl 0 rfl) ?_
  refine lv_if_ge (tgt := 15) K.1 K.2.1 dX10_put_9 (by decide) (fun h3 => ?_) (fun h3 => ?_)
  · rw [if_pos h3] at hf
    refine lv_aload_n K.1 K.2.1 dX10_put_15 rfl (lv_at hl 1 rfl) ?_
    obtain ⟨v4, ev4, hf⟩ := Option.bind_eq_some_iff.mp hf
    refine ah_getr K hG ev4 ffX10_28_10 dX10_put_16 ?_
    refine lv_iload_n K.1 K.2.1 dX10_put_19 rfl (lv_at hl 2 rfl) ?_
    obtain ⟨v5, ev5, hf⟩ := Option.bind_eq_some_iff.mp hf
    refine ah_aald (t := 3) K hG ev5 rfl rfl dX10_put_20 ?_
    refine lv_iload_n K.1 K.2.1 dX10_put_21 rfl (lv_at hl 3 rfl) ?_
    obtain ⟨v6, ev6, hf⟩ := Option.bind_eq_some_iff.mp hf
    obtain ⟨q7, eq7⟩ := ah_this ev6
    refine ah_callV (As := [.int x2]) (rest := []) K hG hL hl.1 eq7 rfl (ctX7_hasPlace l H0 D ca M z v5 x2 v6 ev6) hdX7_hasPlace q_691 q_237 q_53 q_239 q_238 ⟨Nat.le_of_ble_eq_true rfl, Nat.le_of_ble_eq_true rfl⟩ rfl rfl (Nat.le_of_ble_eq_true rfl) ⟨Nat.le_refl _, Nat.le_refl _⟩ dX10_put_22 (fun H locs hG hL => ?_)
    refine lv_if_ne (tgt := 31) K.1 K.2.1 dX10_put_25 (by decide) (fun h8 => ?_) (fun h8 => ?_)
    · rw [if_neg h8] at hf
      refine lv_aload_n K.1 K.2.1 dX10_put_31 rfl (lv_at hl 1 rfl) ?_
      obtain ⟨v9, ev9, hf⟩ := Option.bind_eq_some_iff.mp hf
      refine ah_getr K hG ev9 ffX10_28_10 dX10_put_32 ?_
      refine lv_iload_n K.1 K.2.1 dX10_put_35 rfl (lv_at hl 2 rfl) ?_
      obtain ⟨v10, ev10, hf⟩ := Option.bind_eq_some_iff.mp hf
      refine ah_aald (t := 3) K hG ev10 rfl rfl dX10_put_36 ?_
      refine lv_iload_n K.1 K.2.1 dX10_put_37 rfl (lv_at hl 3 rfl) ?_
      refine lv_iload_n K.1 K.2.1 dX10_put_38 rfl (lv_at hl 4 rfl) ?_
      obtain ⟨v11, ev11, hf⟩ := Option.bind_eq_some_iff.mp hf
      obtain ⟨q12, eq12⟩ := ah_this ev11
      refine ah_callV (As := [.int x2, .int x3]) (rest := []) K hG hL hl.1 eq12 rfl (ctX7_write l H0 D ca M z v10 x2 x3 v11 ev11) hdX7_write q_692 q_693 q_53 q_695 q_694 ⟨Nat.le_of_ble_eq_true rfl, Nat.le_of_ble_eq_true rfl⟩ rfl rfl (Nat.le_of_ble_eq_true rfl) ⟨Nat.le_refl _, Nat.le_refl _⟩ dX10_put_39 (fun H locs hG hL => ?_)
      refine lv_iconst (v := 0) K.1 K.2.1 dX10_put_42 (by decide) ?_
      have hf := Option.some.inj hf
      subst hf
      exact ah_iret K hG hL (Nat.le_refl _) (Nat.le_refl _) dX10_put_43
    · rw [if_pos h8] at hf
      refine lv_bipush (v := (-13)) K.1 K.2.1 dX10_put_28 (by decide) ?_
      have hf := Option.some.inj hf
      subst hf
      exact ah_iret K hG hL (Nat.le_refl _) (Nat.le_refl _) dX10_put_30
  · rw [if_neg h3] at hf
    refine lv_iload K.1 K.2.1 dX10_put_12 (lv_at hl 0 rfl) ?_
    have hf := Option.some.inj hf
    subst hf
    exact ah_iret K hG hL (Nat.le_refl _) (Nat.le_refl _) dX10_put_14
def fX10_copy (M : ah_h) (a0 : Nat) (x1 : Int32) (x2 : Int32) (x3 : Int32) (x4 : Int32) (x5 : Int32) : Option (Int32 × ah_h) := (ah_ob M a0 10).bind fun _ => (fX10_isShelf M x1).bind fun v1 => if v1 = 0 then (some ((-1), M)) else ((fX10_isShelf M x3).bind fun v3 => if v3 = 0 then (some ((-1), M)) else ((ah_gr M a0 10 4).bind fun v5 => (ah_ar M v5 3 x1).bind fun v6 => (ah_gr M a0 10 4).bind fun v7 => (ah_ar M v7 3 x3).bind fun v8 => (fX7_holdsNothing M v6).bind fun v9 => if v9 = 0 then ((fX7_holdsNothing M v8).bind fun v12 => if v12 = 0 then ((fX7_holdsRow M v6).bind fun v15 => if v15 = 0 then (some ((-12), M)) else ((fX7_holdsRow M v8).bind fun v18 => if v18 = 0 then (some ((-12), M)) else ((ah_gi M v6 7 1).bind fun v21 => (ah_gi M v8 7 1).bind fun v22 => if v21 = v22 then ((fX7_hasStretch M v6 x2 x5).bind fun v24 => if v24 = 0 then (some ((-13), M)) else ((fX7_hasStretch M v8 x4 x5).bind fun v27 => if v27 = 0 then (some ((-13), M)) else ((ah_gr M v6 7 3).bind fun v30 => (ah_gr M v8 7 3).bind fun v31 => (ah_cpy M v30 x2 v31 x4 x5).bind fun M32 => some (x5, M32)))) else (some ((-12), M))))) else (some ((-11), M))) else (some ((-11), M))))
set_option maxRecDepth 100000 in
set_option maxHeartbeats 4000000 in
theorem ctX10_copy (l : Launch) (H0 : Heap) (D : va_G) (ca : Nat → ClassId) (M : ah_h) (z : Nat) (a0 : Nat) (x1 : Int32) (x2 : Int32) (x3 : Int32) (x4 : Int32) (x5 : Int32) (Z : Int32 × ah_h) (hf : fX10_copy M a0 x1 x2 x3 x4 x5 = some Z) : ah_ct l H0 D ca yX10_copy cX10_copy 8 (some .int) 1 40 0 0 [.ref a0, .int x1, .int x2, .int x3, .int x4, .int x5] M z (some (.int Z.1)) Z.2 z := by
  refine ah_of (by decide) (Nat.le_of_ble_eq_true rfl) ?_
  intro p e s m below meth c ls hin K hG hl
  have hL : ah_L H0 [] := ah_L.nil
  have hl : lv_has ls 8 [(0, .ref a0), (1, .int x1), (2, .int x2), (3, .int x3), (4, .int x4), (5, .int x5)] := hl
  unfold fX10_copy at hf
  obtain ⟨-, -, hf⟩ := Option.bind_eq_some_iff.mp hf
  refine lv_iload_n K.1 K.2.1 dX10_copy_0 rfl (lv_at hl 1 rfl) ?_
  obtain ⟨v1, ev1, hf⟩ := Option.bind_eq_some_iff.mp hf
  refine ah_callS (As := [.int x1]) (rest := []) K hG hL hl.1 (ctX10_isShelf l H0 D ca M z x1 v1 ev1) hdX10_isShelf q_218 q_219 q_50 q_220 ⟨Nat.le_of_ble_eq_true rfl, Nat.le_of_ble_eq_true rfl⟩ rfl rfl (Nat.le_of_ble_eq_true rfl) ⟨Nat.le_refl _, Nat.le_refl _⟩ dX10_copy_1 (fun H locs hG hL => ?_)
  refine lv_if_eq (tgt := 14) K.1 K.2.1 dX10_copy_4 (by decide) (fun h2 => ?_) (fun h2 => ?_)
  · rw [if_pos h2] at hf
    refine lv_iconst (v := (-1)) K.1 K.2.1 dX10_copy_14 (by decide) ?_
    have hf := Option.some.inj hf
    subst hf
    exact ah_iret K hG hL (Nat.le_refl _) (Nat.le_refl _) dX10_copy_15
  · rw [if_neg h2] at hf
    refine lv_iload_n K.1 K.2.1 dX10_copy_7 rfl (lv_at hl 3 rfl) ?_
    obtain ⟨v3, ev3, hf⟩ := Option.bind_eq_some_iff.mp hf
    refine ah_callS (As := [.int x3]) (rest := []) K hG hL hl.1 (ctX10_isShelf l H0 D ca M z x3 v3 ev3) hdX10_isShelf q_218 q_219 q_50 q_220 ⟨Nat.le_of_ble_eq_true rfl, Nat.le_of_ble_eq_true rfl⟩ rfl rfl (Nat.le_of_ble_eq_true rfl) ⟨Nat.le_refl _, Nat.le_refl _⟩ dX10_copy_8 (fun H locs hG hL => ?_)
    refine lv_if_ne (tgt := 16) K.1 K.2.1 dX10_copy_11 (by decide) (fun h4 => ?_) (fun h4 => ?_)
    · rw [if_neg h4] at hf
      refine lv_aload_n K.1 K.2.1 dX10_copy_16 rfl (lv_at hl 0 rfl) ?_
      obtain ⟨v5, ev5, hf⟩ := Option.bind_eq_some_iff.mp hf
      refine ah_getr K hG ev5 ffX10_28_10 dX10_copy_17 ?_
      refine lv_iload_n K.1 K.2.1 dX10_copy_20 rfl (lv_at hl 1 rfl) ?_
      obtain ⟨v6, ev6, hf⟩ := Option.bind_eq_some_iff.mp hf
      refine ah_aald (t := 3) K hG ev6 rfl rfl dX10_copy_21 ?_
      refine lv_astore (lv' := [(6, .ref v6), (0, .ref a0), (1, .int x1), (2, .int x2), (3, .int x3), (4, .int x4), (5, .int x5)]) K.1 K.2.1 dX10_copy_22 hl (by decide) rfl (fun ls hl => ?_)
      refine lv_aload_n K.1 K.2.1 dX10_copy_24 rfl (lv_at hl 1 rfl) ?_
      obtain ⟨v7, ev7, hf⟩ := Option.bind_eq_some_iff.mp hf
      refine ah_getr K hG ev7 ffX10_28_10 dX10_copy_25 ?_
      refine lv_iload_n K.1 K.2.1 dX10_copy_28 rfl (lv_at hl 4 rfl) ?_
      obtain ⟨v8, ev8, hf⟩ := Option.bind_eq_some_iff.mp hf
      refine ah_aald (t := 3) K hG ev8 rfl rfl dX10_copy_29 ?_
      refine lv_astore (lv' := [(7, .ref v8), (6, .ref v6), (0, .ref a0), (1, .int x1), (2, .int x2), (3, .int x3), (4, .int x4), (5, .int x5)]) K.1 K.2.1 dX10_copy_30 hl (by decide) rfl (fun ls hl => ?_)
      refine lv_aload K.1 K.2.1 dX10_copy_32 (lv_at hl 1 rfl) ?_
      obtain ⟨v9, ev9, hf⟩ := Option.bind_eq_some_iff.mp hf
      obtain ⟨q10, eq10⟩ := ah_this ev9
      refine ah_callV (As := []) (rest := []) K hG hL hl.1 eq10 rfl (ctX7_holdsNothing l H0 D ca M z v6 v9 ev9) hdX7_holdsNothing q_221 q_222 q_53 q_224 q_223 ⟨Nat.le_of_ble_eq_true rfl, Nat.le_of_ble_eq_true rfl⟩ rfl rfl (Nat.le_of_ble_eq_true rfl) ⟨Nat.le_refl _, Nat.le_refl _⟩ dX10_copy_34 (fun H locs hG hL => ?_)
      refine lv_if_ne (tgt := 48) K.1 K.2.1 dX10_copy_37 (by decide) (fun h11 => ?_) (fun h11 => ?_)
      · rw [if_neg h11] at hf
        refine lv_bipush (v := (-11)) K.1 K.2.1 dX10_copy_48 (by decide) ?_
        have hf := Option.some.inj hf
        subst hf
        exact ah_iret K hG hL (Nat.le_refl _) (Nat.le_refl _) dX10_copy_50
      · rw [if_pos h11] at hf
        refine lv_aload K.1 K.2.1 dX10_copy_40 (lv_at hl 0 rfl) ?_
        obtain ⟨v12, ev12, hf⟩ := Option.bind_eq_some_iff.mp hf
        obtain ⟨q13, eq13⟩ := ah_this ev12
        refine ah_callV (As := []) (rest := []) K hG hL hl.1 eq13 rfl (ctX7_holdsNothing l H0 D ca M z v8 v12 ev12) hdX7_holdsNothing q_221 q_222 q_53 q_224 q_223 ⟨Nat.le_of_ble_eq_true rfl, Nat.le_of_ble_eq_true rfl⟩ rfl rfl (Nat.le_of_ble_eq_true rfl) ⟨Nat.le_refl _, Nat.le_refl _⟩ dX10_copy_42 (fun H locs hG hL => ?_)
        refine lv_if_eq (tgt := 51) K.1 K.2.1 dX10_copy_45 (by decide) (fun h14 => ?_) (fun h14 => ?_)
        · rw [if_pos h14] at hf
          refine lv_aload K.1 K.2.1 dX10_copy_51 (lv_at hl 1 rfl) ?_
          obtain ⟨v15, ev15, hf⟩ := Option.bind_eq_some_iff.mp hf
          obtain ⟨q16, eq16⟩ := ah_this ev15
          refine ah_callV (As := []) (rest := []) K hG hL hl.1 eq16 rfl (ctX7_holdsRow l H0 D ca M z v6 v15 ev15) hdX7_holdsRow q_225 q_226 q_53 q_228 q_227 ⟨Nat.le_of_ble_eq_true rfl, Nat.le_of_ble_eq_true rfl⟩ rfl rfl (Nat.le_of_ble_eq_true rfl) ⟨Nat.le_refl _, Nat.le_refl _⟩ dX10_copy_53 (fun H locs hG hL => ?_)
          refine lv_if_eq (tgt := 80) K.1 K.2.1 dX10_copy_56 (by decide) (fun h17 => ?_) (fun h17 => ?_)
          · rw [if_pos h17] at hf
            refine lv_bipush (v := (-12)) K.1 K.2.1 dX10_copy_80 (by decide) ?_
            have hf := Option.some.inj hf
            subst hf
            exact ah_iret K hG hL (Nat.le_refl _) (Nat.le_refl _) dX10_copy_82
          · rw [if_neg h17] at hf
            refine lv_aload K.1 K.2.1 dX10_copy_59 (lv_at hl 0 rfl) ?_
            obtain ⟨v18, ev18, hf⟩ := Option.bind_eq_some_iff.mp hf
            obtain ⟨q19, eq19⟩ := ah_this ev18
            refine ah_callV (As := []) (rest := []) K hG hL hl.1 eq19 rfl (ctX7_holdsRow l H0 D ca M z v8 v18 ev18) hdX7_holdsRow q_225 q_226 q_53 q_228 q_227 ⟨Nat.le_of_ble_eq_true rfl, Nat.le_of_ble_eq_true rfl⟩ rfl rfl (Nat.le_of_ble_eq_true rfl) ⟨Nat.le_refl _, Nat.le_refl _⟩ dX10_copy_61 (fun H locs hG hL => ?_)
            refine lv_if_eq (tgt := 80) K.1 K.2.1 dX10_copy_64 (by decide) (fun h20 => ?_) (fun h20 => ?_)
            · rw [if_pos h20] at hf
              refine lv_bipush (v := (-12)) K.1 K.2.1 dX10_copy_80 (by decide) ?_
              have hf := Option.some.inj hf
              subst hf
              exact ah_iret K hG hL (Nat.le_refl _) (Nat.le_refl _) dX10_copy_82
            · rw [if_neg h20] at hf
              refine lv_aload K.1 K.2.1 dX10_copy_67 (lv_at hl 1 rfl) ?_
              obtain ⟨v21, ev21, hf⟩ := Option.bind_eq_some_iff.mp hf
              refine ah_geti K hG ev21 ffX10_275_7 dX10_copy_69 ?_
              refine lv_aload K.1 K.2.1 dX10_copy_72 (lv_at hl 0 rfl) ?_
              obtain ⟨v22, ev22, hf⟩ := Option.bind_eq_some_iff.mp hf
              refine ah_geti K hG ev22 ffX10_275_7 dX10_copy_74 ?_
              refine lv_icmp_eq (tgt := 83) K.1 K.2.1 dX10_copy_77 (by decide) (fun h23 => ?_) (fun h23 => ?_)
              · rw [if_pos h23] at hf
                refine lv_aload K.1 K.2.1 dX10_copy_83 (lv_at hl 1 rfl) ?_
                refine lv_iload_n K.1 K.2.1 dX10_copy_85 rfl (lv_at hl 4 rfl) ?_
                refine lv_iload K.1 K.2.1 dX10_copy_86 (lv_at hl 7 rfl) ?_
                obtain ⟨v24, ev24, hf⟩ := Option.bind_eq_some_iff.mp hf
                obtain ⟨q25, eq25⟩ := ah_this ev24
                refine ah_callV (As := [.int x2, .int x5]) (rest := []) K hG hL hl.1 eq25 rfl (ctX7_hasStretch l H0 D ca M z v6 x2 x5 v24 ev24) hdX7_hasStretch q_700 q_701 q_53 q_703 q_702 ⟨Nat.le_of_ble_eq_true rfl, Nat.le_of_ble_eq_true rfl⟩ rfl rfl (Nat.le_of_ble_eq_true rfl) ⟨Nat.le_refl _, Nat.le_refl _⟩ dX10_copy_88 (fun H locs hG hL => ?_)
                refine lv_if_eq (tgt := 106) K.1 K.2.1 dX10_copy_91 (by decide) (fun h26 => ?_) (fun h26 => ?_)
                · rw [if_pos h26] at hf
                  refine lv_bipush (v := (-13)) K.1 K.2.1 dX10_copy_106 (by decide) ?_
                  have hf := Option.some.inj hf
                  subst hf
                  exact ah_iret K hG hL (Nat.le_refl _) (Nat.le_refl _) dX10_copy_108
                · rw [if_neg h26] at hf
                  refine lv_aload K.1 K.2.1 dX10_copy_94 (lv_at hl 0 rfl) ?_
                  refine lv_iload K.1 K.2.1 dX10_copy_96 (lv_at hl 6 rfl) ?_
                  refine lv_iload K.1 K.2.1 dX10_copy_98 (lv_at hl 7 rfl) ?_
                  obtain ⟨v27, ev27, hf⟩ := Option.bind_eq_some_iff.mp hf
                  obtain ⟨q28, eq28⟩ := ah_this ev27
                  refine ah_callV (As := [.int x4, .int x5]) (rest := []) K hG hL hl.1 eq28 rfl (ctX7_hasStretch l H0 D ca M z v8 x4 x5 v27 ev27) hdX7_hasStretch q_700 q_701 q_53 q_703 q_702 ⟨Nat.le_of_ble_eq_true rfl, Nat.le_of_ble_eq_true rfl⟩ rfl rfl (Nat.le_of_ble_eq_true rfl) ⟨Nat.le_refl _, Nat.le_refl _⟩ dX10_copy_100 (fun H locs hG hL => ?_)
                  refine lv_if_ne (tgt := 109) K.1 K.2.1 dX10_copy_103 (by decide) (fun h29 => ?_) (fun h29 => ?_)
                  · rw [if_neg h29] at hf
                    refine lv_aload K.1 K.2.1 dX10_copy_109 (lv_at hl 1 rfl) ?_
                    obtain ⟨v30, ev30, hf⟩ := Option.bind_eq_some_iff.mp hf
                    refine ah_getr K hG ev30 ffX10_281_7 dX10_copy_111 ?_
                    refine lv_iload_n K.1 K.2.1 dX10_copy_114 rfl (lv_at hl 4 rfl) ?_
                    refine lv_aload K.1 K.2.1 dX10_copy_115 (lv_at hl 0 rfl) ?_
                    obtain ⟨v31, ev31, hf⟩ := Option.bind_eq_some_iff.mp hf
                    refine ah_getr K hG ev31 ffX10_281_7 dX10_copy_117 ?_
                    refine lv_iload K.1 K.2.1 dX10_copy_120 (lv_at hl 6 rfl) ?_
                    refine lv_iload K.1 K.2.1 dX10_copy_122 (lv_at hl 7 rfl) ?_
                    obtain ⟨M32, eM32, hf⟩ := Option.bind_eq_some_iff.mp hf
                    refine ah_copy K hG hL hl.1 eM32 q_704 q_706 q_705 q_69 (Nat.le_of_ble_eq_true rfl) (Nat.le_of_ble_eq_true rfl) dX10_copy_124 (fun H locs hG hL => ?_)
                    refine lv_iload K.1 K.2.1 dX10_copy_127 (lv_at hl 7 rfl) ?_
                    have hf := Option.some.inj hf
                    subst hf
                    exact ah_iret K hG hL (Nat.le_refl _) (Nat.le_refl _) dX10_copy_129
                  · rw [if_pos h29] at hf
                    refine lv_bipush (v := (-13)) K.1 K.2.1 dX10_copy_106 (by decide) ?_
                    have hf := Option.some.inj hf
                    subst hf
                    exact ah_iret K hG hL (Nat.le_refl _) (Nat.le_refl _) dX10_copy_108
              · rw [if_neg h23] at hf
                refine lv_bipush (v := (-12)) K.1 K.2.1 dX10_copy_80 (by decide) ?_
                have hf := Option.some.inj hf
                subst hf
                exact ah_iret K hG hL (Nat.le_refl _) (Nat.le_refl _) dX10_copy_82
        · rw [if_neg h14] at hf
          refine lv_bipush (v := (-11)) K.1 K.2.1 dX10_copy_48 (by decide) ?_
          have hf := Option.some.inj hf
          subst hf
          exact ah_iret K hG hL (Nat.le_refl _) (Nat.le_refl _) dX10_copy_50
    · rw [if_pos h4] at hf
      refine lv_iconst (v := (-1)) K.1 K.2.1 dX10_copy_14 (by decide) ?_
      have hf := Option.some.inj hf
      subst hf
      exact ah_iret K hG hL (Nat.le_refl _) (Nat.le_refl _) dX10_copy_15
def fX10_choicesBehind_64   (M : ah_h) (a0 : Nat) (x1 : Int32) (x2 : Int32) (x3 : Int32) (x4 : Int32) : Option (Int32) := (fX10_has M x1 x3).bind fun v1 => if v1 = 0 then (some x4) else ((ah_gr M a0 10 0).bind fun v3 => (fX2_isAlone M v3 x3).bind fun v4 => if v4 = 0 then (some (x4 ||| (((1 : Int32) <<< (x2 &&& 31)) ||| ((1 : Int32) <<< (x3 &&& 31))))) else (some (x4 ||| (((1 : Int32) <<< (x2 &&& 31)) ||| 0))))
set_option maxRecDepth 100000 in
set_option maxHeartbeats 4000000 in
theorem wX10_choicesBehind_64 {p : Program} {l : Launch} {e : Env} {s : State} {m : MethodId} {args : Array Value} {below : List Frame} {meth : Method} {c : Code} {D : va_G} {ca : Nat → ClassId} {H0 : Heap} {M : ah_h} {z : Nat} (K : ah_K p s m args meth c D ca "ShipsThatMeet" cX10_choicesBehind 5 (some .int))   : ∀ (a0 : Nat) (x1 : Int32) (x2 : Int32) (x3 : Int32) (x4 : Int32)  (H : Heap) (locs : List Loc) (ls : Array Slot), ah_g H0 D ca M z H → ah_L H0 locs → lv_has ls 5 [(0, .ref a0), (1, .int x1), (2, .int x2), (3, .int x3), (4, .int x4)] → ∀ Z, fX10_choicesBehind_64   M a0 x1 x2 x3 x4 = some Z → W p l e { frames := 3, cells := 0, slots := 0, locals := 65 } s m args below meth c H locs 0 0 (ah_Q below args s H0 D ca 0 0 (some (.int Z)) M z) (F0 m 64 ls []) := by
  intro a0 x1 x2 x3 x4 H locs ls hG hL hl Z hf
  unfold fX10_choicesBehind_64 at hf
  refine lv_iload_n K.1 K.2.1 dX10_choicesBehind_64 rfl (lv_at hl 1 rfl) ?_
  refine lv_iload_n K.1 K.2.1 dX10_choicesBehind_65 rfl (lv_at hl 3 rfl) ?_
  obtain ⟨v1, ev1, hf⟩ := Option.bind_eq_some_iff.mp hf
  refine ah_callS (As := [.int x1, .int x3]) (rest := []) K hG hL hl.1 (ctX10_has l H0 D ca M z x1 x3 v1 ev1) hdX10_has q_490 q_370 q_50 q_371 ⟨Nat.le_of_ble_eq_true rfl, Nat.le_of_ble_eq_true rfl⟩ rfl rfl (Nat.le_of_ble_eq_true rfl) ⟨Nat.le_refl _, Nat.le_refl _⟩ dX10_choicesBehind_66 (fun H locs hG hL => ?_)
  refine lv_if_eq (tgt := 99) K.1 K.2.1 dX10_choicesBehind_69 (by decide) (fun h2 => ?_) (fun h2 => ?_)
  · rw [if_pos h2] at hf
    refine lv_iload K.1 K.2.1 dX10_choicesBehind_99 (lv_at hl 4 rfl) ?_
    have hf := Option.some.inj hf
    subst hf
    exact ah_iret K hG hL (Nat.le_refl _) (Nat.le_refl _) dX10_choicesBehind_101
  · rw [if_neg h2] at hf
    refine lv_iload K.1 K.2.1 dX10_choicesBehind_72 (lv_at hl 4 rfl) ?_
    refine lv_iconst (v := 1) K.1 K.2.1 dX10_choicesBehind_74 (by decide) ?_
    refine lv_iload_n K.1 K.2.1 dX10_choicesBehind_75 rfl (lv_at hl 2 rfl) ?_
    refine lv_ishl K.1 K.2.1 dX10_choicesBehind_76 ?_
    refine lv_aload_n K.1 K.2.1 dX10_choicesBehind_77 rfl (lv_at hl 0 rfl) ?_
    obtain ⟨v3, ev3, hf⟩ := Option.bind_eq_some_iff.mp hf
    refine ah_getr K hG ev3 ffX10_10_10 dX10_choicesBehind_78 ?_
    refine lv_iload_n K.1 K.2.1 dX10_choicesBehind_81 rfl (lv_at hl 3 rfl) ?_
    obtain ⟨v4, ev4, hf⟩ := Option.bind_eq_some_iff.mp hf
    obtain ⟨q5, eq5⟩ := ah_this ev4
    refine ah_callV (As := [.int x3]) (rest := [.int ((1 : Int32) <<< (x2 &&& 31)), .int x4]) K hG hL hl.1 eq5 rfl (ctX2_isAlone l H0 D ca M z v3 x3 v4 ev4) hdX2_isAlone q_491 q_492 q_51 q_494 q_493 ⟨Nat.le_of_ble_eq_true rfl, Nat.le_of_ble_eq_true rfl⟩ rfl rfl (Nat.le_of_ble_eq_true rfl) ⟨Nat.le_refl _, Nat.le_refl _⟩ dX10_choicesBehind_82 (fun H locs hG hL => ?_)
    refine lv_if_eq (tgt := 92) K.1 K.2.1 dX10_choicesBehind_85 (by decide) (fun h6 => ?_) (fun h6 => ?_)
    · rw [if_pos h6] at hf
      refine lv_iconst (v := 1) K.1 K.2.1 dX10_choicesBehind_92 (by decide) ?_
      refine lv_iload_n K.1 K.2.1 dX10_choicesBehind_93 rfl (lv_at hl 3 rfl) ?_
      refine lv_ishl K.1 K.2.1 dX10_choicesBehind_94 ?_
      refine lv_ior K.1 K.2.1 dX10_choicesBehind_95 ?_
      refine lv_ior K.1 K.2.1 dX10_choicesBehind_96 ?_
      refine lv_istore (lv' := [(4, .int (x4 ||| (((1 : Int32) <<< (x2 &&& 31)) ||| ((1 : Int32) <<< (x3 &&& 31))))), (0, .ref a0), (1, .int x1), (2, .int x2), (3, .int x3)]) K.1 K.2.1 dX10_choicesBehind_97 hl (by decide) rfl (fun ls hl => ?_)
      refine lv_iload K.1 K.2.1 dX10_choicesBehind_99 (lv_at hl 0 rfl) ?_
      have hf := Option.some.inj hf
      subst hf
      exact ah_iret K hG hL (Nat.le_refl _) (Nat.le_refl _) dX10_choicesBehind_101
    · rw [if_neg h6] at hf
      refine lv_iconst (v := 0) K.1 K.2.1 dX10_choicesBehind_88 (by decide) ?_
      refine lv_goto (tgt := 95) K.1 K.2.1 dX10_choicesBehind_89 (by decide) ?_
      refine lv_ior K.1 K.2.1 dX10_choicesBehind_95 ?_
      refine lv_ior K.1 K.2.1 dX10_choicesBehind_96 ?_
      refine lv_istore (lv' := [(4, .int (x4 ||| (((1 : Int32) <<< (x2 &&& 31)) ||| 0))), (0, .ref a0), (1, .int x1), (2, .int x2), (3, .int x3)]) K.1 K.2.1 dX10_choicesBehind_97 hl (by decide) rfl (fun ls hl => ?_)
      refine lv_iload K.1 K.2.1 dX10_choicesBehind_99 (lv_at hl 0 rfl) ?_
      have hf := Option.some.inj hf
      subst hf
      exact ah_iret K hG hL (Nat.le_refl _) (Nat.le_refl _) dX10_choicesBehind_101
def fX10_choicesBehind_60   (M : ah_h) (a0 : Nat) (x1 : Int32) (x2 : Int32) (x3 : Int32) (s0 : Int32) (s1 : Int32) (s2 : Int32) : Option (Int32) := fX10_choicesBehind_64 M a0 x1 x2 x3 (s0 ||| (s1 ||| s2))
set_option maxRecDepth 100000 in
set_option maxHeartbeats 4000000 in
theorem wX10_choicesBehind_60 {p : Program} {l : Launch} {e : Env} {s : State} {m : MethodId} {args : Array Value} {below : List Frame} {meth : Method} {c : Code} {D : va_G} {ca : Nat → ClassId} {H0 : Heap} {M : ah_h} {z : Nat} (K : ah_K p s m args meth c D ca "ShipsThatMeet" cX10_choicesBehind 5 (some .int))   : ∀ (a0 : Nat) (x1 : Int32) (x2 : Int32) (x3 : Int32) (s0 : Int32) (s1 : Int32) (s2 : Int32)  (H : Heap) (locs : List Loc) (ls : Array Slot), ah_g H0 D ca M z H → ah_L H0 locs → lv_has ls 5 [(0, .ref a0), (1, .int x1), (2, .int x2), (3, .int x3)] → ∀ Z, fX10_choicesBehind_60   M a0 x1 x2 x3 s0 s1 s2 = some Z → W p l e { frames := 3, cells := 0, slots := 0, locals := 65 } s m args below meth c H locs 0 0 (ah_Q below args s H0 D ca 0 0 (some (.int Z)) M z) (F0 m 60 ls [.int s2, .int s1, .int s0]) := by
  intro a0 x1 x2 x3 s0 s1 s2 H locs ls hG hL hl Z hf
  unfold fX10_choicesBehind_60 at hf
  refine lv_ior K.1 K.2.1 dX10_choicesBehind_60 ?_
  refine lv_ior K.1 K.2.1 dX10_choicesBehind_61 ?_
  refine lv_istore (lv' := [(4, .int (s0 ||| (s1 ||| s2))), (0, .ref a0), (1, .int x1), (2, .int x2), (3, .int x3)]) K.1 K.2.1 dX10_choicesBehind_62 hl (by decide) rfl (fun ls hl => ?_)
  exact wX10_choicesBehind_64 K  a0 x1 x2 x3 (s0 ||| (s1 ||| s2)) _ _ _ hG hL (lv_sub hl [1, 2, 3, 4, 0] rfl) _ hf
def fX10_choicesBehind (M : ah_h) (a0 : Nat) (x1 : Int32) (x2 : Int32) (x3 : Int32) : Option (Int32) := (ah_ob M a0 10).bind fun _ => (ah_gr M a0 10 0).bind fun v1 => (fX2_canMeet M v1 x2 x3).bind fun v2 => if v2 = 0 then (some x1) else ((fX10_has M x1 x2).bind fun v5 => if v5 = 0 then (fX10_choicesBehind_64 M a0 x1 x2 x3 ((x1 &&& (((1 : Int32) <<< (x2 &&& 31)) ^^^ (-1))) &&& (((1 : Int32) <<< (x3 &&& 31)) ^^^ (-1)))) else ((ah_gr M a0 10 0).bind fun v7 => (fX2_isAlone M v7 x2).bind fun v8 => if v8 = 0 then (fX10_choicesBehind_60 M a0 x1 x2 x3 ((x1 &&& (((1 : Int32) <<< (x2 &&& 31)) ^^^ (-1))) &&& (((1 : Int32) <<< (x3 &&& 31)) ^^^ (-1))) ((1 : Int32) <<< (x3 &&& 31)) ((1 : Int32) <<< (x2 &&& 31))) else (fX10_choicesBehind_60 M a0 x1 x2 x3 ((x1 &&& (((1 : Int32) <<< (x2 &&& 31)) ^^^ (-1))) &&& (((1 : Int32) <<< (x3 &&& 31)) ^^^ (-1))) ((1 : Int32) <<< (x3 &&& 31)) 0)))
set_option maxRecDepth 100000 in
set_option maxHeartbeats 4000000 in
theorem ctX10_choicesBehind (l : Launch) (H0 : Heap) (D : va_G) (ca : Nat → ClassId) (M : ah_h) (z : Nat) (a0 : Nat) (x1 : Int32) (x2 : Int32) (x3 : Int32) (Z : Int32) (hf : fX10_choicesBehind M a0 x1 x2 x3 = some Z) : ah_ct l H0 D ca yX10_choicesBehind cX10_choicesBehind 5 (some .int) 3 65 0 0 [.ref a0, .int x1, .int x2, .int x3] M z (some (.int Z)) M z := by
  refine ah_of (by decide) (Nat.le_of_ble_eq_true rfl) ?_
  intro p e s m below meth c ls hin K hG hl
  have hL : ah_L H0 [] := ah_L.nil
  have hl : lv_has ls 5 [(0, .ref a0), (1, .int x1), (2, .int x2), (3, .int x3)] := hl
  unfold fX10_choicesBehind at hf
  obtain ⟨-, -, hf⟩ := Option.bind_eq_some_iff.mp hf
  refine lv_aload_n K.1 K.2.1 dX10_choicesBehind_0 rfl (lv_at hl 0 rfl) ?_
  obtain ⟨v1, ev1, hf⟩ := Option.bind_eq_some_iff.mp hf
  refine ah_getr K hG ev1 ffX10_10_10 dX10_choicesBehind_1 ?_
  refine lv_iload_n K.1 K.2.1 dX10_choicesBehind_4 rfl (lv_at hl 2 rfl) ?_
  refine lv_iload_n K.1 K.2.1 dX10_choicesBehind_5 rfl (lv_at hl 3 rfl) ?_
  obtain ⟨v2, ev2, hf⟩ := Option.bind_eq_some_iff.mp hf
  obtain ⟨q3, eq3⟩ := ah_this ev2
  refine ah_callV (As := [.int x2, .int x3]) (rest := []) K hG hL hl.1 eq3 rfl (ctX2_canMeet l H0 D ca M z v1 x2 x3 v2 ev2) hdX2_canMeet q_449 q_345 q_51 q_347 q_346 ⟨Nat.le_of_ble_eq_true rfl, Nat.le_of_ble_eq_true rfl⟩ rfl rfl (Nat.le_of_ble_eq_true rfl) ⟨Nat.le_refl _, Nat.le_refl _⟩ dX10_choicesBehind_6 (fun H locs hG hL => ?_)
  refine lv_if_ne (tgt := 14) K.1 K.2.1 dX10_choicesBehind_9 (by decide) (fun h4 => ?_) (fun h4 => ?_)
  · rw [if_neg h4] at hf
    refine lv_iload_n K.1 K.2.1 dX10_choicesBehind_14 rfl (lv_at hl 1 rfl) ?_
    refine lv_iconst (v := 1) K.1 K.2.1 dX10_choicesBehind_15 (by decide) ?_
    refine lv_iload_n K.1 K.2.1 dX10_choicesBehind_16 rfl (lv_at hl 2 rfl) ?_
    refine lv_ishl K.1 K.2.1 dX10_choicesBehind_17 ?_
    refine lv_iconst (v := (-1)) K.1 K.2.1 dX10_choicesBehind_18 (by decide) ?_
    refine lv_ixor K.1 K.2.1 dX10_choicesBehind_19 ?_
    refine lv_iand K.1 K.2.1 dX10_choicesBehind_20 ?_
    refine lv_iconst (v := 1) K.1 K.2.1 dX10_choicesBehind_21 (by decide) ?_
    refine lv_iload_n K.1 K.2.1 dX10_choicesBehind_22 rfl (lv_at hl 3 rfl) ?_
    refine lv_ishl K.1 K.2.1 dX10_choicesBehind_23 ?_
    refine lv_iconst (v := (-1)) K.1 K.2.1 dX10_choicesBehind_24 (by decide) ?_
    refine lv_ixor K.1 K.2.1 dX10_choicesBehind_25 ?_
    refine lv_iand K.1 K.2.1 dX10_choicesBehind_26 ?_
    refine lv_istore (lv' := [(4, .int ((x1 &&& (((1 : Int32) <<< (x2 &&& 31)) ^^^ (-1))) &&& (((1 : Int32) <<< (x3 &&& 31)) ^^^ (-1)))), (0, .ref a0), (1, .int x1), (2, .int x2), (3, .int x3)]) K.1 K.2.1 dX10_choicesBehind_27 hl (by decide) rfl (fun ls hl => ?_)
    refine lv_iload_n K.1 K.2.1 dX10_choicesBehind_29 rfl (lv_at hl 2 rfl) ?_
    refine lv_iload_n K.1 K.2.1 dX10_choicesBehind_30 rfl (lv_at hl 3 rfl) ?_
    obtain ⟨v5, ev5, hf⟩ := Option.bind_eq_some_iff.mp hf
    refine ah_callS (As := [.int x1, .int x2]) (rest := []) K hG hL hl.1 (ctX10_has l H0 D ca M z x1 x2 v5 ev5) hdX10_has q_490 q_370 q_50 q_371 ⟨Nat.le_of_ble_eq_true rfl, Nat.le_of_ble_eq_true rfl⟩ rfl rfl (Nat.le_of_ble_eq_true rfl) ⟨Nat.le_refl _, Nat.le_refl _⟩ dX10_choicesBehind_31 (fun H locs hG hL => ?_)
    refine lv_if_eq (tgt := 64) K.1 K.2.1 dX10_choicesBehind_34 (by decide) (fun h6 => ?_) (fun h6 => ?_)
    · rw [if_pos h6] at hf
      exact wX10_choicesBehind_64 K  a0 x1 x2 x3 ((x1 &&& (((1 : Int32) <<< (x2 &&& 31)) ^^^ (-1))) &&& (((1 : Int32) <<< (x3 &&& 31)) ^^^ (-1))) _ _ _ hG hL (lv_sub hl [1, 2, 3, 4, 0] rfl) _ hf
    · rw [if_neg h6] at hf
      refine lv_iload K.1 K.2.1 dX10_choicesBehind_37 (lv_at hl 0 rfl) ?_
      refine lv_iconst (v := 1) K.1 K.2.1 dX10_choicesBehind_39 (by decide) ?_
      refine lv_iload_n K.1 K.2.1 dX10_choicesBehind_40 rfl (lv_at hl 4 rfl) ?_
      refine lv_ishl K.1 K.2.1 dX10_choicesBehind_41 ?_
      refine lv_aload_n K.1 K.2.1 dX10_choicesBehind_42 rfl (lv_at hl 1 rfl) ?_
      obtain ⟨v7, ev7, hf⟩ := Option.bind_eq_some_iff.mp hf
      refine ah_getr K hG ev7 ffX10_10_10 dX10_choicesBehind_43 ?_
      refine lv_iload_n K.1 K.2.1 dX10_choicesBehind_46 rfl (lv_at hl 3 rfl) ?_
      obtain ⟨v8, ev8, hf⟩ := Option.bind_eq_some_iff.mp hf
      obtain ⟨q9, eq9⟩ := ah_this ev8
      refine ah_callV (As := [.int x2]) (rest := [.int ((1 : Int32) <<< (x3 &&& 31)), .int ((x1 &&& (((1 : Int32) <<< (x2 &&& 31)) ^^^ (-1))) &&& (((1 : Int32) <<< (x3 &&& 31)) ^^^ (-1)))]) K hG hL hl.1 eq9 rfl (ctX2_isAlone l H0 D ca M z v7 x2 v8 ev8) hdX2_isAlone q_491 q_492 q_51 q_494 q_493 ⟨Nat.le_of_ble_eq_true rfl, Nat.le_of_ble_eq_true rfl⟩ rfl rfl (Nat.le_of_ble_eq_true rfl) ⟨Nat.le_refl _, Nat.le_refl _⟩ dX10_choicesBehind_47 (fun H locs hG hL => ?_)
      refine lv_if_eq (tgt := 57) K.1 K.2.1 dX10_choicesBehind_50 (by decide) (fun h10 => ?_) (fun h10 => ?_)
      · rw [if_pos h10] at hf
        refine lv_iconst (v := 1) K.1 K.2.1 dX10_choicesBehind_57 (by decide) ?_
        refine lv_iload_n K.1 K.2.1 dX10_choicesBehind_58 rfl (lv_at hl 3 rfl) ?_
        refine lv_ishl K.1 K.2.1 dX10_choicesBehind_59 ?_
        exact wX10_choicesBehind_60 K  a0 x1 x2 x3 ((x1 &&& (((1 : Int32) <<< (x2 &&& 31)) ^^^ (-1))) &&& (((1 : Int32) <<< (x3 &&& 31)) ^^^ (-1))) ((1 : Int32) <<< (x3 &&& 31)) ((1 : Int32) <<< (x2 &&& 31)) _ _ _ hG hL (lv_sub hl [1, 2, 3, 4] rfl) _ hf
      · rw [if_neg h10] at hf
        refine lv_iconst (v := 0) K.1 K.2.1 dX10_choicesBehind_53 (by decide) ?_
        refine lv_goto (tgt := 60) K.1 K.2.1 dX10_choicesBehind_54 (by decide) ?_
        exact wX10_choicesBehind_60 K  a0 x1 x2 x3 ((x1 &&& (((1 : Int32) <<< (x2 &&& 31)) ^^^ (-1))) &&& (((1 : Int32) <<< (x3 &&& 31)) ^^^ (-1))) ((1 : Int32) <<< (x3 &&& 31)) 0 _ _ _ hG hL (lv_sub hl [1, 2, 3, 4] rfl) _ hf
  · rw [if_pos h4] at hf
    refine lv_iload_n K.1 K.2.1 dX10_choicesBehind_12 rfl (lv_at hl 1 rfl) ?_
    have hf := Option.some.inj hf
    subst hf
    exact ah_iret K hG hL (Nat.le_refl _) (Nat.le_refl _) dX10_choicesBehind_13
def fX10_spreadChances_54_b   (k54 : ah_h → Nat → Int32 → Int32 → Int64 → Int64 → Int64 → Int64 → Int64 → Int32 → Option (Int64 × ah_h))  (M : ah_h) (a0 : Nat) (x1 : Int32) (x2 : Int32) (y3 : Int64) (y5 : Int64) (y7 : Int64) (y9 : Int64) (y11 : Int64) (x13 : Int32) : Option (Int64 × ah_h) := if 5 ≤ x13 then ((ah_gr M a0 10 7).bind fun v2 => (ah_sj M v2 x1 (((y9 * (y3 - 1)) * y5) + (y11 * y3))).bind fun M3 => (ah_gr M3 a0 10 7).bind fun v4 => (ah_sj M3 v4 x2 (((y11 * (y5 - 1)) * y3) + (y9 * y5))).bind fun M5 => some (y7, M5)) else ((ah_gr M a0 10 7).bind fun v6 => (ah_aj M v6 x13).bind fun v7 => (ah_sj M v6 x13 (v7 * y7)).bind fun M8 => k54 M8 a0 x1 x2 y3 y5 y7 y9 y11 (x13 + 1))
def fX10_spreadChances_54    : Nat → ah_h → Nat → Int32 → Int32 → Int64 → Int64 → Int64 → Int64 → Int64 → Int32 → Option (Int64 × ah_h)
  | 0 => fun _ _ _ _ _ _ _ _ _ _ => none
  | n + 1 => fun M a0 x1 x2 y3 y5 y7 y9 y11 x13 => fX10_spreadChances_54_b   (fX10_spreadChances_54    n)  M a0 x1 x2 y3 y5 y7 y9 y11 x13
set_option maxRecDepth 100000 in
set_option maxHeartbeats 4000000 in
theorem wX10_spreadChances_54_b {p : Program} {l : Launch} {e : Env} {s : State} {m : MethodId} {args : Array Value} {below : List Frame} {meth : Method} {c : Code} {D : va_G} {ca : Nat → ClassId} {H0 : Heap} {z : Nat} (K : ah_K p s m args meth c D ca "ShipsThatMeet" cX10_spreadChances 14 (some .long))   (k54 : ah_h → Nat → Int32 → Int32 → Int64 → Int64 → Int64 → Int64 → Int64 → Int32 → Option (Int64 × ah_h)) (hk54 : ∀ (M : ah_h) (a0 : Nat) (x1 : Int32) (x2 : Int32) (y3 : Int64) (y5 : Int64) (y7 : Int64) (y9 : Int64) (y11 : Int64) (x13 : Int32)  (H : Heap) (locs : List Loc) (ls : Array Slot), ah_g H0 D ca M z H → ah_L H0 locs → lv_has ls 14 [(0, .ref a0), (1, .int x1), (2, .int x2), (3, .long y3), (5, .long y5), (7, .long y7), (9, .long y9), (11, .long y11), (13, .int x13)] → ∀ Z, k54 M a0 x1 x2 y3 y5 y7 y9 y11 x13 = some Z → W p l e { frames := 1, cells := 0, slots := 0, locals := 20 } s m args below meth c H locs 0 0 (ah_Q below args s H0 D ca 0 0 (some (.long Z.1)) Z.2 z) (F0 m 54 ls [])) : ∀ (M : ah_h) (a0 : Nat) (x1 : Int32) (x2 : Int32) (y3 : Int64) (y5 : Int64) (y7 : Int64) (y9 : Int64) (y11 : Int64) (x13 : Int32)  (H : Heap) (locs : List Loc) (ls : Array Slot), ah_g H0 D ca M z H → ah_L H0 locs → lv_has ls 14 [(0, .ref a0), (1, .int x1), (2, .int x2), (3, .long y3), (5, .long y5), (7, .long y7), (9, .long y9), (11, .long y11), (13, .int x13)] → ∀ Z, fX10_spreadChances_54_b   k54  M a0 x1 x2 y3 y5 y7 y9 y11 x13 = some Z → W p l e { frames := 1, cells := 0, slots := 0, locals := 20 } s m args below meth c H locs 0 0 (ah_Q below args s H0 D ca 0 0 (some (.long Z.1)) Z.2 z) (F0 m 54 ls []) := by
  intro M a0 x1 x2 y3 y5 y7 y9 y11 x13 H locs ls hG hL hl Z hf
  unfold fX10_spreadChances_54_b at hf
  refine lv_iload K.1 K.2.1 dX10_spreadChances_54 (lv_at hl 8 rfl) ?_
  refine lv_iconst (v := 5) K.1 K.2.1 dX10_spreadChances_56 (by decide) ?_
  refine lv_icmp_ge (tgt := 78) K.1 K.2.1 dX10_spreadChances_57 (by decide) (fun h1 => ?_) (fun h1 => ?_)
  · rw [if_pos h1] at hf
    refine lv_aload_n K.1 K.2.1 dX10_spreadChances_78 rfl (lv_at hl 0 rfl) ?_
    obtain ⟨v2, ev2, hf⟩ := Option.bind_eq_some_iff.mp hf
    refine ah_getr K hG ev2 ffX10_42_10 dX10_spreadChances_79 ?_
    refine lv_iload_n K.1 K.2.1 dX10_spreadChances_82 rfl (lv_at hl 1 rfl) ?_
    refine lv_lload K.1 K.2.1 dX10_spreadChances_83 (lv_at hl 6 rfl) ?_
    refine lv_lload_n K.1 K.2.1 dX10_spreadChances_85 rfl (lv_at hl 3 rfl) ?_
    refine lv_lconst (v := 1) K.1 K.2.1 dX10_spreadChances_86 (by decide) ?_
    refine lv_lsub K.1 K.2.1 dX10_spreadChances_87 ?_
    refine lv_lmul K.1 K.2.1 dX10_spreadChances_88 ?_
    refine lv_lload K.1 K.2.1 dX10_spreadChances_89 (lv_at hl 4 rfl) ?_
    refine lv_lmul K.1 K.2.1 dX10_spreadChances_91 ?_
    refine lv_lload K.1 K.2.1 dX10_spreadChances_92 (lv_at hl 7 rfl) ?_
    refine lv_lload_n K.1 K.2.1 dX10_spreadChances_94 rfl (lv_at hl 3 rfl) ?_
    refine lv_lmul K.1 K.2.1 dX10_spreadChances_95 ?_
    refine lv_ladd K.1 K.2.1 dX10_spreadChances_96 ?_
    obtain ⟨M3, eM3, hf⟩ := Option.bind_eq_some_iff.mp hf
    refine ah_last K hG hL eM3 dX10_spreadChances_97 (fun H locs hG hL => ?_)
    refine lv_aload_n K.1 K.2.1 dX10_spreadChances_98 rfl (lv_at hl 0 rfl) ?_
    obtain ⟨v4, ev4, hf⟩ := Option.bind_eq_some_iff.mp hf
    refine ah_getr K hG ev4 ffX10_42_10 dX10_spreadChances_99 ?_
    refine lv_iload_n K.1 K.2.1 dX10_spreadChances_102 rfl (lv_at hl 2 rfl) ?_
    refine lv_lload K.1 K.2.1 dX10_spreadChances_103 (lv_at hl 7 rfl) ?_
    refine lv_lload K.1 K.2.1 dX10_spreadChances_105 (lv_at hl 4 rfl) ?_
    refine lv_lconst (v := 1) K.1 K.2.1 dX10_spreadChances_107 (by decide) ?_
    refine lv_lsub K.1 K.2.1 dX10_spreadChances_108 ?_
    refine lv_lmul K.1 K.2.1 dX10_spreadChances_109 ?_
    refine lv_lload_n K.1 K.2.1 dX10_spreadChances_110 rfl (lv_at hl 3 rfl) ?_
    refine lv_lmul K.1 K.2.1 dX10_spreadChances_111 ?_
    refine lv_lload K.1 K.2.1 dX10_spreadChances_112 (lv_at hl 6 rfl) ?_
    refine lv_lload K.1 K.2.1 dX10_spreadChances_114 (lv_at hl 4 rfl) ?_
    refine lv_lmul K.1 K.2.1 dX10_spreadChances_116 ?_
    refine lv_ladd K.1 K.2.1 dX10_spreadChances_117 ?_
    obtain ⟨M5, eM5, hf⟩ := Option.bind_eq_some_iff.mp hf
    refine ah_last K hG hL eM5 dX10_spreadChances_118 (fun H locs hG hL => ?_)
    refine lv_lload K.1 K.2.1 dX10_spreadChances_119 (lv_at hl 5 rfl) ?_
    have hf := Option.some.inj hf
    subst hf
    exact ah_lret K hG hL (Nat.le_refl _) (Nat.le_refl _) dX10_spreadChances_121
  · rw [if_neg h1] at hf
    refine lv_aload_n K.1 K.2.1 dX10_spreadChances_60 rfl (lv_at hl 0 rfl) ?_
    obtain ⟨v6, ev6, hf⟩ := Option.bind_eq_some_iff.mp hf
    refine ah_getr K hG ev6 ffX10_42_10 dX10_spreadChances_61 ?_
    refine lv_iload K.1 K.2.1 dX10_spreadChances_64 (lv_at hl 8 rfl) ?_
    refine lv_dup2_11 K.1 K.2.1 dX10_spreadChances_66 rfl rfl ?_
    obtain ⟨v7, ev7, hf⟩ := Option.bind_eq_some_iff.mp hf
    refine ah_lald K hG ev7 dX10_spreadChances_67 ?_
    refine lv_lload K.1 K.2.1 dX10_spreadChances_68 (lv_at hl 5 rfl) ?_
    refine lv_lmul K.1 K.2.1 dX10_spreadChances_70 ?_
    obtain ⟨M8, eM8, hf⟩ := Option.bind_eq_some_iff.mp hf
    refine ah_last K hG hL eM8 dX10_spreadChances_71 (fun H locs hG hL => ?_)
    refine lv_iinc (v := x13 + 1) (lv' := [(13, .int (x13 + 1)), (0, .ref a0), (1, .int x1), (2, .int x2), (3, .long y3), (5, .long y5), (7, .long y7), (9, .long y9), (11, .long y11)]) K.1 K.2.1 dX10_spreadChances_72 hl (k := 8) rfl rfl (by decide) rfl (fun ls hl => ?_)
    refine lv_goto (tgt := 54) K.1 K.2.1 dX10_spreadChances_75 (by decide) ?_
    exact hk54 M8 a0 x1 x2 y3 y5 y7 y9 y11 (x13 + 1) _ _ _ hG hL (lv_sub hl [1, 2, 3, 4, 5, 6, 7, 8, 0] rfl) _ hf
theorem wX10_spreadChances_54 {p : Program} {l : Launch} {e : Env} {s : State} {m : MethodId} {args : Array Value} {below : List Frame} {meth : Method} {c : Code} {D : va_G} {ca : Nat → ClassId} {H0 : Heap} {z : Nat} (K : ah_K p s m args meth c D ca "ShipsThatMeet" cX10_spreadChances 14 (some .long))   (n : Nat) : ∀ (M : ah_h) (a0 : Nat) (x1 : Int32) (x2 : Int32) (y3 : Int64) (y5 : Int64) (y7 : Int64) (y9 : Int64) (y11 : Int64) (x13 : Int32)  (H : Heap) (locs : List Loc) (ls : Array Slot), ah_g H0 D ca M z H → ah_L H0 locs → lv_has ls 14 [(0, .ref a0), (1, .int x1), (2, .int x2), (3, .long y3), (5, .long y5), (7, .long y7), (9, .long y9), (11, .long y11), (13, .int x13)] → ∀ Z, fX10_spreadChances_54    n M a0 x1 x2 y3 y5 y7 y9 y11 x13 = some Z → W p l e { frames := 1, cells := 0, slots := 0, locals := 20 } s m args below meth c H locs 0 0 (ah_Q below args s H0 D ca 0 0 (some (.long Z.1)) Z.2 z) (F0 m 54 ls []) := by
  induction n with
  | zero => intro M a0 x1 x2 y3 y5 y7 y9 y11 x13 H locs ls hG hL hl Z hf; cases hf
  | succ n ih => exact wX10_spreadChances_54_b K  _ ih
def fX10_spreadChances (M : ah_h) (a0 : Nat) (x1 : Int32) (x2 : Int32) : Option (Int64 × ah_h) := (ah_ob M a0 10).bind fun _ => (ah_gr M a0 10 0).bind fun v1 => (ah_gr M v1 2 4).bind fun v2 => (ah_ai M v2 x1).bind fun v3 => (fJ6_bitCount_0f7a4 M v3).bind fun v4 => (ah_gr M a0 10 0).bind fun v5 => (ah_gr M v5 2 4).bind fun v6 => (ah_ai M v6 x2).bind fun v7 => (fJ6_bitCount_0f7a4 M v7).bind fun v8 => (ah_gr M a0 10 7).bind fun v9 => (ah_aj M v9 x1).bind fun v10 => (ah_gr M a0 10 7).bind fun v11 => (ah_aj M v11 x2).bind fun v12 => fX10_spreadChances_54 ah_fu M a0 x1 x2 v4.toInt64 v8.toInt64 (v4.toInt64 * v8.toInt64) v10 v12 0
set_option maxRecDepth 100000 in
set_option maxHeartbeats 4000000 in
theorem ctX10_spreadChances (l : Launch) (H0 : Heap) (D : va_G) (ca : Nat → ClassId) (M : ah_h) (z : Nat) (a0 : Nat) (x1 : Int32) (x2 : Int32) (Z : Int64 × ah_h) (hf : fX10_spreadChances M a0 x1 x2 = some Z) : ah_ct l H0 D ca yX10_spreadChances cX10_spreadChances 14 (some .long) 1 20 0 0 [.ref a0, .int x1, .int x2] M z (some (.long Z.1)) Z.2 z := by
  refine ah_of (by decide) (Nat.le_of_ble_eq_true rfl) ?_
  intro p e s m below meth c ls hin K hG hl
  have hL : ah_L H0 [] := ah_L.nil
  have hl : lv_has ls 14 [(0, .ref a0), (1, .int x1), (2, .int x2)] := hl
  unfold fX10_spreadChances at hf
  obtain ⟨-, -, hf⟩ := Option.bind_eq_some_iff.mp hf
  refine lv_aload_n K.1 K.2.1 dX10_spreadChances_0 rfl (lv_at hl 0 rfl) ?_
  obtain ⟨v1, ev1, hf⟩ := Option.bind_eq_some_iff.mp hf
  refine ah_getr K hG ev1 ffX10_10_10 dX10_spreadChances_1 ?_
  obtain ⟨v2, ev2, hf⟩ := Option.bind_eq_some_iff.mp hf
  refine ah_getr K hG ev2 ffX10_88_2 dX10_spreadChances_4 ?_
  refine lv_iload_n K.1 K.2.1 dX10_spreadChances_7 rfl (lv_at hl 1 rfl) ?_
  obtain ⟨v3, ev3, hf⟩ := Option.bind_eq_some_iff.mp hf
  refine ah_iald K hG ev3 dX10_spreadChances_8 ?_
  obtain ⟨v4, ev4, hf⟩ := Option.bind_eq_some_iff.mp hf
  refine ah_callS (As := [.int v3]) (rest := []) K hG hL hl.1 (ctJ6_bitCount_0f7a4 l H0 D ca M z v3 v4 ev4) hdJ6_bitCount_0f7a4 q_429 q_389 q_62 q_390 ⟨Nat.le_of_ble_eq_true rfl, Nat.le_of_ble_eq_true rfl⟩ rfl rfl (Nat.le_of_ble_eq_true rfl) ⟨Nat.le_refl _, Nat.le_refl _⟩ dX10_spreadChances_9 (fun H locs hG hL => ?_)
  refine lv_i2l (v := v4.toInt64) K.1 K.2.1 dX10_spreadChances_12 rfl ?_
  refine lv_lstore_n (lv' := [(3, .long v4.toInt64), (0, .ref a0), (1, .int x1), (2, .int x2)]) K.1 K.2.1 dX10_spreadChances_13 rfl hl (by decide) rfl (fun ls hl => ?_)
  refine lv_aload_n K.1 K.2.1 dX10_spreadChances_14 rfl (lv_at hl 1 rfl) ?_
  obtain ⟨v5, ev5, hf⟩ := Option.bind_eq_some_iff.mp hf
  refine ah_getr K hG ev5 ffX10_10_10 dX10_spreadChances_15 ?_
  obtain ⟨v6, ev6, hf⟩ := Option.bind_eq_some_iff.mp hf
  refine ah_getr K hG ev6 ffX10_88_2 dX10_spreadChances_18 ?_
  refine lv_iload_n K.1 K.2.1 dX10_spreadChances_21 rfl (lv_at hl 3 rfl) ?_
  obtain ⟨v7, ev7, hf⟩ := Option.bind_eq_some_iff.mp hf
  refine ah_iald K hG ev7 dX10_spreadChances_22 ?_
  obtain ⟨v8, ev8, hf⟩ := Option.bind_eq_some_iff.mp hf
  refine ah_callS (As := [.int v7]) (rest := []) K hG hL hl.1 (ctJ6_bitCount_0f7a4 l H0 D ca M z v7 v8 ev8) hdJ6_bitCount_0f7a4 q_429 q_389 q_62 q_390 ⟨Nat.le_of_ble_eq_true rfl, Nat.le_of_ble_eq_true rfl⟩ rfl rfl (Nat.le_of_ble_eq_true rfl) ⟨Nat.le_refl _, Nat.le_refl _⟩ dX10_spreadChances_23 (fun H locs hG hL => ?_)
  refine lv_i2l (v := v8.toInt64) K.1 K.2.1 dX10_spreadChances_26 rfl ?_
  refine lv_lstore (lv' := [(5, .long v8.toInt64), (3, .long v4.toInt64), (0, .ref a0), (1, .int x1), (2, .int x2)]) K.1 K.2.1 dX10_spreadChances_27 hl (by decide) rfl (fun ls hl => ?_)
  refine lv_lload_n K.1 K.2.1 dX10_spreadChances_29 rfl (lv_at hl 1 rfl) ?_
  refine lv_lload K.1 K.2.1 dX10_spreadChances_30 (lv_at hl 0 rfl) ?_
  refine lv_lmul K.1 K.2.1 dX10_spreadChances_32 ?_
  refine lv_lstore (lv' := [(7, .long (v4.toInt64 * v8.toInt64)), (5, .long v8.toInt64), (3, .long v4.toInt64), (0, .ref a0), (1, .int x1), (2, .int x2)]) K.1 K.2.1 dX10_spreadChances_33 hl (by decide) rfl (fun ls hl => ?_)
  refine lv_aload_n K.1 K.2.1 dX10_spreadChances_35 rfl (lv_at hl 3 rfl) ?_
  obtain ⟨v9, ev9, hf⟩ := Option.bind_eq_some_iff.mp hf
  refine ah_getr K hG ev9 ffX10_42_10 dX10_spreadChances_36 ?_
  refine lv_iload_n K.1 K.2.1 dX10_spreadChances_39 rfl (lv_at hl 4 rfl) ?_
  obtain ⟨v10, ev10, hf⟩ := Option.bind_eq_some_iff.mp hf
  refine ah_lald K hG ev10 dX10_spreadChances_40 ?_
  refine lv_lstore (lv' := [(9, .long v10), (7, .long (v4.toInt64 * v8.toInt64)), (5, .long v8.toInt64), (3, .long v4.toInt64), (0, .ref a0), (1, .int x1), (2, .int x2)]) K.1 K.2.1 dX10_spreadChances_41 hl (by decide) rfl (fun ls hl => ?_)
  refine lv_aload_n K.1 K.2.1 dX10_spreadChances_43 rfl (lv_at hl 4 rfl) ?_
  obtain ⟨v11, ev11, hf⟩ := Option.bind_eq_some_iff.mp hf
  refine ah_getr K hG ev11 ffX10_42_10 dX10_spreadChances_44 ?_
  refine lv_iload_n K.1 K.2.1 dX10_spreadChances_47 rfl (lv_at hl 6 rfl) ?_
  obtain ⟨v12, ev12, hf⟩ := Option.bind_eq_some_iff.mp hf
  refine ah_lald K hG ev12 dX10_spreadChances_48 ?_
  refine lv_lstore (lv' := [(11, .long v12), (9, .long v10), (7, .long (v4.toInt64 * v8.toInt64)), (5, .long v8.toInt64), (3, .long v4.toInt64), (0, .ref a0), (1, .int x1), (2, .int x2)]) K.1 K.2.1 dX10_spreadChances_49 hl (by decide) rfl (fun ls hl => ?_)
  refine lv_iconst (v := 0) K.1 K.2.1 dX10_spreadChances_51 (by decide) ?_
  refine lv_istore (lv' := [(13, .int 0), (11, .long v12), (9, .long v10), (7, .long (v4.toInt64 * v8.toInt64)), (5, .long v8.toInt64), (3, .long v4.toInt64), (0, .ref a0), (1, .int x1), (2, .int x2)]) K.1 K.2.1 dX10_spreadChances_52 hl (by decide) rfl (fun ls hl => ?_)
  exact wX10_spreadChances_54 K  ah_fu M a0 x1 x2 v4.toInt64 v8.toInt64 (v4.toInt64 * v8.toInt64) v10 v12 0 _ _ _ hG hL (lv_sub hl [6, 7, 8, 5, 4, 3, 2, 1, 0] rfl) _ hf
def fX10_captainOf (M : ah_h) (z : Nat) (x0 : Int32) (x1 : Int32) : Option (Nat × ah_h × Nat) := if x0 = 1 then ((fX4_init (ah_up M z (ah_O 4 [.int 0, .int 0])) z x1).bind fun v2 => some (z, v2, (z + 1))) else if x0 = 2 then ((fX5_init (ah_up M z (ah_O 5 [.int 0, .int 0])) z x0 x1).bind fun v4 => some (z, v4, (z + 1))) else if x0 = 3 then ((fX6_init (ah_up M z (ah_O 6 [.int 0, .int 0])) z x0 x1).bind fun v6 => some (z, v6, (z + 1))) else if x0 = 4 then ((fX9_init (ah_up M z (ah_O 9 [.int 0, .int 0])) z x0 x1).bind fun v8 => some (z, v8, (z + 1))) else if x0 = 5 then ((fX0_init (ah_up M z (ah_O 0 [.int 0, .int 0])) z x1).bind fun v10 => some (z, v10, (z + 1))) else if x0 = 6 then ((fX8_init (ah_up M z (ah_O 8 [.int 0, .int 0])) z x1).bind fun v12 => some (z, v12, (z + 1))) else if x0 = 7 then ((fX3_init (ah_up M z (ah_O 3 [.int 0, .int 0])) z x1).bind fun v14 => some (z, v14, (z + 1))) else ((fX1_init (ah_up M z (ah_O 1 [.int 0, .int 0])) z 0 x1).bind fun v15 => some (z, v15, (z + 1)))
set_option maxRecDepth 100000 in
set_option maxHeartbeats 4000000 in
theorem ctX10_captainOf (l : Launch) (H0 : Heap) (D : va_G) (ca : Nat → ClassId) (M : ah_h) (z : Nat) (x0 : Int32) (x1 : Int32) (Z : Nat × ah_h × Nat) (hf : fX10_captainOf M z x0 x1 = some Z) : ah_ct l H0 D ca yX10_captainOf cX10_captainOf 2 (some (.object "ShipsThatMeet$Captain")) 5 107 1 2 [.int x0, .int x1] M z (some (.ref Z.1)) Z.2.1 Z.2.2 := by
  refine ah_of (by decide) (Nat.le_of_ble_eq_true rfl) ?_
  intro p e s m below meth c ls hin K hG hl
  have hL : ah_L H0 [] := ah_L.nil
  have hl : lv_has ls 2 [(0, .int x0), (1, .int x1)] := hl
  unfold fX10_captainOf at hf
  refine lv_iload_n K.1 K.2.1 dX10_captainOf_0 rfl (lv_at hl 0 rfl) ?_
  by_cases h1 : x0 = 1
  · rw [if_pos h1] at hf
    refine lv_tableIn (off := 43) (tgt := 44) K.1 K.2.1 dX10_captainOf_1 (by rw [h1]; decide) (by rw [h1]; decide) (by rw [h1]; rfl) (by decide) ?_
    refine ah_new (ci := 4) (C := "ShipsThatMeet$Lot") (T := TX4) (N := 2) K hG tyX4 rfl tyX4_ok inX4 q_259 q_260 q_55 [.int 0, .int 0] (fun j hj => by rcases (show j = 0 ∨ j = 1 by omega) with rfl | rfl <;> rfl) (by show _ ≤ 1; omega) (by show _ ≤ 2; omega) dX10_captainOf_44 (fun H hG => ?_)
    refine lv_dup K.1 K.2.1 dX10_captainOf_47 rfl ?_
    refine lv_iload_n K.1 K.2.1 dX10_captainOf_48 rfl (lv_at hl 1 rfl) ?_
    obtain ⟨v2, ev2, hf⟩ := Option.bind_eq_some_iff.mp hf
    refine ah_callI (As := [.int x1]) (rest := [.ref z]) K hG hL hl.1 (ctX4_init l H0 D ca (ah_up M z (ah_O 4 [.int 0, .int 0])) (z + 1) z x1 v2 ev2) rfl hdX4_init q_261 q_262 q_55 q_263 ⟨Nat.le_of_ble_eq_true rfl, Nat.le_of_ble_eq_true rfl⟩ rfl rfl (Nat.le_of_ble_eq_true rfl) ⟨by show _ ≤ 1; omega, by show _ ≤ 2; omega⟩ dX10_captainOf_49 (fun H locs hG hL => ?_)
    have hf := Option.some.inj hf
    subst hf
    exact ah_aret K hG hL (by omega) (by omega) dX10_captainOf_52
  rw [if_neg h1] at hf
  by_cases h3 : x0 = 2
  · rw [if_pos h3] at hf
    refine lv_tableIn (off := 52) (tgt := 53) K.1 K.2.1 dX10_captainOf_1 (by rw [h3]; decide) (by rw [h3]; decide) (by rw [h3]; rfl) (by decide) ?_
    refine ah_new (ci := 5) (C := "ShipsThatMeet$New") (T := TX5) (N := 2) K hG tyX5 rfl tyX5_ok inX5 q_268 q_269 q_56 [.int 0, .int 0] (fun j hj => by rcases (show j = 0 ∨ j = 1 by omega) with rfl | rfl <;> rfl) (by show _ ≤ 1; omega) (by show _ ≤ 2; omega) dX10_captainOf_53 (fun H hG => ?_)
    refine lv_dup K.1 K.2.1 dX10_captainOf_56 rfl ?_
    refine lv_iload_n K.1 K.2.1 dX10_captainOf_57 rfl (lv_at hl 0 rfl) ?_
    refine lv_iload_n K.1 K.2.1 dX10_captainOf_58 rfl (lv_at hl 1 rfl) ?_
    obtain ⟨v4, ev4, hf⟩ := Option.bind_eq_some_iff.mp hf
    refine ah_callI (As := [.int x0, .int x1]) (rest := [.ref z]) K hG hL hl.1 (ctX5_init l H0 D ca (ah_up M z (ah_O 5 [.int 0, .int 0])) (z + 1) z x0 x1 v4 ev4) rfl hdX5_init q_270 q_271 q_56 q_272 ⟨Nat.le_of_ble_eq_true rfl, Nat.le_of_ble_eq_true rfl⟩ rfl rfl (Nat.le_of_ble_eq_true rfl) ⟨by show _ ≤ 1; omega, by show _ ≤ 2; omega⟩ dX10_captainOf_59 (fun H locs hG hL => ?_)
    have hf := Option.some.inj hf
    subst hf
    exact ah_aret K hG hL (by omega) (by omega) dX10_captainOf_62
  rw [if_neg h3] at hf
  by_cases h5 : x0 = 3
  · rw [if_pos h5] at hf
    refine lv_tableIn (off := 62) (tgt := 63) K.1 K.2.1 dX10_captainOf_1 (by rw [h5]; decide) (by rw [h5]; decide) (by rw [h5]; rfl) (by decide) ?_
    refine ah_new (ci := 6) (C := "ShipsThatMeet$Old") (T := TX6) (N := 2) K hG tyX6 rfl tyX6_ok inX6 q_277 q_278 q_57 [.int 0, .int 0] (fun j hj => by rcases (show j = 0 ∨ j = 1 by omega) with rfl | rfl <;> rfl) (by show _ ≤ 1; omega) (by show _ ≤ 2; omega) dX10_captainOf_63 (fun H hG => ?_)
    refine lv_dup K.1 K.2.1 dX10_captainOf_66 rfl ?_
    refine lv_iload_n K.1 K.2.1 dX10_captainOf_67 rfl (lv_at hl 0 rfl) ?_
    refine lv_iload_n K.1 K.2.1 dX10_captainOf_68 rfl (lv_at hl 1 rfl) ?_
    obtain ⟨v6, ev6, hf⟩ := Option.bind_eq_some_iff.mp hf
    refine ah_callI (As := [.int x0, .int x1]) (rest := [.ref z]) K hG hL hl.1 (ctX6_init l H0 D ca (ah_up M z (ah_O 6 [.int 0, .int 0])) (z + 1) z x0 x1 v6 ev6) rfl hdX6_init q_279 q_280 q_57 q_281 ⟨Nat.le_of_ble_eq_true rfl, Nat.le_of_ble_eq_true rfl⟩ rfl rfl (Nat.le_of_ble_eq_true rfl) ⟨by show _ ≤ 1; omega, by show _ ≤ 2; omega⟩ dX10_captainOf_69 (fun H locs hG hL => ?_)
    have hf := Option.some.inj hf
    subst hf
    exact ah_aret K hG hL (by omega) (by omega) dX10_captainOf_72
  rw [if_neg h5] at hf
  by_cases h7 : x0 = 4
  · rw [if_pos h7] at hf
    refine lv_tableIn (off := 72) (tgt := 73) K.1 K.2.1 dX10_captainOf_1 (by rw [h7]; decide) (by rw [h7]; decide) (by rw [h7]; rfl) (by decide) ?_
    refine ah_new (ci := 9) (C := "ShipsThatMeet$Want") (T := TX9) (N := 2) K hG tyX9 rfl tyX9_ok inX9 q_286 q_287 q_58 [.int 0, .int 0] (fun j hj => by rcases (show j = 0 ∨ j = 1 by omega) with rfl | rfl <;> rfl) (by show _ ≤ 1; omega) (by show _ ≤ 2; omega) dX10_captainOf_73 (fun H hG => ?_)
    refine lv_dup K.1 K.2.1 dX10_captainOf_76 rfl ?_
    refine lv_iload_n K.1 K.2.1 dX10_captainOf_77 rfl (lv_at hl 0 rfl) ?_
    refine lv_iload_n K.1 K.2.1 dX10_captainOf_78 rfl (lv_at hl 1 rfl) ?_
    obtain ⟨v8, ev8, hf⟩ := Option.bind_eq_some_iff.mp hf
    refine ah_callI (As := [.int x0, .int x1]) (rest := [.ref z]) K hG hL hl.1 (ctX9_init l H0 D ca (ah_up M z (ah_O 9 [.int 0, .int 0])) (z + 1) z x0 x1 v8 ev8) rfl hdX9_init q_288 q_289 q_58 q_290 ⟨Nat.le_of_ble_eq_true rfl, Nat.le_of_ble_eq_true rfl⟩ rfl rfl (Nat.le_of_ble_eq_true rfl) ⟨by show _ ≤ 1; omega, by show _ ≤ 2; omega⟩ dX10_captainOf_79 (fun H locs hG hL => ?_)
    have hf := Option.some.inj hf
    subst hf
    exact ah_aret K hG hL (by omega) (by omega) dX10_captainOf_82
  rw [if_neg h7] at hf
  by_cases h9 : x0 = 5
  · rw [if_pos h9] at hf
    refine lv_tableIn (off := 82) (tgt := 83) K.1 K.2.1 dX10_captainOf_1 (by rw [h9]; decide) (by rw [h9]; decide) (by rw [h9]; rfl) (by decide) ?_
    refine ah_new (ci := 0) (C := "ShipsThatMeet$Best") (T := TX0) (N := 2) K hG tyX0 rfl tyX0_ok inX0 q_295 q_296 q_59 [.int 0, .int 0] (fun j hj => by rcases (show j = 0 ∨ j = 1 by omega) with rfl | rfl <;> rfl) (by show _ ≤ 1; omega) (by show _ ≤ 2; omega) dX10_captainOf_83 (fun H hG => ?_)
    refine lv_dup K.1 K.2.1 dX10_captainOf_86 rfl ?_
    refine lv_iload_n K.1 K.2.1 dX10_captainOf_87 rfl (lv_at hl 1 rfl) ?_
    obtain ⟨v10, ev10, hf⟩ := Option.bind_eq_some_iff.mp hf
    refine ah_callI (As := [.int x1]) (rest := [.ref z]) K hG hL hl.1 (ctX0_init l H0 D ca (ah_up M z (ah_O 0 [.int 0, .int 0])) (z + 1) z x1 v10 ev10) rfl hdX0_init q_297 q_298 q_59 q_299 ⟨Nat.le_of_ble_eq_true rfl, Nat.le_of_ble_eq_true rfl⟩ rfl rfl (Nat.le_of_ble_eq_true rfl) ⟨by show _ ≤ 1; omega, by show _ ≤ 2; omega⟩ dX10_captainOf_88 (fun H locs hG hL => ?_)
    have hf := Option.some.inj hf
    subst hf
    exact ah_aret K hG hL (by omega) (by omega) dX10_captainOf_91
  rw [if_neg h9] at hf
  by_cases h11 : x0 = 6
  · rw [if_pos h11] at hf
    refine lv_tableIn (off := 91) (tgt := 92) K.1 K.2.1 dX10_captainOf_1 (by rw [h11]; decide) (by rw [h11]; decide) (by rw [h11]; rfl) (by decide) ?_
    refine ah_new (ci := 8) (C := "ShipsThatMeet$Told") (T := TX8) (N := 2) K hG tyX8 rfl tyX8_ok inX8 q_304 q_305 q_60 [.int 0, .int 0] (fun j hj => by rcases (show j = 0 ∨ j = 1 by omega) with rfl | rfl <;> rfl) (by show _ ≤ 1; omega) (by show _ ≤ 2; omega) dX10_captainOf_92 (fun H hG => ?_)
    refine lv_dup K.1 K.2.1 dX10_captainOf_95 rfl ?_
    refine lv_iload_n K.1 K.2.1 dX10_captainOf_96 rfl (lv_at hl 1 rfl) ?_
    obtain ⟨v12, ev12, hf⟩ := Option.bind_eq_some_iff.mp hf
    refine ah_callI (As := [.int x1]) (rest := [.ref z]) K hG hL hl.1 (ctX8_init l H0 D ca (ah_up M z (ah_O 8 [.int 0, .int 0])) (z + 1) z x1 v12 ev12) rfl hdX8_init q_306 q_307 q_60 q_308 ⟨Nat.le_of_ble_eq_true rfl, Nat.le_of_ble_eq_true rfl⟩ rfl rfl (Nat.le_of_ble_eq_true rfl) ⟨by show _ ≤ 1; omega, by show _ ≤ 2; omega⟩ dX10_captainOf_97 (fun H locs hG hL => ?_)
    have hf := Option.some.inj hf
    subst hf
    exact ah_aret K hG hL (by omega) (by omega) dX10_captainOf_100
  rw [if_neg h11] at hf
  by_cases h13 : x0 = 7
  · rw [if_pos h13] at hf
    refine lv_tableIn (off := 100) (tgt := 101) K.1 K.2.1 dX10_captainOf_1 (by rw [h13]; decide) (by rw [h13]; decide) (by rw [h13]; rfl) (by decide) ?_
    refine ah_new (ci := 3) (C := "ShipsThatMeet$Keep") (T := TX3) (N := 2) K hG tyX3 rfl tyX3_ok inX3 q_313 q_314 q_61 [.int 0, .int 0] (fun j hj => by rcases (show j = 0 ∨ j = 1 by omega) with rfl | rfl <;> rfl) (by show _ ≤ 1; omega) (by show _ ≤ 2; omega) dX10_captainOf_101 (fun H hG => ?_)
    refine lv_dup K.1 K.2.1 dX10_captainOf_104 rfl ?_
    refine lv_iload_n K.1 K.2.1 dX10_captainOf_105 rfl (lv_at hl 1 rfl) ?_
    obtain ⟨v14, ev14, hf⟩ := Option.bind_eq_some_iff.mp hf
    refine ah_callI (As := [.int x1]) (rest := [.ref z]) K hG hL hl.1 (ctX3_init l H0 D ca (ah_up M z (ah_O 3 [.int 0, .int 0])) (z + 1) z x1 v14 ev14) rfl hdX3_init q_315 q_316 q_61 q_317 ⟨Nat.le_of_ble_eq_true rfl, Nat.le_of_ble_eq_true rfl⟩ rfl rfl (Nat.le_of_ble_eq_true rfl) ⟨by show _ ≤ 1; omega, by show _ ≤ 2; omega⟩ dX10_captainOf_106 (fun H locs hG hL => ?_)
    have hf := Option.some.inj hf
    subst hf
    exact ah_aret K hG hL (by omega) (by omega) dX10_captainOf_109
  rw [if_neg h13] at hf
  have th1 := lv_neT (a := 1) h1 (by decide)
  have th3 := lv_neT (a := 2) h3 (by decide)
  have th5 := lv_neT (a := 3) h5 (by decide)
  have th7 := lv_neT (a := 4) h7 (by decide)
  have th9 := lv_neT (a := 5) h9 (by decide)
  have th11 := lv_neT (a := 6) h11 (by decide)
  have th13 := lv_neT (a := 7) h13 (by decide)
  refine lv_tableOut (tgt := 110) K.1 K.2.1 dX10_captainOf_1 (by omega) (by decide) ?_
  refine ah_new (ci := 1) (C := "ShipsThatMeet$Captain") (T := TX1) (N := 2) K hG tyX1 rfl tyX1_ok inX1 q_322 q_86 q_52 [.int 0, .int 0] (fun j hj => by rcases (show j = 0 ∨ j = 1 by omega) with rfl | rfl <;> rfl) (by show _ ≤ 1; omega) (by show _ ≤ 2; omega) dX10_captainOf_110 (fun H hG => ?_)
  refine lv_dup K.1 K.2.1 dX10_captainOf_113 rfl ?_
  refine lv_iconst (v := 0) K.1 K.2.1 dX10_captainOf_114 (by decide) ?_
  refine lv_iload_n K.1 K.2.1 dX10_captainOf_115 rfl (lv_at hl 1 rfl) ?_
  obtain ⟨v15, ev15, hf⟩ := Option.bind_eq_some_iff.mp hf
  refine ah_callI (As := [.int 0, .int x1]) (rest := [.ref z]) K hG hL hl.1 (ctX1_init l H0 D ca (ah_up M z (ah_O 1 [.int 0, .int 0])) (z + 1) z 0 x1 v15 ev15) rfl hdX1_init q_323 q_88 q_52 q_89 ⟨Nat.le_of_ble_eq_true rfl, Nat.le_of_ble_eq_true rfl⟩ rfl rfl (Nat.le_of_ble_eq_true rfl) ⟨by show _ ≤ 1; omega, by show _ ≤ 2; omega⟩ dX10_captainOf_116 (fun H locs hG hL => ?_)
  have hf := Option.some.inj hf
  subst hf
  exact ah_aret K hG hL (by omega) (by omega) dX10_captainOf_119
def fX0_gift_62  (k17 : Nat → Int32 → Int32 → Int32 → Int32 → Int32 → Option (Int32)) (M : ah_h) (a1 : Nat) (x2 : Int32) (x3 : Int32) (x4 : Int32) (x5 : Int32) (x6 : Int32) : Option (Int32) := k17 a1 x2 x3 x4 x5 (x6 + 1)
set_option maxRecDepth 100000 in
set_option maxHeartbeats 4000000 in
theorem wX0_gift_62 {p : Program} {l : Launch} {e : Env} {s : State} {m : MethodId} {args : Array Value} {below : List Frame} {meth : Method} {c : Code} {D : va_G} {ca : Nat → ClassId} {H0 : Heap} {M : ah_h} {z : Nat} (K : ah_K p s m args meth c D ca "ShipsThatMeet$Best" cX0_gift 8 (some .int))  (k17 : Nat → Int32 → Int32 → Int32 → Int32 → Int32 → Option (Int32)) (hk17 : ∀ (a1 : Nat) (x2 : Int32) (x3 : Int32) (x4 : Int32) (x5 : Int32) (x6 : Int32)  (H : Heap) (locs : List Loc) (ls : Array Slot), ah_g H0 D ca M z H → ah_L H0 locs → lv_has ls 8 [(1, .ref a1), (2, .int x2), (3, .int x3), (4, .int x4), (5, .int x5), (6, .int x6)] → ∀ Z, k17 a1 x2 x3 x4 x5 x6 = some Z → W p l e { frames := 2, cells := 0, slots := 0, locals := 45 } s m args below meth c H locs 0 0 (ah_Q below args s H0 D ca 0 0 (some (.int Z)) M z) (F0 m 17 ls [])) : ∀ (a1 : Nat) (x2 : Int32) (x3 : Int32) (x4 : Int32) (x5 : Int32) (x6 : Int32)  (H : Heap) (locs : List Loc) (ls : Array Slot), ah_g H0 D ca M z H → ah_L H0 locs → lv_has ls 8 [(1, .ref a1), (2, .int x2), (3, .int x3), (4, .int x4), (5, .int x5), (6, .int x6)] → ∀ Z, fX0_gift_62  k17 M a1 x2 x3 x4 x5 x6 = some Z → W p l e { frames := 2, cells := 0, slots := 0, locals := 45 } s m args below meth c H locs 0 0 (ah_Q below args s H0 D ca 0 0 (some (.int Z)) M z) (F0 m 62 ls []) := by
  intro a1 x2 x3 x4 x5 x6 H locs ls hG hL hl Z hf
  unfold fX0_gift_62 at hf
  refine lv_iinc (v := x6 + 1) (lv' := [(6, .int (x6 + 1)), (1, .ref a1), (2, .int x2), (3, .int x3), (4, .int x4), (5, .int x5)]) K.1 K.2.1 dX0_gift_62 hl (k := 5) rfl rfl (by decide) rfl (fun ls hl => ?_)
  refine lv_goto (tgt := 17) K.1 K.2.1 dX0_gift_65 (by decide) ?_
  exact hk17 a1 x2 x3 x4 x5 (x6 + 1) _ _ _ hG hL (lv_sub hl [1, 2, 3, 4, 5, 0] rfl) _ hf
def fX0_gift_17_b   (k17 : Nat → Int32 → Int32 → Int32 → Int32 → Int32 → Option (Int32)) (M : ah_h) (a1 : Nat) (x2 : Int32) (x3 : Int32) (x4 : Int32) (x5 : Int32) (x6 : Int32) : Option (Int32) := if 12 ≤ x6 then (some x4) else ((fX10_has M x3 x6).bind fun v2 => if v2 = 0 then (fX0_gift_62 k17 M a1 x2 x3 x4 x5 x6) else ((ah_gr M a1 2 7).bind fun v4 => (ah_ai M v4 x6).bind fun v5 => (fX2_speakers M a1 x2 v5).bind fun v6 => if v6 ≤ x5 then (fX0_gift_62 k17 M a1 x2 x3 x4 x5 x6) else (fX0_gift_62 k17 M a1 x2 x3 x6 v6 x6)))
def fX0_gift_17   (M : ah_h) : Nat → Nat → Int32 → Int32 → Int32 → Int32 → Int32 → Option (Int32)
  | 0 => fun _ _ _ _ _ _ => none
  | n + 1 => fun a1 x2 x3 x4 x5 x6 => fX0_gift_17_b   (fX0_gift_17   M n) M a1 x2 x3 x4 x5 x6
set_option maxRecDepth 100000 in
set_option maxHeartbeats 4000000 in
theorem wX0_gift_17_b {p : Program} {l : Launch} {e : Env} {s : State} {m : MethodId} {args : Array Value} {below : List Frame} {meth : Method} {c : Code} {D : va_G} {ca : Nat → ClassId} {H0 : Heap} {M : ah_h} {z : Nat} (K : ah_K p s m args meth c D ca "ShipsThatMeet$Best" cX0_gift 8 (some .int))   (k17 : Nat → Int32 → Int32 → Int32 → Int32 → Int32 → Option (Int32)) (hk17 : ∀ (a1 : Nat) (x2 : Int32) (x3 : Int32) (x4 : Int32) (x5 : Int32) (x6 : Int32)  (H : Heap) (locs : List Loc) (ls : Array Slot), ah_g H0 D ca M z H → ah_L H0 locs → lv_has ls 8 [(1, .ref a1), (2, .int x2), (3, .int x3), (4, .int x4), (5, .int x5), (6, .int x6)] → ∀ Z, k17 a1 x2 x3 x4 x5 x6 = some Z → W p l e { frames := 2, cells := 0, slots := 0, locals := 45 } s m args below meth c H locs 0 0 (ah_Q below args s H0 D ca 0 0 (some (.int Z)) M z) (F0 m 17 ls [])) : ∀ (a1 : Nat) (x2 : Int32) (x3 : Int32) (x4 : Int32) (x5 : Int32) (x6 : Int32)  (H : Heap) (locs : List Loc) (ls : Array Slot), ah_g H0 D ca M z H → ah_L H0 locs → lv_has ls 8 [(1, .ref a1), (2, .int x2), (3, .int x3), (4, .int x4), (5, .int x5), (6, .int x6)] → ∀ Z, fX0_gift_17_b   k17 M a1 x2 x3 x4 x5 x6 = some Z → W p l e { frames := 2, cells := 0, slots := 0, locals := 45 } s m args below meth c H locs 0 0 (ah_Q below args s H0 D ca 0 0 (some (.int Z)) M z) (F0 m 17 ls []) := by
  intro a1 x2 x3 x4 x5 x6 H locs ls hG hL hl Z hf
  unfold fX0_gift_17_b at hf
  refine lv_iload K.1 K.2.1 dX0_gift_17 (lv_at hl 5 rfl) ?_
  refine lv_bipush (v := 12) K.1 K.2.1 dX0_gift_19 (by decide) ?_
  refine lv_icmp_ge (tgt := 68) K.1 K.2.1 dX0_gift_21 (by decide) (fun h1 => ?_) (fun h1 => ?_)
  · rw [if_pos h1] at hf
    refine lv_iload K.1 K.2.1 dX0_gift_68 (lv_at hl 3 rfl) ?_
    have hf := Option.some.inj hf
    subst hf
    exact ah_iret K hG hL (Nat.le_refl _) (Nat.le_refl _) dX0_gift_70
  · rw [if_neg h1] at hf
    refine lv_iload_n K.1 K.2.1 dX0_gift_24 rfl (lv_at hl 2 rfl) ?_
    refine lv_iload K.1 K.2.1 dX0_gift_25 (lv_at hl 5 rfl) ?_
    obtain ⟨v2, ev2, hf⟩ := Option.bind_eq_some_iff.mp hf
    refine ah_callSN (As := [.int x3, .int x6]) (rest := []) K hG hL hl.1 (ctX10_has l H0 D ca M z x3 x6 v2 ev2) hdX10_has (host := "ShipsThatMeet") (by simp [ah_nM]) q_370 q_50 q_371 ⟨Nat.le_of_ble_eq_true rfl, Nat.le_of_ble_eq_true rfl⟩ rfl rfl (Nat.le_of_ble_eq_true rfl) ⟨Nat.le_refl _, Nat.le_refl _⟩ dX0_gift_27 (fun H locs hG hL => ?_)
    refine lv_if_eq (tgt := 62) K.1 K.2.1 dX0_gift_30 (by decide) (fun h3 => ?_) (fun h3 => ?_)
    · rw [if_pos h3] at hf
      exact wX0_gift_62 K k17 hk17 a1 x2 x3 x4 x5 x6 _ _ _ hG hL (lv_sub hl [0, 1, 2, 3, 4, 5] rfl) _ hf
    · rw [if_neg h3] at hf
      refine lv_aload_n K.1 K.2.1 dX0_gift_33 rfl (lv_at hl 0 rfl) ?_
      refine lv_iload_n K.1 K.2.1 dX0_gift_34 rfl (lv_at hl 1 rfl) ?_
      refine lv_aload_n K.1 K.2.1 dX0_gift_35 rfl (lv_at hl 0 rfl) ?_
      obtain ⟨v4, ev4, hf⟩ := Option.bind_eq_some_iff.mp hf
      refine ah_getr K hG ev4 ffX0_19_2 dX0_gift_36 ?_
      refine lv_iload K.1 K.2.1 dX0_gift_39 (lv_at hl 5 rfl) ?_
      obtain ⟨v5, ev5, hf⟩ := Option.bind_eq_some_iff.mp hf
      refine ah_iald K hG ev5 dX0_gift_41 ?_
      obtain ⟨v6, ev6, hf⟩ := Option.bind_eq_some_iff.mp hf
      obtain ⟨q7, eq7⟩ := ah_this ev6
      refine ah_callV (As := [.int x2, .int v5]) (rest := []) K hG hL hl.1 eq7 rfl (ctX2_speakers l H0 D ca M z a1 x2 v5 v6 ev6) hdX2_speakers q_373 q_374 q_51 q_376 q_375 ⟨Nat.le_of_ble_eq_true rfl, Nat.le_of_ble_eq_true rfl⟩ rfl rfl (Nat.le_of_ble_eq_true rfl) ⟨Nat.le_refl _, Nat.le_refl _⟩ dX0_gift_42 (fun H locs hG hL => ?_)
      refine lv_istore (lv' := [(7, .int v6), (1, .ref a1), (2, .int x2), (3, .int x3), (4, .int x4), (5, .int x5), (6, .int x6)]) K.1 K.2.1 dX0_gift_45 hl (by decide) rfl (fun ls hl => ?_)
      refine lv_iload K.1 K.2.1 dX0_gift_47 (lv_at hl 0 rfl) ?_
      refine lv_iload K.1 K.2.1 dX0_gift_49 (lv_at hl 5 rfl) ?_
      refine lv_icmp_le (tgt := 62) K.1 K.2.1 dX0_gift_51 (by decide) (fun h8 => ?_) (fun h8 => ?_)
      · rw [if_pos h8] at hf
        exact wX0_gift_62 K k17 hk17 a1 x2 x3 x4 x5 x6 _ _ _ hG hL (lv_sub hl [1, 2, 3, 4, 5, 6] rfl) _ hf
      · rw [if_neg h8] at hf
        refine lv_iload K.1 K.2.1 dX0_gift_54 (lv_at hl 0 rfl) ?_
        refine lv_istore (lv' := [(5, .int v6), (7, .int v6), (1, .ref a1), (2, .int x2), (3, .int x3), (4, .int x4), (6, .int x6)]) K.1 K.2.1 dX0_gift_56 hl (by decide) rfl (fun ls hl => ?_)
        refine lv_iload K.1 K.2.1 dX0_gift_58 (lv_at hl 6 rfl) ?_
        refine lv_istore (lv' := [(4, .int x6), (5, .int v6), (7, .int v6), (1, .ref a1), (2, .int x2), (3, .int x3), (6, .int x6)]) K.1 K.2.1 dX0_gift_60 hl (by decide) rfl (fun ls hl => ?_)
        exact wX0_gift_62 K k17 hk17 a1 x2 x3 x6 v6 x6 _ _ _ hG hL (lv_sub hl [3, 4, 5, 0, 1, 6] rfl) _ hf
theorem wX0_gift_17 {p : Program} {l : Launch} {e : Env} {s : State} {m : MethodId} {args : Array Value} {below : List Frame} {meth : Method} {c : Code} {D : va_G} {ca : Nat → ClassId} {H0 : Heap} {M : ah_h} {z : Nat} (K : ah_K p s m args meth c D ca "ShipsThatMeet$Best" cX0_gift 8 (some .int))   (n : Nat) : ∀ (a1 : Nat) (x2 : Int32) (x3 : Int32) (x4 : Int32) (x5 : Int32) (x6 : Int32)  (H : Heap) (locs : List Loc) (ls : Array Slot), ah_g H0 D ca M z H → ah_L H0 locs → lv_has ls 8 [(1, .ref a1), (2, .int x2), (3, .int x3), (4, .int x4), (5, .int x5), (6, .int x6)] → ∀ Z, fX0_gift_17   M n a1 x2 x3 x4 x5 x6 = some Z → W p l e { frames := 2, cells := 0, slots := 0, locals := 45 } s m args below meth c H locs 0 0 (ah_Q below args s H0 D ca 0 0 (some (.int Z)) M z) (F0 m 17 ls []) := by
  induction n with
  | zero => intro a1 x2 x3 x4 x5 x6 H locs ls hG hL hl Z hf; cases hf
  | succ n ih => exact wX0_gift_17_b K  _ ih
def fX0_gift (M : ah_h) (a0 : Nat) (x1 : Nat) (x2 : Int32) : Option (Int32) := (ah_ob M a0 0).bind fun q2 => (fX9_unwanted M a0 x1 x2).bind fun v1 => fX0_gift_17 M ah_fu x1 x2 v1 (-4) 0 0
set_option maxRecDepth 100000 in
set_option maxHeartbeats 4000000 in
theorem ctX0_gift (l : Launch) (H0 : Heap) (D : va_G) (ca : Nat → ClassId) (M : ah_h) (z : Nat) (a0 : Nat) (x1 : Nat) (x2 : Int32) (Z : Int32) (hf : fX0_gift M a0 x1 x2 = some Z) : ah_ct l H0 D ca yX0_gift cX0_gift 8 (some .int) 2 45 0 0 [.ref a0, .ref x1, .int x2] M z (some (.int Z)) M z := by
  refine ah_of (by decide) (Nat.le_of_ble_eq_true rfl) ?_
  intro p e s m below meth c ls hin K hG hl
  have hL : ah_L H0 [] := ah_L.nil
  have hl : lv_has ls 8 [(0, .ref a0), (1, .ref x1), (2, .int x2)] := hl
  unfold fX0_gift at hf
  refine lv_aload_n K.1 K.2.1 dX0_gift_0 rfl (lv_at hl 0 rfl) ?_
  refine lv_aload_n K.1 K.2.1 dX0_gift_1 rfl (lv_at hl 1 rfl) ?_
  refine lv_iload_n K.1 K.2.1 dX0_gift_2 rfl (lv_at hl 2 rfl) ?_
  obtain ⟨q2, eq2, hf⟩ := Option.bind_eq_some_iff.mp hf
  obtain ⟨v1, ev1, hf⟩ := Option.bind_eq_some_iff.mp hf
  refine ah_callO (n := 2) (As := [.ref x1, .int x2]) (rest := []) (x := ⟨"ShipsThatMeet$Best", "unwanted", "(LShipsThatMeet$Fleet;I)I"⟩) (owner := "ShipsThatMeet$Want") K hG hL hl.1 (ah_ob_some eq2) rfl (ctX9_unwanted l H0 D ca M z a0 x1 x2 v1 ev1) (by decide +kernel) q_363 q_367 q_58 q_368 q_364 q_366 q_367 q_368 ⟨Nat.le_of_ble_eq_true rfl, Nat.le_of_ble_eq_true rfl⟩ rfl rfl (Nat.le_of_ble_eq_true rfl) ⟨Nat.le_refl _, Nat.le_refl _⟩ dX0_gift_3 (fun H locs hG hL => ?_)
  refine lv_istore_n (lv' := [(3, .int v1), (0, .ref a0), (1, .ref x1), (2, .int x2)]) K.1 K.2.1 dX0_gift_6 rfl hl (by decide) rfl (fun ls hl => ?_)
  refine lv_bipush (v := (-4)) K.1 K.2.1 dX0_gift_7 (by decide) ?_
  refine lv_istore (lv' := [(4, .int (-4)), (3, .int v1), (0, .ref a0), (1, .ref x1), (2, .int x2)]) K.1 K.2.1 dX0_gift_9 hl (by decide) rfl (fun ls hl => ?_)
  refine lv_iconst (v := 0) K.1 K.2.1 dX0_gift_11 (by decide) ?_
  refine lv_istore (lv' := [(5, .int 0), (4, .int (-4)), (3, .int v1), (0, .ref a0), (1, .ref x1), (2, .int x2)]) K.1 K.2.1 dX0_gift_12 hl (by decide) rfl (fun ls hl => ?_)
  refine lv_iconst (v := 0) K.1 K.2.1 dX0_gift_14 (by decide) ?_
  refine lv_istore (lv' := [(6, .int 0), (5, .int 0), (4, .int (-4)), (3, .int v1), (0, .ref a0), (1, .ref x1), (2, .int x2)]) K.1 K.2.1 dX0_gift_15 hl (by decide) rfl (fun ls hl => ?_)
  exact wX0_gift_17 K  ah_fu x1 x2 v1 (-4) 0 0 _ _ _ hG hL (lv_sub hl [5, 6, 3, 2, 1, 0] rfl) _ hf
def fX3_gift_22   (M : ah_h) (s0 : Nat) (s1 : Nat) (s2 : Int32) : Option (Int32) := (ah_oc M s0).bind fun q2 => (fX6_gift M s0 s1 s2).bind fun v1 => some v1
set_option maxRecDepth 100000 in
set_option maxHeartbeats 4000000 in
theorem wX3_gift_22 {p : Program} {l : Launch} {e : Env} {s : State} {m : MethodId} {args : Array Value} {below : List Frame} {meth : Method} {c : Code} {D : va_G} {ca : Nat → ClassId} {H0 : Heap} {M : ah_h} {z : Nat} (K : ah_K p s m args meth c D ca "ShipsThatMeet$Keep" cX3_gift 4 (some .int))   : ∀ (s0 : Nat) (s1 : Nat) (s2 : Int32)  (H : Heap) (locs : List Loc) (ls : Array Slot), ah_g H0 D ca M z H → ah_L H0 locs → lv_has ls 4 [] → ∀ Z, fX3_gift_22   M s0 s1 s2 = some Z → W p l e { frames := 2, cells := 0, slots := 0, locals := 45 } s m args below meth c H locs 0 0 (ah_Q below args s H0 D ca 0 0 (some (.int Z)) M z) (F0 m 22 ls [.int s2, .ref s1, .ref s0]) := by
  intro s0 s1 s2 H locs ls hG hL hl Z hf
  unfold fX3_gift_22 at hf
  obtain ⟨q2, eq2, hf⟩ := Option.bind_eq_some_iff.mp hf
  obtain ⟨v1, ev1, hf⟩ := Option.bind_eq_some_iff.mp hf
  refine ah_callUC (n := 2) (As := [.ref s1, .int s2]) (rest := []) K hG hL hl.1 eq2 (ctX6_gift l H0 D ca M z s0 s1 s2 v1 ev1) (by decide +kernel) q_381 q_382 q_57 q_383 q_1272 q_321 ⟨Nat.le_of_ble_eq_true rfl, Nat.le_of_ble_eq_true rfl⟩ rfl rfl (Nat.le_of_ble_eq_true rfl) ⟨Nat.le_refl _, Nat.le_refl _⟩ dX3_gift_22 (fun H locs hG hL => ?_)
  have hf := Option.some.inj hf
  subst hf
  exact ah_iret K hG hL (Nat.le_refl _) (Nat.le_refl _) dX3_gift_25
def fX3_gift (M : ah_h) (a0 : Nat) (x1 : Nat) (x2 : Int32) : Option (Int32) := (ah_gc M a0 1).bind fun v1 => if (x2 &&& (((1 : Int32) <<< (v1 &&& 31)) ^^^ (-1))) = 0 then (fX3_gift_22 M a0 x1 x2) else (fX3_gift_22 M a0 x1 (x2 &&& (((1 : Int32) <<< (v1 &&& 31)) ^^^ (-1))))
set_option maxRecDepth 100000 in
set_option maxHeartbeats 4000000 in
theorem ctX3_gift (l : Launch) (H0 : Heap) (D : va_G) (ca : Nat → ClassId) (M : ah_h) (z : Nat) (a0 : Nat) (x1 : Nat) (x2 : Int32) (Z : Int32) (hf : fX3_gift M a0 x1 x2 = some Z) : ah_ct l H0 D ca yX3_gift cX3_gift 4 (some .int) 2 45 0 0 [.ref a0, .ref x1, .int x2] M z (some (.int Z)) M z := by
  refine ah_of (by decide) (Nat.le_of_ble_eq_true rfl) ?_
  intro p e s m below meth c ls hin K hG hl
  have hL : ah_L H0 [] := ah_L.nil
  have hl : lv_has ls 4 [(0, .ref a0), (1, .ref x1), (2, .int x2)] := hl
  unfold fX3_gift at hf
  refine lv_iload_n K.1 K.2.1 dX3_gift_0 rfl (lv_at hl 2 rfl) ?_
  refine lv_iconst (v := 1) K.1 K.2.1 dX3_gift_1 (by decide) ?_
  refine lv_aload_n K.1 K.2.1 dX3_gift_2 rfl (lv_at hl 0 rfl) ?_
  obtain ⟨v1, ev1, hf⟩ := Option.bind_eq_some_iff.mp hf
  refine ah_getc K hG ev1 ffX3_7_c dX3_gift_3 ?_
  refine lv_ishl K.1 K.2.1 dX3_gift_6 ?_
  refine lv_iconst (v := (-1)) K.1 K.2.1 dX3_gift_7 (by decide) ?_
  refine lv_ixor K.1 K.2.1 dX3_gift_8 ?_
  refine lv_iand K.1 K.2.1 dX3_gift_9 ?_
  refine lv_istore_n (lv' := [(3, .int (x2 &&& (((1 : Int32) <<< (v1 &&& 31)) ^^^ (-1)))), (0, .ref a0), (1, .ref x1), (2, .int x2)]) K.1 K.2.1 dX3_gift_10 rfl hl (by decide) rfl (fun ls hl => ?_)
  refine lv_aload_n K.1 K.2.1 dX3_gift_11 rfl (lv_at hl 1 rfl) ?_
  refine lv_aload_n K.1 K.2.1 dX3_gift_12 rfl (lv_at hl 2 rfl) ?_
  refine lv_iload_n K.1 K.2.1 dX3_gift_13 rfl (lv_at hl 0 rfl) ?_
  refine lv_if_ne (tgt := 21) K.1 K.2.1 dX3_gift_14 (by decide) (fun h2 => ?_) (fun h2 => ?_)
  · rw [if_neg h2] at hf
    refine lv_iload_n K.1 K.2.1 dX3_gift_21 rfl (lv_at hl 0 rfl) ?_
    exact wX3_gift_22 K  a0 x1 (x2 &&& (((1 : Int32) <<< (v1 &&& 31)) ^^^ (-1))) _ _ _ hG hL (lv_sub hl [] rfl) _ hf
  · rw [if_pos h2] at hf
    refine lv_iload_n K.1 K.2.1 dX3_gift_17 rfl (lv_at hl 3 rfl) ?_
    refine lv_goto (tgt := 22) K.1 K.2.1 dX3_gift_18 (by decide) ?_
    exact wX3_gift_22 K  a0 x1 x2 _ _ _ hG hL (lv_sub hl [] rfl) _ hf
def fX10_can_37_b   (k37 : Nat → Nat → Int32 → Int32 → Option (Int32)) (M : ah_h) (a0 : Nat) (a4 : Nat) (x5 : Int32) (x6 : Int32) : Option (Int32) := (fX7_meetings M a4).bind fun v1 => if v1 ≤ x6 then (some x5) else ((fX7_one M a4 x6).bind fun v4 => (fX7_other M a4 x6).bind fun v6 => (fX10_choicesBehind M a0 x5 v4 v6).bind fun v8 => k37 a0 a4 v8 (x6 + 1))
def fX10_can_37   (M : ah_h) : Nat → Nat → Nat → Int32 → Int32 → Option (Int32)
  | 0 => fun _ _ _ _ => none
  | n + 1 => fun a0 a4 x5 x6 => fX10_can_37_b   (fX10_can_37   M n) M a0 a4 x5 x6
set_option maxRecDepth 100000 in
set_option maxHeartbeats 4000000 in
theorem wX10_can_37_b {p : Program} {l : Launch} {e : Env} {s : State} {m : MethodId} {args : Array Value} {below : List Frame} {meth : Method} {c : Code} {D : va_G} {ca : Nat → ClassId} {H0 : Heap} {M : ah_h} {z : Nat} (K : ah_K p s m args meth c D ca "ShipsThatMeet" cX10_can 7 (some .int))   (k37 : Nat → Nat → Int32 → Int32 → Option (Int32)) (hk37 : ∀ (a0 : Nat) (a4 : Nat) (x5 : Int32) (x6 : Int32)  (H : Heap) (locs : List Loc) (ls : Array Slot), ah_g H0 D ca M z H → ah_L H0 locs → lv_has ls 7 [(0, .ref a0), (4, .ref a4), (5, .int x5), (6, .int x6)] → ∀ Z, k37 a0 a4 x5 x6 = some Z → W p l e { frames := 5, cells := 0, slots := 0, locals := 109 } s m args below meth c H locs 0 0 (ah_Q below args s H0 D ca 0 0 (some (.int Z)) M z) (F0 m 37 ls [])) : ∀ (a0 : Nat) (a4 : Nat) (x5 : Int32) (x6 : Int32)  (H : Heap) (locs : List Loc) (ls : Array Slot), ah_g H0 D ca M z H → ah_L H0 locs → lv_has ls 7 [(0, .ref a0), (4, .ref a4), (5, .int x5), (6, .int x6)] → ∀ Z, fX10_can_37_b   k37 M a0 a4 x5 x6 = some Z → W p l e { frames := 5, cells := 0, slots := 0, locals := 109 } s m args below meth c H locs 0 0 (ah_Q below args s H0 D ca 0 0 (some (.int Z)) M z) (F0 m 37 ls []) := by
  intro a0 a4 x5 x6 H locs ls hG hL hl Z hf
  unfold fX10_can_37_b at hf
  refine lv_iload K.1 K.2.1 dX10_can_37 (lv_at hl 3 rfl) ?_
  refine lv_aload K.1 K.2.1 dX10_can_39 (lv_at hl 1 rfl) ?_
  obtain ⟨v1, ev1, hf⟩ := Option.bind_eq_some_iff.mp hf
  obtain ⟨q2, eq2⟩ := ah_this ev1
  refine ah_callV (As := []) (rest := [.int x6]) K hG hL hl.1 eq2 rfl (ctX7_meetings l H0 D ca M z a4 v1 ev1) hdX7_meetings q_462 q_463 q_53 q_465 q_464 ⟨Nat.le_of_ble_eq_true rfl, Nat.le_of_ble_eq_true rfl⟩ rfl rfl (Nat.le_of_ble_eq_true rfl) ⟨Nat.le_refl _, Nat.le_refl _⟩ dX10_can_41 (fun H locs hG hL => ?_)
  refine lv_icmp_ge (tgt := 75) K.1 K.2.1 dX10_can_44 (by decide) (fun h3 => ?_) (fun h3 => ?_)
  · rw [if_pos h3] at hf
    refine lv_iload K.1 K.2.1 dX10_can_75 (lv_at hl 2 rfl) ?_
    have hf := Option.some.inj hf
    subst hf
    exact ah_iret K hG hL (Nat.le_refl _) (Nat.le_refl _) dX10_can_77
  · rw [if_neg h3] at hf
    refine lv_aload_n K.1 K.2.1 dX10_can_47 rfl (lv_at hl 0 rfl) ?_
    refine lv_iload K.1 K.2.1 dX10_can_48 (lv_at hl 2 rfl) ?_
    refine lv_aload K.1 K.2.1 dX10_can_50 (lv_at hl 1 rfl) ?_
    refine lv_iload K.1 K.2.1 dX10_can_52 (lv_at hl 3 rfl) ?_
    obtain ⟨v4, ev4, hf⟩ := Option.bind_eq_some_iff.mp hf
    obtain ⟨q5, eq5⟩ := ah_this ev4
    refine ah_callV (As := [.int x6]) (rest := [.int x5, .ref a0]) K hG hL hl.1 eq5 rfl (ctX7_one l H0 D ca M z a4 x6 v4 ev4) hdX7_one q_466 q_467 q_53 q_469 q_468 ⟨Nat.le_of_ble_eq_true rfl, Nat.le_of_ble_eq_true rfl⟩ rfl rfl (Nat.le_of_ble_eq_true rfl) ⟨Nat.le_refl _, Nat.le_refl _⟩ dX10_can_54 (fun H locs hG hL => ?_)
    refine lv_aload K.1 K.2.1 dX10_can_57 (lv_at hl 1 rfl) ?_
    refine lv_iload K.1 K.2.1 dX10_can_59 (lv_at hl 3 rfl) ?_
    obtain ⟨v6, ev6, hf⟩ := Option.bind_eq_some_iff.mp hf
    obtain ⟨q7, eq7⟩ := ah_this ev6
    refine ah_callV (As := [.int x6]) (rest := [.int v4, .int x5, .ref a0]) K hG hL hl.1 eq7 rfl (ctX7_other l H0 D ca M z a4 x6 v6 ev6) hdX7_other q_471 q_472 q_53 q_474 q_473 ⟨Nat.le_of_ble_eq_true rfl, Nat.le_of_ble_eq_true rfl⟩ rfl rfl (Nat.le_of_ble_eq_true rfl) ⟨Nat.le_refl _, Nat.le_refl _⟩ dX10_can_61 (fun H locs hG hL => ?_)
    obtain ⟨v8, ev8, hf⟩ := Option.bind_eq_some_iff.mp hf
    obtain ⟨q9, eq9⟩ := ah_this ev8
    refine ah_callV (As := [.int x5, .int v4, .int v6]) (rest := []) K hG hL hl.1 eq9 rfl (ctX10_choicesBehind l H0 D ca M z a0 x5 v4 v6 v8 ev8) hdX10_choicesBehind q_486 q_488 q_50 q_489 q_5 ⟨Nat.le_of_ble_eq_true rfl, Nat.le_of_ble_eq_true rfl⟩ rfl rfl (Nat.le_of_ble_eq_true rfl) ⟨Nat.le_refl _, Nat.le_refl _⟩ dX10_can_64 (fun H locs hG hL => ?_)
    refine lv_istore (lv' := [(5, .int v8), (0, .ref a0), (4, .ref a4), (6, .int x6)]) K.1 K.2.1 dX10_can_67 hl (by decide) rfl (fun ls hl => ?_)
    refine lv_iinc (v := x6 + 1) (lv' := [(6, .int (x6 + 1)), (5, .int v8), (0, .ref a0), (4, .ref a4)]) K.1 K.2.1 dX10_can_69 hl (k := 3) rfl rfl (by decide) rfl (fun ls hl => ?_)
    refine lv_goto (tgt := 37) K.1 K.2.1 dX10_can_72 (by decide) ?_
    exact hk37 a0 a4 v8 (x6 + 1) _ _ _ hG hL (lv_sub hl [2, 3, 1, 0] rfl) _ hf
theorem wX10_can_37 {p : Program} {l : Launch} {e : Env} {s : State} {m : MethodId} {args : Array Value} {below : List Frame} {meth : Method} {c : Code} {D : va_G} {ca : Nat → ClassId} {H0 : Heap} {M : ah_h} {z : Nat} (K : ah_K p s m args meth c D ca "ShipsThatMeet" cX10_can 7 (some .int))   (n : Nat) : ∀ (a0 : Nat) (a4 : Nat) (x5 : Int32) (x6 : Int32)  (H : Heap) (locs : List Loc) (ls : Array Slot), ah_g H0 D ca M z H → ah_L H0 locs → lv_has ls 7 [(0, .ref a0), (4, .ref a4), (5, .int x5), (6, .int x6)] → ∀ Z, fX10_can_37   M n a0 a4 x5 x6 = some Z → W p l e { frames := 5, cells := 0, slots := 0, locals := 109 } s m args below meth c H locs 0 0 (ah_Q below args s H0 D ca 0 0 (some (.int Z)) M z) (F0 m 37 ls []) := by
  induction n with
  | zero => intro a0 a4 x5 x6 H locs ls hG hL hl Z hf; cases hf
  | succ n ih => exact wX10_can_37_b K  _ ih
def fX10_can (M : ah_h) (a0 : Nat) (x1 : Int32) (x2 : Int32) : Option (Int32) := (ah_ob M a0 10).bind fun _ => (fX10_refusalOfManAndMeetings M a0 x1 x2).bind fun v1 => if 0 ≤ v1 then ((ah_gr M a0 10 4).bind fun v4 => (ah_ar M v4 3 x2).bind fun v5 => (ah_gr M a0 10 0).bind fun v6 => (ah_gr M v6 2 5).bind fun v7 => (ah_ai M v7 x1).bind fun v8 => fX10_can_37 M ah_fu a0 v5 ((1 : Int32) <<< (v8 &&& 31)) 0) else (some v1)
set_option maxRecDepth 100000 in
set_option maxHeartbeats 4000000 in
theorem ctX10_can (l : Launch) (H0 : Heap) (D : va_G) (ca : Nat → ClassId) (M : ah_h) (z : Nat) (a0 : Nat) (x1 : Int32) (x2 : Int32) (Z : Int32) (hf : fX10_can M a0 x1 x2 = some Z) : ah_ct l H0 D ca yX10_can cX10_can 7 (some .int) 5 109 0 0 [.ref a0, .int x1, .int x2] M z (some (.int Z)) M z := by
  refine ah_of (by decide) (Nat.le_of_ble_eq_true rfl) ?_
  intro p e s m below meth c ls hin K hG hl
  have hL : ah_L H0 [] := ah_L.nil
  have hl : lv_has ls 7 [(0, .ref a0), (1, .int x1), (2, .int x2)] := hl
  unfold fX10_can at hf
  obtain ⟨-, -, hf⟩ := Option.bind_eq_some_iff.mp hf
  refine lv_aload_n K.1 K.2.1 dX10_can_0 rfl (lv_at hl 0 rfl) ?_
  refine lv_iload_n K.1 K.2.1 dX10_can_1 rfl (lv_at hl 1 rfl) ?_
  refine lv_iload_n K.1 K.2.1 dX10_can_2 rfl (lv_at hl 2 rfl) ?_
  obtain ⟨v1, ev1, hf⟩ := Option.bind_eq_some_iff.mp hf
  obtain ⟨q2, eq2⟩ := ah_this ev1
  refine ah_callV (As := [.int x1, .int x2]) (rest := []) K hG hL hl.1 eq2 rfl (ctX10_refusalOfManAndMeetings l H0 D ca M z a0 x1 x2 v1 ev1) hdX10_refusalOfManAndMeetings q_454 q_456 q_50 q_457 q_3 ⟨Nat.le_of_ble_eq_true rfl, Nat.le_of_ble_eq_true rfl⟩ rfl rfl (Nat.le_of_ble_eq_true rfl) ⟨Nat.le_refl _, Nat.le_refl _⟩ dX10_can_3 (fun H locs hG hL => ?_)
  refine lv_istore_n (lv' := [(3, .int v1), (0, .ref a0), (1, .int x1), (2, .int x2)]) K.1 K.2.1 dX10_can_6 rfl hl (by decide) rfl (fun ls hl => ?_)
  refine lv_iload_n K.1 K.2.1 dX10_can_7 rfl (lv_at hl 0 rfl) ?_
  refine lv_if_ge (tgt := 13) K.1 K.2.1 dX10_can_8 (by decide) (fun h3 => ?_) (fun h3 => ?_)
  · rw [if_pos h3] at hf
    refine lv_aload_n K.1 K.2.1 dX10_can_13 rfl (lv_at hl 1 rfl) ?_
    obtain ⟨v4, ev4, hf⟩ := Option.bind_eq_some_iff.mp hf
    refine ah_getr K hG ev4 ffX10_28_10 dX10_can_14 ?_
    refine lv_iload_n K.1 K.2.1 dX10_can_17 rfl (lv_at hl 3 rfl) ?_
    obtain ⟨v5, ev5, hf⟩ := Option.bind_eq_some_iff.mp hf
    refine ah_aald (t := 3) K hG ev5 rfl rfl dX10_can_18 ?_
    refine lv_astore (lv' := [(4, .ref v5), (3, .int v1), (0, .ref a0), (1, .int x1), (2, .int x2)]) K.1 K.2.1 dX10_can_19 hl (by decide) rfl (fun ls hl => ?_)
    refine lv_iconst (v := 1) K.1 K.2.1 dX10_can_21 (by decide) ?_
    refine lv_aload_n K.1 K.2.1 dX10_can_22 rfl (lv_at hl 2 rfl) ?_
    obtain ⟨v6, ev6, hf⟩ := Option.bind_eq_some_iff.mp hf
    refine ah_getr K hG ev6 ffX10_10_10 dX10_can_23 ?_
    obtain ⟨v7, ev7, hf⟩ := Option.bind_eq_some_iff.mp hf
    refine ah_getr K hG ev7 ffX10_102_2 dX10_can_26 ?_
    refine lv_iload_n K.1 K.2.1 dX10_can_29 rfl (lv_at hl 3 rfl) ?_
    obtain ⟨v8, ev8, hf⟩ := Option.bind_eq_some_iff.mp hf
    refine ah_iald K hG ev8 dX10_can_30 ?_
    refine lv_ishl K.1 K.2.1 dX10_can_31 ?_
    refine lv_istore (lv' := [(5, .int ((1 : Int32) <<< (v8 &&& 31))), (4, .ref v5), (3, .int v1), (0, .ref a0), (1, .int x1), (2, .int x2)]) K.1 K.2.1 dX10_can_32 hl (by decide) rfl (fun ls hl => ?_)
    refine lv_iconst (v := 0) K.1 K.2.1 dX10_can_34 (by decide) ?_
    refine lv_istore (lv' := [(6, .int 0), (5, .int ((1 : Int32) <<< (v8 &&& 31))), (4, .ref v5), (3, .int v1), (0, .ref a0), (1, .int x1), (2, .int x2)]) K.1 K.2.1 dX10_can_35 hl (by decide) rfl (fun ls hl => ?_)
    exact wX10_can_37 K  ah_fu a0 v5 ((1 : Int32) <<< (v8 &&& 31)) 0 _ _ _ hG hL (lv_sub hl [4, 2, 1, 0] rfl) _ hf
  · rw [if_neg h3] at hf
    refine lv_iload_n K.1 K.2.1 dX10_can_11 rfl (lv_at hl 0 rfl) ?_
    have hf := Option.some.inj hf
    subst hf
    exact ah_iret K hG hL (Nat.le_refl _) (Nat.le_refl _) dX10_can_12
def fX10_soonest_53_b   (k53 : Nat → Int32 → Nat → Int32 → Int32 → Option (Int32)) (M : ah_h) (a0 : Nat) (x2 : Int32) (a5 : Nat) (x6 : Int32) (x7 : Int32) : Option (Int32) := (fX7_meetings M a5).bind fun v1 => if v1 ≤ x7 then ((fX10_has M x6 x2).bind fun v4 => if v4 = 0 then (some (-4)) else ((fX7_meetings M a5).bind fun v6 => some v6)) else ((fX10_has M x6 x2).bind fun v8 => if v8 = 0 then ((fX7_one M a5 x7).bind fun v10 => (fX7_other M a5 x7).bind fun v12 => (fX10_choicesBehind M a0 x6 v10 v12).bind fun v14 => k53 a0 x2 a5 v14 (x7 + 1)) else (some x7))
def fX10_soonest_53   (M : ah_h) : Nat → Nat → Int32 → Nat → Int32 → Int32 → Option (Int32)
  | 0 => fun _ _ _ _ _ => none
  | n + 1 => fun a0 x2 a5 x6 x7 => fX10_soonest_53_b   (fX10_soonest_53   M n) M a0 x2 a5 x6 x7
set_option maxRecDepth 100000 in
set_option maxHeartbeats 4000000 in
theorem wX10_soonest_53_b {p : Program} {l : Launch} {e : Env} {s : State} {m : MethodId} {args : Array Value} {below : List Frame} {meth : Method} {c : Code} {D : va_G} {ca : Nat → ClassId} {H0 : Heap} {M : ah_h} {z : Nat} (K : ah_K p s m args meth c D ca "ShipsThatMeet" cX10_soonest 8 (some .int))   (k53 : Nat → Int32 → Nat → Int32 → Int32 → Option (Int32)) (hk53 : ∀ (a0 : Nat) (x2 : Int32) (a5 : Nat) (x6 : Int32) (x7 : Int32)  (H : Heap) (locs : List Loc) (ls : Array Slot), ah_g H0 D ca M z H → ah_L H0 locs → lv_has ls 8 [(0, .ref a0), (2, .int x2), (5, .ref a5), (6, .int x6), (7, .int x7)] → ∀ Z, k53 a0 x2 a5 x6 x7 = some Z → W p l e { frames := 5, cells := 0, slots := 0, locals := 109 } s m args below meth c H locs 0 0 (ah_Q below args s H0 D ca 0 0 (some (.int Z)) M z) (F0 m 53 ls [])) : ∀ (a0 : Nat) (x2 : Int32) (a5 : Nat) (x6 : Int32) (x7 : Int32)  (H : Heap) (locs : List Loc) (ls : Array Slot), ah_g H0 D ca M z H → ah_L H0 locs → lv_has ls 8 [(0, .ref a0), (2, .int x2), (5, .ref a5), (6, .int x6), (7, .int x7)] → ∀ Z, fX10_soonest_53_b   k53 M a0 x2 a5 x6 x7 = some Z → W p l e { frames := 5, cells := 0, slots := 0, locals := 109 } s m args below meth c H locs 0 0 (ah_Q below args s H0 D ca 0 0 (some (.int Z)) M z) (F0 m 53 ls []) := by
  intro a0 x2 a5 x6 x7 H locs ls hG hL hl Z hf
  unfold fX10_soonest_53_b at hf
  refine lv_iload K.1 K.2.1 dX10_soonest_53 (lv_at hl 4 rfl) ?_
  refine lv_aload K.1 K.2.1 dX10_soonest_55 (lv_at hl 2 rfl) ?_
  obtain ⟨v1, ev1, hf⟩ := Option.bind_eq_some_iff.mp hf
  obtain ⟨q2, eq2⟩ := ah_this ev1
  refine ah_callV (As := []) (rest := [.int x7]) K hG hL hl.1 eq2 rfl (ctX7_meetings l H0 D ca M z a5 v1 ev1) hdX7_meetings q_462 q_463 q_53 q_465 q_464 ⟨Nat.le_of_ble_eq_true rfl, Nat.le_of_ble_eq_true rfl⟩ rfl rfl (Nat.le_of_ble_eq_true rfl) ⟨Nat.le_refl _, Nat.le_refl _⟩ dX10_soonest_57 (fun H locs hG hL => ?_)
  refine lv_icmp_ge (tgt := 103) K.1 K.2.1 dX10_soonest_60 (by decide) (fun h3 => ?_) (fun h3 => ?_)
  · rw [if_pos h3] at hf
    refine lv_iload K.1 K.2.1 dX10_soonest_103 (lv_at hl 3 rfl) ?_
    refine lv_iload_n K.1 K.2.1 dX10_soonest_105 rfl (lv_at hl 1 rfl) ?_
    obtain ⟨v4, ev4, hf⟩ := Option.bind_eq_some_iff.mp hf
    refine ah_callS (As := [.int x6, .int x2]) (rest := []) K hG hL hl.1 (ctX10_has l H0 D ca M z x6 x2 v4 ev4) hdX10_has q_490 q_370 q_50 q_371 ⟨Nat.le_of_ble_eq_true rfl, Nat.le_of_ble_eq_true rfl⟩ rfl rfl (Nat.le_of_ble_eq_true rfl) ⟨Nat.le_refl _, Nat.le_refl _⟩ dX10_soonest_106 (fun H locs hG hL => ?_)
    refine lv_if_eq (tgt := 120) K.1 K.2.1 dX10_soonest_109 (by decide) (fun h5 => ?_) (fun h5 => ?_)
    · rw [if_pos h5] at hf
      refine lv_bipush (v := (-4)) K.1 K.2.1 dX10_soonest_120 (by decide) ?_
      have hf := Option.some.inj hf
      subst hf
      exact ah_iret K hG hL (Nat.le_refl _) (Nat.le_refl _) dX10_soonest_122
    · rw [if_neg h5] at hf
      refine lv_aload K.1 K.2.1 dX10_soonest_112 (lv_at hl 2 rfl) ?_
      obtain ⟨v6, ev6, hf⟩ := Option.bind_eq_some_iff.mp hf
      obtain ⟨q7, eq7⟩ := ah_this ev6
      refine ah_callV (As := []) (rest := []) K hG hL hl.1 eq7 rfl (ctX7_meetings l H0 D ca M z a5 v6 ev6) hdX7_meetings q_462 q_463 q_53 q_465 q_464 ⟨Nat.le_of_ble_eq_true rfl, Nat.le_of_ble_eq_true rfl⟩ rfl rfl (Nat.le_of_ble_eq_true rfl) ⟨Nat.le_refl _, Nat.le_refl _⟩ dX10_soonest_114 (fun H locs hG hL => ?_)
      refine lv_goto (tgt := 122) K.1 K.2.1 dX10_soonest_117 (by decide) ?_
      have hf := Option.some.inj hf
      subst hf
      exact ah_iret K hG hL (Nat.le_refl _) (Nat.le_refl _) dX10_soonest_122
  · rw [if_neg h3] at hf
    refine lv_iload K.1 K.2.1 dX10_soonest_63 (lv_at hl 3 rfl) ?_
    refine lv_iload_n K.1 K.2.1 dX10_soonest_65 rfl (lv_at hl 1 rfl) ?_
    obtain ⟨v8, ev8, hf⟩ := Option.bind_eq_some_iff.mp hf
    refine ah_callS (As := [.int x6, .int x2]) (rest := []) K hG hL hl.1 (ctX10_has l H0 D ca M z x6 x2 v8 ev8) hdX10_has q_490 q_370 q_50 q_371 ⟨Nat.le_of_ble_eq_true rfl, Nat.le_of_ble_eq_true rfl⟩ rfl rfl (Nat.le_of_ble_eq_true rfl) ⟨Nat.le_refl _, Nat.le_refl _⟩ dX10_soonest_66 (fun H locs hG hL => ?_)
    refine lv_if_eq (tgt := 75) K.1 K.2.1 dX10_soonest_69 (by decide) (fun h9 => ?_) (fun h9 => ?_)
    · rw [if_pos h9] at hf
      refine lv_aload_n K.1 K.2.1 dX10_soonest_75 rfl (lv_at hl 0 rfl) ?_
      refine lv_iload K.1 K.2.1 dX10_soonest_76 (lv_at hl 3 rfl) ?_
      refine lv_aload K.1 K.2.1 dX10_soonest_78 (lv_at hl 2 rfl) ?_
      refine lv_iload K.1 K.2.1 dX10_soonest_80 (lv_at hl 4 rfl) ?_
      obtain ⟨v10, ev10, hf⟩ := Option.bind_eq_some_iff.mp hf
      obtain ⟨q11, eq11⟩ := ah_this ev10
      refine ah_callV (As := [.int x7]) (rest := [.int x6, .ref a0]) K hG hL hl.1 eq11 rfl (ctX7_one l H0 D ca M z a5 x7 v10 ev10) hdX7_one q_466 q_467 q_53 q_469 q_468 ⟨Nat.le_of_ble_eq_true rfl, Nat.le_of_ble_eq_true rfl⟩ rfl rfl (Nat.le_of_ble_eq_true rfl) ⟨Nat.le_refl _, Nat.le_refl _⟩ dX10_soonest_82 (fun H locs hG hL => ?_)
      refine lv_aload K.1 K.2.1 dX10_soonest_85 (lv_at hl 2 rfl) ?_
      refine lv_iload K.1 K.2.1 dX10_soonest_87 (lv_at hl 4 rfl) ?_
      obtain ⟨v12, ev12, hf⟩ := Option.bind_eq_some_iff.mp hf
      obtain ⟨q13, eq13⟩ := ah_this ev12
      refine ah_callV (As := [.int x7]) (rest := [.int v10, .int x6, .ref a0]) K hG hL hl.1 eq13 rfl (ctX7_other l H0 D ca M z a5 x7 v12 ev12) hdX7_other q_471 q_472 q_53 q_474 q_473 ⟨Nat.le_of_ble_eq_true rfl, Nat.le_of_ble_eq_true rfl⟩ rfl rfl (Nat.le_of_ble_eq_true rfl) ⟨Nat.le_refl _, Nat.le_refl _⟩ dX10_soonest_89 (fun H locs hG hL => ?_)
      obtain ⟨v14, ev14, hf⟩ := Option.bind_eq_some_iff.mp hf
      obtain ⟨q15, eq15⟩ := ah_this ev14
      refine ah_callV (As := [.int x6, .int v10, .int v12]) (rest := []) K hG hL hl.1 eq15 rfl (ctX10_choicesBehind l H0 D ca M z a0 x6 v10 v12 v14 ev14) hdX10_choicesBehind q_486 q_488 q_50 q_489 q_5 ⟨Nat.le_of_ble_eq_true rfl, Nat.le_of_ble_eq_true rfl⟩ rfl rfl (Nat.le_of_ble_eq_true rfl) ⟨Nat.le_refl _, Nat.le_refl _⟩ dX10_soonest_92 (fun H locs hG hL => ?_)
      refine lv_istore (lv' := [(6, .int v14), (0, .ref a0), (2, .int x2), (5, .ref a5), (7, .int x7)]) K.1 K.2.1 dX10_soonest_95 hl (by decide) rfl (fun ls hl => ?_)
      refine lv_iinc (v := x7 + 1) (lv' := [(7, .int (x7 + 1)), (6, .int v14), (0, .ref a0), (2, .int x2), (5, .ref a5)]) K.1 K.2.1 dX10_soonest_97 hl (k := 4) rfl rfl (by decide) rfl (fun ls hl => ?_)
      refine lv_goto (tgt := 53) K.1 K.2.1 dX10_soonest_100 (by decide) ?_
      exact hk53 a0 x2 a5 v14 (x7 + 1) _ _ _ hG hL (lv_sub hl [2, 3, 4, 1, 0] rfl) _ hf
    · rw [if_neg h9] at hf
      refine lv_iload K.1 K.2.1 dX10_soonest_72 (lv_at hl 4 rfl) ?_
      have hf := Option.some.inj hf
      subst hf
      exact ah_iret K hG hL (Nat.le_refl _) (Nat.le_refl _) dX10_soonest_74
theorem wX10_soonest_53 {p : Program} {l : Launch} {e : Env} {s : State} {m : MethodId} {args : Array Value} {below : List Frame} {meth : Method} {c : Code} {D : va_G} {ca : Nat → ClassId} {H0 : Heap} {M : ah_h} {z : Nat} (K : ah_K p s m args meth c D ca "ShipsThatMeet" cX10_soonest 8 (some .int))   (n : Nat) : ∀ (a0 : Nat) (x2 : Int32) (a5 : Nat) (x6 : Int32) (x7 : Int32)  (H : Heap) (locs : List Loc) (ls : Array Slot), ah_g H0 D ca M z H → ah_L H0 locs → lv_has ls 8 [(0, .ref a0), (2, .int x2), (5, .ref a5), (6, .int x6), (7, .int x7)] → ∀ Z, fX10_soonest_53   M n a0 x2 a5 x6 x7 = some Z → W p l e { frames := 5, cells := 0, slots := 0, locals := 109 } s m args below meth c H locs 0 0 (ah_Q below args s H0 D ca 0 0 (some (.int Z)) M z) (F0 m 53 ls []) := by
  induction n with
  | zero => intro a0 x2 a5 x6 x7 H locs ls hG hL hl Z hf; cases hf
  | succ n ih => exact wX10_soonest_53_b K  _ ih
def fX10_soonest (M : ah_h) (a0 : Nat) (x1 : Int32) (x2 : Int32) (x3 : Int32) : Option (Int32) := (ah_ob M a0 10).bind fun _ => (ah_gr M a0 10 0).bind fun v1 => (fX2_isShip M v1 x2).bind fun v2 => if v2 = 0 then (some (-1)) else ((fX10_refusalOfManAndMeetings M a0 x1 x3).bind fun v5 => if 0 ≤ v5 then ((ah_gr M a0 10 4).bind fun v8 => (ah_ar M v8 3 x3).bind fun v9 => (ah_gr M a0 10 0).bind fun v10 => (ah_gr M v10 2 5).bind fun v11 => (ah_ai M v11 x1).bind fun v12 => fX10_soonest_53 M ah_fu a0 x2 v9 ((1 : Int32) <<< (v12 &&& 31)) 0) else (some v5))
set_option maxRecDepth 100000 in
set_option maxHeartbeats 4000000 in
theorem ctX10_soonest (l : Launch) (H0 : Heap) (D : va_G) (ca : Nat → ClassId) (M : ah_h) (z : Nat) (a0 : Nat) (x1 : Int32) (x2 : Int32) (x3 : Int32) (Z : Int32) (hf : fX10_soonest M a0 x1 x2 x3 = some Z) : ah_ct l H0 D ca yX10_soonest cX10_soonest 8 (some .int) 5 109 0 0 [.ref a0, .int x1, .int x2, .int x3] M z (some (.int Z)) M z := by
  refine ah_of (by decide) (Nat.le_of_ble_eq_true rfl) ?_
  intro p e s m below meth c ls hin K hG hl
  have hL : ah_L H0 [] := ah_L.nil
  have hl : lv_has ls 8 [(0, .ref a0), (1, .int x1), (2, .int x2), (3, .int x3)] := hl
  unfold fX10_soonest at hf
  obtain ⟨-, -, hf⟩ := Option.bind_eq_some_iff.mp hf
  refine lv_aload_n K.1 K.2.1 dX10_soonest_0 rfl (lv_at hl 0 rfl) ?_
  obtain ⟨v1, ev1, hf⟩ := Option.bind_eq_some_iff.mp hf
  refine ah_getr K hG ev1 ffX10_10_10 dX10_soonest_1 ?_
  refine lv_iload_n K.1 K.2.1 dX10_soonest_4 rfl (lv_at hl 2 rfl) ?_
  obtain ⟨v2, ev2, hf⟩ := Option.bind_eq_some_iff.mp hf
  obtain ⟨q3, eq3⟩ := ah_this ev2
  refine ah_callV (As := [.int x2]) (rest := []) K hG hL hl.1 eq3 rfl (ctX2_isShip l H0 D ca M z v1 x2 v2 ev2) hdX2_isShip q_428 q_333 q_51 q_335 q_334 ⟨Nat.le_of_ble_eq_true rfl, Nat.le_of_ble_eq_true rfl⟩ rfl rfl (Nat.le_of_ble_eq_true rfl) ⟨Nat.le_refl _, Nat.le_refl _⟩ dX10_soonest_5 (fun H locs hG hL => ?_)
  refine lv_if_ne (tgt := 13) K.1 K.2.1 dX10_soonest_8 (by decide) (fun h4 => ?_) (fun h4 => ?_)
  · rw [if_neg h4] at hf
    refine lv_aload_n K.1 K.2.1 dX10_soonest_13 rfl (lv_at hl 0 rfl) ?_
    refine lv_iload_n K.1 K.2.1 dX10_soonest_14 rfl (lv_at hl 1 rfl) ?_
    refine lv_iload_n K.1 K.2.1 dX10_soonest_15 rfl (lv_at hl 3 rfl) ?_
    obtain ⟨v5, ev5, hf⟩ := Option.bind_eq_some_iff.mp hf
    obtain ⟨q6, eq6⟩ := ah_this ev5
    refine ah_callV (As := [.int x1, .int x3]) (rest := []) K hG hL hl.1 eq6 rfl (ctX10_refusalOfManAndMeetings l H0 D ca M z a0 x1 x3 v5 ev5) hdX10_refusalOfManAndMeetings q_454 q_456 q_50 q_457 q_3 ⟨Nat.le_of_ble_eq_true rfl, Nat.le_of_ble_eq_true rfl⟩ rfl rfl (Nat.le_of_ble_eq_true rfl) ⟨Nat.le_refl _, Nat.le_refl _⟩ dX10_soonest_16 (fun H locs hG hL => ?_)
    refine lv_istore (lv' := [(4, .int v5), (0, .ref a0), (1, .int x1), (2, .int x2), (3, .int x3)]) K.1 K.2.1 dX10_soonest_19 hl (by decide) rfl (fun ls hl => ?_)
    refine lv_iload K.1 K.2.1 dX10_soonest_21 (lv_at hl 0 rfl) ?_
    refine lv_if_ge (tgt := 29) K.1 K.2.1 dX10_soonest_23 (by decide) (fun h7 => ?_) (fun h7 => ?_)
    · rw [if_pos h7] at hf
      refine lv_aload_n K.1 K.2.1 dX10_soonest_29 rfl (lv_at hl 1 rfl) ?_
      obtain ⟨v8, ev8, hf⟩ := Option.bind_eq_some_iff.mp hf
      refine ah_getr K hG ev8 ffX10_28_10 dX10_soonest_30 ?_
      refine lv_iload_n K.1 K.2.1 dX10_soonest_33 rfl (lv_at hl 4 rfl) ?_
      obtain ⟨v9, ev9, hf⟩ := Option.bind_eq_some_iff.mp hf
      refine ah_aald (t := 3) K hG ev9 rfl rfl dX10_soonest_34 ?_
      refine lv_astore (lv' := [(5, .ref v9), (4, .int v5), (0, .ref a0), (1, .int x1), (2, .int x2), (3, .int x3)]) K.1 K.2.1 dX10_soonest_35 hl (by decide) rfl (fun ls hl => ?_)
      refine lv_iconst (v := 1) K.1 K.2.1 dX10_soonest_37 (by decide) ?_
      refine lv_aload_n K.1 K.2.1 dX10_soonest_38 rfl (lv_at hl 2 rfl) ?_
      obtain ⟨v10, ev10, hf⟩ := Option.bind_eq_some_iff.mp hf
      refine ah_getr K hG ev10 ffX10_10_10 dX10_soonest_39 ?_
      obtain ⟨v11, ev11, hf⟩ := Option.bind_eq_some_iff.mp hf
      refine ah_getr K hG ev11 ffX10_102_2 dX10_soonest_42 ?_
      refine lv_iload_n K.1 K.2.1 dX10_soonest_45 rfl (lv_at hl 3 rfl) ?_
      obtain ⟨v12, ev12, hf⟩ := Option.bind_eq_some_iff.mp hf
      refine ah_iald K hG ev12 dX10_soonest_46 ?_
      refine lv_ishl K.1 K.2.1 dX10_soonest_47 ?_
      refine lv_istore (lv' := [(6, .int ((1 : Int32) <<< (v12 &&& 31))), (5, .ref v9), (4, .int v5), (0, .ref a0), (1, .int x1), (2, .int x2), (3, .int x3)]) K.1 K.2.1 dX10_soonest_48 hl (by decide) rfl (fun ls hl => ?_)
      refine lv_iconst (v := 0) K.1 K.2.1 dX10_soonest_50 (by decide) ?_
      refine lv_istore (lv' := [(7, .int 0), (6, .int ((1 : Int32) <<< (v12 &&& 31))), (5, .ref v9), (4, .int v5), (0, .ref a0), (1, .int x1), (2, .int x2), (3, .int x3)]) K.1 K.2.1 dX10_soonest_51 hl (by decide) rfl (fun ls hl => ?_)
      exact wX10_soonest_53 K  ah_fu a0 x2 v9 ((1 : Int32) <<< (v12 &&& 31)) 0 _ _ _ hG hL (lv_sub hl [4, 6, 2, 1, 0] rfl) _ hf
    · rw [if_neg h7] at hf
      refine lv_iload K.1 K.2.1 dX10_soonest_26 (lv_at hl 0 rfl) ?_
      have hf := Option.some.inj hf
      subst hf
      exact ah_iret K hG hL (Nat.le_refl _) (Nat.le_refl _) dX10_soonest_28
  · rw [if_pos h4] at hf
    refine lv_iconst (v := (-1)) K.1 K.2.1 dX10_soonest_11 (by decide) ?_
    have hf := Option.some.inj hf
    subst hf
    exact ah_iret K hG hL (Nat.le_refl _) (Nat.le_refl _) dX10_soonest_12
def fX10_keep (M : ah_h) (z : Nat) (a0 : Nat) (x1 : Int32) (x2 : Int32) (x3 : Int32) (x4 : Int32) : Option (Int32 × ah_h × Nat) := (ah_ob M a0 10).bind fun _ => (fX10_isShelf M x1).bind fun v1 => if v1 = 0 then (some ((-1), M, z)) else (if x2 < 0 then (some ((-1), M, z)) else (if x2 ≤ 1 then (if x2 = 0 then ((ah_gr M a0 10 4).bind fun v13 => (ah_ar M v13 3 x1).bind fun v14 => (fX7_holdNothing M v14).bind fun v15 => some (0, v15, z)) else ((fX10_isKindAndFigure M x3 x4).bind fun v6 => if v6 = 0 then (some ((-1), M, z)) else ((ah_gr M a0 10 4).bind fun v8 => (ah_ar M v8 3 x1).bind fun v9 => (fX10_captainOf M z x3 x4).bind fun v10 => (fX7_holdCaptain v10.2.1 v9 v10.1).bind fun v11 => some (0, v11, v10.2.2)))) else (some ((-1), M, z))))
set_option maxRecDepth 100000 in
set_option maxHeartbeats 4000000 in
theorem ctX10_keep (l : Launch) (H0 : Heap) (D : va_G) (ca : Nat → ClassId) (M : ah_h) (z : Nat) (a0 : Nat) (x1 : Int32) (x2 : Int32) (x3 : Int32) (x4 : Int32) (Z : Int32 × ah_h × Nat) (hf : fX10_keep M z a0 x1 x2 x3 x4 = some Z) : ah_ct l H0 D ca yX10_keep cX10_keep 5 (some .int) 6 128 1 2 [.ref a0, .int x1, .int x2, .int x3, .int x4] M z (some (.int Z.1)) Z.2.1 Z.2.2 := by
  refine ah_of (by decide) (Nat.le_of_ble_eq_true rfl) ?_
  intro p e s m below meth c ls hin K hG hl
  have hL : ah_L H0 [] := ah_L.nil
  have hl : lv_has ls 5 [(0, .ref a0), (1, .int x1), (2, .int x2), (3, .int x3), (4, .int x4)] := hl
  unfold fX10_keep at hf
  obtain ⟨-, -, hf⟩ := Option.bind_eq_some_iff.mp hf
  refine lv_iload_n K.1 K.2.1 dX10_keep_0 rfl (lv_at hl 1 rfl) ?_
  obtain ⟨v1, ev1, hf⟩ := Option.bind_eq_some_iff.mp hf
  refine ah_callS (As := [.int x1]) (rest := []) K hG hL hl.1 (ctX10_isShelf l H0 D ca M z x1 v1 ev1) hdX10_isShelf q_218 q_219 q_50 q_220 ⟨Nat.le_of_ble_eq_true rfl, Nat.le_of_ble_eq_true rfl⟩ rfl rfl (Nat.le_of_ble_eq_true rfl) ⟨by show _ ≤ 1; omega, by show _ ≤ 2; omega⟩ dX10_keep_1 (fun H locs hG hL => ?_)
  refine lv_if_eq (tgt := 16) K.1 K.2.1 dX10_keep_4 (by decide) (fun h2 => ?_) (fun h2 => ?_)
  · rw [if_pos h2] at hf
    refine lv_iconst (v := (-1)) K.1 K.2.1 dX10_keep_16 (by decide) ?_
    have hf := Option.some.inj hf
    subst hf
    exact ah_iret K hG hL (by omega) (by omega) dX10_keep_17
  · rw [if_neg h2] at hf
    refine lv_iload_n K.1 K.2.1 dX10_keep_7 rfl (lv_at hl 2 rfl) ?_
    refine lv_if_lt (tgt := 16) K.1 K.2.1 dX10_keep_8 (by decide) (fun h3 => ?_) (fun h3 => ?_)
    · rw [if_pos h3] at hf
      refine lv_iconst (v := (-1)) K.1 K.2.1 dX10_keep_16 (by decide) ?_
      have hf := Option.some.inj hf
      subst hf
      exact ah_iret K hG hL (by omega) (by omega) dX10_keep_17
    · rw [if_neg h3] at hf
      refine lv_iload_n K.1 K.2.1 dX10_keep_11 rfl (lv_at hl 2 rfl) ?_
      refine lv_iconst (v := 1) K.1 K.2.1 dX10_keep_12 (by decide) ?_
      refine lv_icmp_le (tgt := 18) K.1 K.2.1 dX10_keep_13 (by decide) (fun h4 => ?_) (fun h4 => ?_)
      · rw [if_pos h4] at hf
        refine lv_iload_n K.1 K.2.1 dX10_keep_18 rfl (lv_at hl 2 rfl) ?_
        refine lv_if_ne (tgt := 33) K.1 K.2.1 dX10_keep_19 (by decide) (fun h5 => ?_) (fun h5 => ?_)
        · rw [if_neg h5] at hf
          refine lv_iload_n K.1 K.2.1 dX10_keep_33 rfl (lv_at hl 3 rfl) ?_
          refine lv_iload K.1 K.2.1 dX10_keep_34 (lv_at hl 4 rfl) ?_
          obtain ⟨v6, ev6, hf⟩ := Option.bind_eq_some_iff.mp hf
          refine ah_callS (As := [.int x3, .int x4]) (rest := []) K hG hL hl.1 (ctX10_isKindAndFigure l H0 D ca M z x3 x4 v6 ev6) hdX10_isKindAndFigure q_253 q_254 q_50 q_255 ⟨Nat.le_of_ble_eq_true rfl, Nat.le_of_ble_eq_true rfl⟩ rfl rfl (Nat.le_of_ble_eq_true rfl) ⟨by show _ ≤ 1; omega, by show _ ≤ 2; omega⟩ dX10_keep_36 (fun H locs hG hL => ?_)
          refine lv_if_ne (tgt := 44) K.1 K.2.1 dX10_keep_39 (by decide) (fun h7 => ?_) (fun h7 => ?_)
          · rw [if_neg h7] at hf
            refine lv_aload_n K.1 K.2.1 dX10_keep_44 rfl (lv_at hl 0 rfl) ?_
            obtain ⟨v8, ev8, hf⟩ := Option.bind_eq_some_iff.mp hf
            refine ah_getr K hG ev8 ffX10_28_10 dX10_keep_45 ?_
            refine lv_iload_n K.1 K.2.1 dX10_keep_48 rfl (lv_at hl 1 rfl) ?_
            obtain ⟨v9, ev9, hf⟩ := Option.bind_eq_some_iff.mp hf
            refine ah_aald (t := 3) K hG ev9 rfl rfl dX10_keep_49 ?_
            refine lv_iload_n K.1 K.2.1 dX10_keep_50 rfl (lv_at hl 3 rfl) ?_
            refine lv_iload K.1 K.2.1 dX10_keep_51 (lv_at hl 4 rfl) ?_
            obtain ⟨v10, ev10, hf⟩ := Option.bind_eq_some_iff.mp hf
            refine ah_callS (As := [.int x3, .int x4]) (rest := [.ref v9]) K hG hL hl.1 (ctX10_captainOf l H0 D ca M z x3 x4 v10 ev10) hdX10_captainOf q_256 q_257 q_50 q_258 ⟨Nat.le_of_ble_eq_true rfl, Nat.le_of_ble_eq_true rfl⟩ rfl rfl (Nat.le_of_ble_eq_true rfl) ⟨by show _ ≤ 1; omega, by show _ ≤ 2; omega⟩ dX10_keep_53 (fun H locs hG hL => ?_)
            obtain ⟨v11, ev11, hf⟩ := Option.bind_eq_some_iff.mp hf
            obtain ⟨q12, eq12⟩ := ah_this ev11
            refine ah_callV (As := [.ref v10.1]) (rest := []) K hG hL hl.1 eq12 rfl (ctX7_holdCaptain l H0 D ca v10.2.1 v10.2.2 v9 v10.1 v11 ev11) hdX7_holdCaptain q_674 q_675 q_53 q_677 q_676 ⟨Nat.le_of_ble_eq_true rfl, Nat.le_of_ble_eq_true rfl⟩ rfl rfl (Nat.le_of_ble_eq_true rfl) ⟨by show _ ≤ 1; omega, by show _ ≤ 2; omega⟩ dX10_keep_56 (fun H locs hG hL => ?_)
            refine lv_iconst (v := 0) K.1 K.2.1 dX10_keep_59 (by decide) ?_
            have hf := Option.some.inj hf
            subst hf
            exact ah_iret K hG hL (by omega) (by omega) dX10_keep_60
          · rw [if_pos h7] at hf
            refine lv_iconst (v := (-1)) K.1 K.2.1 dX10_keep_42 (by decide) ?_
            have hf := Option.some.inj hf
            subst hf
            exact ah_iret K hG hL (by omega) (by omega) dX10_keep_43
        · rw [if_pos h5] at hf
          refine lv_aload_n K.1 K.2.1 dX10_keep_22 rfl (lv_at hl 0 rfl) ?_
          obtain ⟨v13, ev13, hf⟩ := Option.bind_eq_some_iff.mp hf
          refine ah_getr K hG ev13 ffX10_28_10 dX10_keep_23 ?_
          refine lv_iload_n K.1 K.2.1 dX10_keep_26 rfl (lv_at hl 1 rfl) ?_
          obtain ⟨v14, ev14, hf⟩ := Option.bind_eq_some_iff.mp hf
          refine ah_aald (t := 3) K hG ev14 rfl rfl dX10_keep_27 ?_
          obtain ⟨v15, ev15, hf⟩ := Option.bind_eq_some_iff.mp hf
          obtain ⟨q16, eq16⟩ := ah_this ev15
          refine ah_callV (As := []) (rest := []) K hG hL hl.1 eq16 rfl (ctX7_holdNothing l H0 D ca M z v14 v15 ev15) hdX7_holdNothing q_670 q_671 q_53 q_673 q_672 ⟨Nat.le_of_ble_eq_true rfl, Nat.le_of_ble_eq_true rfl⟩ rfl rfl (Nat.le_of_ble_eq_true rfl) ⟨by show _ ≤ 1; omega, by show _ ≤ 2; omega⟩ dX10_keep_28 (fun H locs hG hL => ?_)
          refine lv_iconst (v := 0) K.1 K.2.1 dX10_keep_31 (by decide) ?_
          have hf := Option.some.inj hf
          subst hf
          exact ah_iret K hG hL (by omega) (by omega) dX10_keep_32
      · rw [if_neg h4] at hf
        refine lv_iconst (v := (-1)) K.1 K.2.1 dX10_keep_16 (by decide) ?_
        have hf := Option.some.inj hf
        subst hf
        exact ah_iret K hG hL (by omega) (by omega) dX10_keep_17
def fX10_fillChances_99  (k42 : ah_h → Nat → Nat → Int64 → Int32 → Option (Int64 × ah_h))  (M : ah_h) (a0 : Nat) (a2 : Nat) (y3 : Int64) (x5 : Int32) : Option (Int64 × ah_h) := k42 M a0 a2 y3 (x5 + 1)
set_option maxRecDepth 100000 in
set_option maxHeartbeats 4000000 in
theorem wX10_fillChances_99 {p : Program} {l : Launch} {e : Env} {s : State} {m : MethodId} {args : Array Value} {below : List Frame} {meth : Method} {c : Code} {D : va_G} {ca : Nat → ClassId} {H0 : Heap} {z : Nat} (K : ah_K p s m args meth c D ca "ShipsThatMeet" cX10_fillChances 6 (some .long))  (k42 : ah_h → Nat → Nat → Int64 → Int32 → Option (Int64 × ah_h)) (hk42 : ∀ (M : ah_h) (a0 : Nat) (a2 : Nat) (y3 : Int64) (x5 : Int32)  (H : Heap) (locs : List Loc) (ls : Array Slot), ah_g H0 D ca M z H → ah_L H0 locs → lv_has ls 6 [(0, .ref a0), (2, .ref a2), (3, .long y3), (5, .int x5)] → ∀ Z, k42 M a0 a2 y3 x5 = some Z → W p l e { frames := 3, cells := 0, slots := 0, locals := 65 } s m args below meth c H locs 0 0 (ah_Q below args s H0 D ca 0 0 (some (.long Z.1)) Z.2 z) (F0 m 42 ls [])) : ∀ (M : ah_h) (a0 : Nat) (a2 : Nat) (y3 : Int64) (x5 : Int32)  (H : Heap) (locs : List Loc) (ls : Array Slot), ah_g H0 D ca M z H → ah_L H0 locs → lv_has ls 6 [(0, .ref a0), (2, .ref a2), (3, .long y3), (5, .int x5)] → ∀ Z, fX10_fillChances_99  k42  M a0 a2 y3 x5 = some Z → W p l e { frames := 3, cells := 0, slots := 0, locals := 65 } s m args below meth c H locs 0 0 (ah_Q below args s H0 D ca 0 0 (some (.long Z.1)) Z.2 z) (F0 m 99 ls []) := by
  intro M a0 a2 y3 x5 H locs ls hG hL hl Z hf
  unfold fX10_fillChances_99 at hf
  refine lv_iinc (v := x5 + 1) (lv' := [(5, .int (x5 + 1)), (0, .ref a0), (2, .ref a2), (3, .long y3)]) K.1 K.2.1 dX10_fillChances_99 hl (k := 3) rfl rfl (by decide) rfl (fun ls hl => ?_)
  refine lv_goto (tgt := 42) K.1 K.2.1 dX10_fillChances_102 (by decide) ?_
  exact hk42 M a0 a2 y3 (x5 + 1) _ _ _ hG hL (lv_sub hl [1, 2, 3, 0] rfl) _ hf
def fX10_fillChances_42_b   (k42 : ah_h → Nat → Nat → Int64 → Int32 → Option (Int64 × ah_h))  (M : ah_h) (a0 : Nat) (a2 : Nat) (y3 : Int64) (x5 : Int32) : Option (Int64 × ah_h) := (fX7_meetings M a2).bind fun v1 => if v1 ≤ x5 then (some (y3, M)) else (if 8 ≤ x5 then (some (y3, M)) else ((ah_gr M a0 10 0).bind fun v5 => (fX7_one M a2 x5).bind fun v6 => (fX7_other M a2 x5).bind fun v8 => (fX2_canMeet M v5 v6 v8).bind fun v10 => if v10 = 0 then (fX10_fillChances_99 k42 M a0 a2 y3 x5) else ((fX7_one M a2 x5).bind fun v13 => (fX7_other M a2 x5).bind fun v15 => (fX10_spreadChances M a0 v13 v15).bind fun v17 => fX10_fillChances_99 k42 v17.2 a0 a2 (y3 * v17.1) x5)))
def fX10_fillChances_42    : Nat → ah_h → Nat → Nat → Int64 → Int32 → Option (Int64 × ah_h)
  | 0 => fun _ _ _ _ _ => none
  | n + 1 => fun M a0 a2 y3 x5 => fX10_fillChances_42_b   (fX10_fillChances_42    n)  M a0 a2 y3 x5
set_option maxRecDepth 100000 in
set_option maxHeartbeats 4000000 in
theorem wX10_fillChances_42_b {p : Program} {l : Launch} {e : Env} {s : State} {m : MethodId} {args : Array Value} {below : List Frame} {meth : Method} {c : Code} {D : va_G} {ca : Nat → ClassId} {H0 : Heap} {z : Nat} (K : ah_K p s m args meth c D ca "ShipsThatMeet" cX10_fillChances 6 (some .long))   (k42 : ah_h → Nat → Nat → Int64 → Int32 → Option (Int64 × ah_h)) (hk42 : ∀ (M : ah_h) (a0 : Nat) (a2 : Nat) (y3 : Int64) (x5 : Int32)  (H : Heap) (locs : List Loc) (ls : Array Slot), ah_g H0 D ca M z H → ah_L H0 locs → lv_has ls 6 [(0, .ref a0), (2, .ref a2), (3, .long y3), (5, .int x5)] → ∀ Z, k42 M a0 a2 y3 x5 = some Z → W p l e { frames := 3, cells := 0, slots := 0, locals := 65 } s m args below meth c H locs 0 0 (ah_Q below args s H0 D ca 0 0 (some (.long Z.1)) Z.2 z) (F0 m 42 ls [])) : ∀ (M : ah_h) (a0 : Nat) (a2 : Nat) (y3 : Int64) (x5 : Int32)  (H : Heap) (locs : List Loc) (ls : Array Slot), ah_g H0 D ca M z H → ah_L H0 locs → lv_has ls 6 [(0, .ref a0), (2, .ref a2), (3, .long y3), (5, .int x5)] → ∀ Z, fX10_fillChances_42_b   k42  M a0 a2 y3 x5 = some Z → W p l e { frames := 3, cells := 0, slots := 0, locals := 65 } s m args below meth c H locs 0 0 (ah_Q below args s H0 D ca 0 0 (some (.long Z.1)) Z.2 z) (F0 m 42 ls []) := by
  intro M a0 a2 y3 x5 H locs ls hG hL hl Z hf
  unfold fX10_fillChances_42_b at hf
  refine lv_iload K.1 K.2.1 dX10_fillChances_42 (lv_at hl 3 rfl) ?_
  refine lv_aload_n K.1 K.2.1 dX10_fillChances_44 rfl (lv_at hl 1 rfl) ?_
  obtain ⟨v1, ev1, hf⟩ := Option.bind_eq_some_iff.mp hf
  obtain ⟨q2, eq2⟩ := ah_this ev1
  refine ah_callV (As := []) (rest := [.int x5]) K hG hL hl.1 eq2 rfl (ctX7_meetings l H0 D ca M z a2 v1 ev1) hdX7_meetings q_462 q_463 q_53 q_465 q_464 ⟨Nat.le_of_ble_eq_true rfl, Nat.le_of_ble_eq_true rfl⟩ rfl rfl (Nat.le_of_ble_eq_true rfl) ⟨Nat.le_refl _, Nat.le_refl _⟩ dX10_fillChances_45 (fun H locs hG hL => ?_)
  refine lv_icmp_ge (tgt := 105) K.1 K.2.1 dX10_fillChances_48 (by decide) (fun h3 => ?_) (fun h3 => ?_)
  · rw [if_pos h3] at hf
    refine lv_lload_n K.1 K.2.1 dX10_fillChances_105 rfl (lv_at hl 2 rfl) ?_
    have hf := Option.some.inj hf
    subst hf
    exact ah_lret K hG hL (Nat.le_refl _) (Nat.le_refl _) dX10_fillChances_106
  · rw [if_neg h3] at hf
    refine lv_iload K.1 K.2.1 dX10_fillChances_51 (lv_at hl 3 rfl) ?_
    refine lv_bipush (v := 8) K.1 K.2.1 dX10_fillChances_53 (by decide) ?_
    refine lv_icmp_ge (tgt := 105) K.1 K.2.1 dX10_fillChances_55 (by decide) (fun h4 => ?_) (fun h4 => ?_)
    · rw [if_pos h4] at hf
      refine lv_lload_n K.1 K.2.1 dX10_fillChances_105 rfl (lv_at hl 2 rfl) ?_
      have hf := Option.some.inj hf
      subst hf
      exact ah_lret K hG hL (Nat.le_refl _) (Nat.le_refl _) dX10_fillChances_106
    · rw [if_neg h4] at hf
      refine lv_aload_n K.1 K.2.1 dX10_fillChances_58 rfl (lv_at hl 0 rfl) ?_
      obtain ⟨v5, ev5, hf⟩ := Option.bind_eq_some_iff.mp hf
      refine ah_getr K hG ev5 ffX10_10_10 dX10_fillChances_59 ?_
      refine lv_aload_n K.1 K.2.1 dX10_fillChances_62 rfl (lv_at hl 1 rfl) ?_
      refine lv_iload K.1 K.2.1 dX10_fillChances_63 (lv_at hl 3 rfl) ?_
      obtain ⟨v6, ev6, hf⟩ := Option.bind_eq_some_iff.mp hf
      obtain ⟨q7, eq7⟩ := ah_this ev6
      refine ah_callV (As := [.int x5]) (rest := [.ref v5]) K hG hL hl.1 eq7 rfl (ctX7_one l H0 D ca M z a2 x5 v6 ev6) hdX7_one q_466 q_467 q_53 q_469 q_468 ⟨Nat.le_of_ble_eq_true rfl, Nat.le_of_ble_eq_true rfl⟩ rfl rfl (Nat.le_of_ble_eq_true rfl) ⟨Nat.le_refl _, Nat.le_refl _⟩ dX10_fillChances_65 (fun H locs hG hL => ?_)
      refine lv_aload_n K.1 K.2.1 dX10_fillChances_68 rfl (lv_at hl 1 rfl) ?_
      refine lv_iload K.1 K.2.1 dX10_fillChances_69 (lv_at hl 3 rfl) ?_
      obtain ⟨v8, ev8, hf⟩ := Option.bind_eq_some_iff.mp hf
      obtain ⟨q9, eq9⟩ := ah_this ev8
      refine ah_callV (As := [.int x5]) (rest := [.int v6, .ref v5]) K hG hL hl.1 eq9 rfl (ctX7_other l H0 D ca M z a2 x5 v8 ev8) hdX7_other q_471 q_472 q_53 q_474 q_473 ⟨Nat.le_of_ble_eq_true rfl, Nat.le_of_ble_eq_true rfl⟩ rfl rfl (Nat.le_of_ble_eq_true rfl) ⟨Nat.le_refl _, Nat.le_refl _⟩ dX10_fillChances_71 (fun H locs hG hL => ?_)
      obtain ⟨v10, ev10, hf⟩ := Option.bind_eq_some_iff.mp hf
      obtain ⟨q11, eq11⟩ := ah_this ev10
      refine ah_callV (As := [.int v6, .int v8]) (rest := []) K hG hL hl.1 eq11 rfl (ctX2_canMeet l H0 D ca M z v5 v6 v8 v10 ev10) hdX2_canMeet q_449 q_345 q_51 q_347 q_346 ⟨Nat.le_of_ble_eq_true rfl, Nat.le_of_ble_eq_true rfl⟩ rfl rfl (Nat.le_of_ble_eq_true rfl) ⟨Nat.le_refl _, Nat.le_refl _⟩ dX10_fillChances_74 (fun H locs hG hL => ?_)
      refine lv_if_eq (tgt := 99) K.1 K.2.1 dX10_fillChances_77 (by decide) (fun h12 => ?_) (fun h12 => ?_)
      · rw [if_pos h12] at hf
        exact wX10_fillChances_99 K k42 hk42 M a0 a2 y3 x5 _ _ _ hG hL (lv_sub hl [0, 1, 2, 3] rfl) _ hf
      · rw [if_neg h12] at hf
        refine lv_lload_n K.1 K.2.1 dX10_fillChances_80 rfl (lv_at hl 2 rfl) ?_
        refine lv_aload_n K.1 K.2.1 dX10_fillChances_81 rfl (lv_at hl 0 rfl) ?_
        refine lv_aload_n K.1 K.2.1 dX10_fillChances_82 rfl (lv_at hl 1 rfl) ?_
        refine lv_iload K.1 K.2.1 dX10_fillChances_83 (lv_at hl 3 rfl) ?_
        obtain ⟨v13, ev13, hf⟩ := Option.bind_eq_some_iff.mp hf
        obtain ⟨q14, eq14⟩ := ah_this ev13
        refine ah_callV (As := [.int x5]) (rest := [.ref a0, .long y3]) K hG hL hl.1 eq14 rfl (ctX7_one l H0 D ca M z a2 x5 v13 ev13) hdX7_one q_466 q_467 q_53 q_469 q_468 ⟨Nat.le_of_ble_eq_true rfl, Nat.le_of_ble_eq_true rfl⟩ rfl rfl (Nat.le_of_ble_eq_true rfl) ⟨Nat.le_refl _, Nat.le_refl _⟩ dX10_fillChances_85 (fun H locs hG hL => ?_)
        refine lv_aload_n K.1 K.2.1 dX10_fillChances_88 rfl (lv_at hl 1 rfl) ?_
        refine lv_iload K.1 K.2.1 dX10_fillChances_89 (lv_at hl 3 rfl) ?_
        obtain ⟨v15, ev15, hf⟩ := Option.bind_eq_some_iff.mp hf
        obtain ⟨q16, eq16⟩ := ah_this ev15
        refine ah_callV (As := [.int x5]) (rest := [.int v13, .ref a0, .long y3]) K hG hL hl.1 eq16 rfl (ctX7_other l H0 D ca M z a2 x5 v15 ev15) hdX7_other q_471 q_472 q_53 q_474 q_473 ⟨Nat.le_of_ble_eq_true rfl, Nat.le_of_ble_eq_true rfl⟩ rfl rfl (Nat.le_of_ble_eq_true rfl) ⟨Nat.le_refl _, Nat.le_refl _⟩ dX10_fillChances_91 (fun H locs hG hL => ?_)
        obtain ⟨v17, ev17, hf⟩ := Option.bind_eq_some_iff.mp hf
        obtain ⟨q18, eq18⟩ := ah_this ev17
        refine ah_callV (As := [.int v13, .int v15]) (rest := [.long y3]) K hG hL hl.1 eq18 rfl (ctX10_spreadChances l H0 D ca M z a0 v13 v15 v17 ev17) hdX10_spreadChances q_510 q_512 q_50 q_513 q_7 ⟨Nat.le_of_ble_eq_true rfl, Nat.le_of_ble_eq_true rfl⟩ rfl rfl (Nat.le_of_ble_eq_true rfl) ⟨Nat.le_refl _, Nat.le_refl _⟩ dX10_fillChances_94 (fun H locs hG hL => ?_)
        refine lv_lmul K.1 K.2.1 dX10_fillChances_97 ?_
        refine lv_lstore_n (lv' := [(3, .long (y3 * v17.1)), (0, .ref a0), (2, .ref a2), (5, .int x5)]) K.1 K.2.1 dX10_fillChances_98 rfl hl (by decide) rfl (fun ls hl => ?_)
        exact wX10_fillChances_99 K k42 hk42 v17.2 a0 a2 (y3 * v17.1) x5 _ _ _ hG hL (lv_sub hl [1, 2, 0, 3] rfl) _ hf
theorem wX10_fillChances_42 {p : Program} {l : Launch} {e : Env} {s : State} {m : MethodId} {args : Array Value} {below : List Frame} {meth : Method} {c : Code} {D : va_G} {ca : Nat → ClassId} {H0 : Heap} {z : Nat} (K : ah_K p s m args meth c D ca "ShipsThatMeet" cX10_fillChances 6 (some .long))   (n : Nat) : ∀ (M : ah_h) (a0 : Nat) (a2 : Nat) (y3 : Int64) (x5 : Int32)  (H : Heap) (locs : List Loc) (ls : Array Slot), ah_g H0 D ca M z H → ah_L H0 locs → lv_has ls 6 [(0, .ref a0), (2, .ref a2), (3, .long y3), (5, .int x5)] → ∀ Z, fX10_fillChances_42    n M a0 a2 y3 x5 = some Z → W p l e { frames := 3, cells := 0, slots := 0, locals := 65 } s m args below meth c H locs 0 0 (ah_Q below args s H0 D ca 0 0 (some (.long Z.1)) Z.2 z) (F0 m 42 ls []) := by
  induction n with
  | zero => intro M a0 a2 y3 x5 H locs ls hG hL hl Z hf; cases hf
  | succ n ih => exact wX10_fillChances_42_b K  _ ih
def fX10_fillChances_30  (k2 : ah_h → Nat → Int32 → Nat → Int32 → Option (Int64 × ah_h))  (M : ah_h) (a0 : Nat) (x1 : Int32) (a2 : Nat) (x3 : Int32) (s0 : Nat) (s1 : Int32) (s2 : Int64) : Option (Int64 × ah_h) := (ah_sj M s0 s1 s2).bind fun M1 => k2 M1 a0 x1 a2 (x3 + 1)
set_option maxRecDepth 100000 in
set_option maxHeartbeats 4000000 in
theorem wX10_fillChances_30 {p : Program} {l : Launch} {e : Env} {s : State} {m : MethodId} {args : Array Value} {below : List Frame} {meth : Method} {c : Code} {D : va_G} {ca : Nat → ClassId} {H0 : Heap} {z : Nat} (K : ah_K p s m args meth c D ca "ShipsThatMeet" cX10_fillChances 6 (some .long))  (k2 : ah_h → Nat → Int32 → Nat → Int32 → Option (Int64 × ah_h)) (hk2 : ∀ (M : ah_h) (a0 : Nat) (x1 : Int32) (a2 : Nat) (x3 : Int32)  (H : Heap) (locs : List Loc) (ls : Array Slot), ah_g H0 D ca M z H → ah_L H0 locs → lv_has ls 6 [(0, .ref a0), (1, .int x1), (2, .ref a2), (3, .int x3)] → ∀ Z, k2 M a0 x1 a2 x3 = some Z → W p l e { frames := 3, cells := 0, slots := 0, locals := 65 } s m args below meth c H locs 0 0 (ah_Q below args s H0 D ca 0 0 (some (.long Z.1)) Z.2 z) (F0 m 2 ls [])) : ∀ (M : ah_h) (a0 : Nat) (x1 : Int32) (a2 : Nat) (x3 : Int32) (s0 : Nat) (s1 : Int32) (s2 : Int64)  (H : Heap) (locs : List Loc) (ls : Array Slot), ah_g H0 D ca M z H → ah_L H0 locs → lv_has ls 6 [(0, .ref a0), (1, .int x1), (2, .ref a2), (3, .int x3)] → ∀ Z, fX10_fillChances_30  k2  M a0 x1 a2 x3 s0 s1 s2 = some Z → W p l e { frames := 3, cells := 0, slots := 0, locals := 65 } s m args below meth c H locs 0 0 (ah_Q below args s H0 D ca 0 0 (some (.long Z.1)) Z.2 z) (F0 m 30 ls [.long s2, .int s1, .ref s0]) := by
  intro M a0 x1 a2 x3 s0 s1 s2 H locs ls hG hL hl Z hf
  unfold fX10_fillChances_30 at hf
  obtain ⟨M1, eM1, hf⟩ := Option.bind_eq_some_iff.mp hf
  refine ah_last K hG hL eM1 dX10_fillChances_30 (fun H locs hG hL => ?_)
  refine lv_iinc (v := x3 + 1) (lv' := [(3, .int (x3 + 1)), (0, .ref a0), (1, .int x1), (2, .ref a2)]) K.1 K.2.1 dX10_fillChances_31 hl (k := 3) rfl rfl (by decide) rfl (fun ls hl => ?_)
  refine lv_goto (tgt := 2) K.1 K.2.1 dX10_fillChances_34 (by decide) ?_
  exact hk2 M1 a0 x1 a2 (x3 + 1) _ _ _ hG hL (lv_sub hl [1, 2, 3, 0] rfl) _ hf
def fX10_fillChances_2_b   (k2 : ah_h → Nat → Int32 → Nat → Int32 → Option (Int64 × ah_h))  (M : ah_h) (a0 : Nat) (x1 : Int32) (a2 : Nat) (x3 : Int32) : Option (Int64 × ah_h) := if 5 ≤ x3 then (fX10_fillChances_42 ah_fu M a0 a2 1 0) else ((ah_gr M a0 10 7).bind fun v2 => (ah_gr M a0 10 0).bind fun v3 => (ah_gr M v3 2 5).bind fun v4 => (ah_ai M v4 x1).bind fun v5 => if x3 = v5 then (fX10_fillChances_30 k2 M a0 x1 a2 x3 v2 x3 1) else (fX10_fillChances_30 k2 M a0 x1 a2 x3 v2 x3 0))
def fX10_fillChances_2    : Nat → ah_h → Nat → Int32 → Nat → Int32 → Option (Int64 × ah_h)
  | 0 => fun _ _ _ _ _ => none
  | n + 1 => fun M a0 x1 a2 x3 => fX10_fillChances_2_b   (fX10_fillChances_2    n)  M a0 x1 a2 x3
set_option maxRecDepth 100000 in
set_option maxHeartbeats 4000000 in
theorem wX10_fillChances_2_b {p : Program} {l : Launch} {e : Env} {s : State} {m : MethodId} {args : Array Value} {below : List Frame} {meth : Method} {c : Code} {D : va_G} {ca : Nat → ClassId} {H0 : Heap} {z : Nat} (K : ah_K p s m args meth c D ca "ShipsThatMeet" cX10_fillChances 6 (some .long))   (k2 : ah_h → Nat → Int32 → Nat → Int32 → Option (Int64 × ah_h)) (hk2 : ∀ (M : ah_h) (a0 : Nat) (x1 : Int32) (a2 : Nat) (x3 : Int32)  (H : Heap) (locs : List Loc) (ls : Array Slot), ah_g H0 D ca M z H → ah_L H0 locs → lv_has ls 6 [(0, .ref a0), (1, .int x1), (2, .ref a2), (3, .int x3)] → ∀ Z, k2 M a0 x1 a2 x3 = some Z → W p l e { frames := 3, cells := 0, slots := 0, locals := 65 } s m args below meth c H locs 0 0 (ah_Q below args s H0 D ca 0 0 (some (.long Z.1)) Z.2 z) (F0 m 2 ls [])) : ∀ (M : ah_h) (a0 : Nat) (x1 : Int32) (a2 : Nat) (x3 : Int32)  (H : Heap) (locs : List Loc) (ls : Array Slot), ah_g H0 D ca M z H → ah_L H0 locs → lv_has ls 6 [(0, .ref a0), (1, .int x1), (2, .ref a2), (3, .int x3)] → ∀ Z, fX10_fillChances_2_b   k2  M a0 x1 a2 x3 = some Z → W p l e { frames := 3, cells := 0, slots := 0, locals := 65 } s m args below meth c H locs 0 0 (ah_Q below args s H0 D ca 0 0 (some (.long Z.1)) Z.2 z) (F0 m 2 ls []) := by
  intro M a0 x1 a2 x3 H locs ls hG hL hl Z hf
  unfold fX10_fillChances_2_b at hf
  refine lv_iload_n K.1 K.2.1 dX10_fillChances_2 rfl (lv_at hl 3 rfl) ?_
  refine lv_iconst (v := 5) K.1 K.2.1 dX10_fillChances_3 (by decide) ?_
  refine lv_icmp_ge (tgt := 37) K.1 K.2.1 dX10_fillChances_4 (by decide) (fun h1 => ?_) (fun h1 => ?_)
  · rw [if_pos h1] at hf
    refine lv_lconst (v := 1) K.1 K.2.1 dX10_fillChances_37 (by decide) ?_
    refine lv_lstore_n (lv' := [(3, .long 1), (0, .ref a0), (1, .int x1), (2, .ref a2)]) K.1 K.2.1 dX10_fillChances_38 rfl hl (by decide) rfl (fun ls hl => ?_)
    refine lv_iconst (v := 0) K.1 K.2.1 dX10_fillChances_39 (by decide) ?_
    refine lv_istore (lv' := [(5, .int 0), (3, .long 1), (0, .ref a0), (1, .int x1), (2, .ref a2)]) K.1 K.2.1 dX10_fillChances_40 hl (by decide) rfl (fun ls hl => ?_)
    exact wX10_fillChances_42 K  ah_fu M a0 a2 1 0 _ _ _ hG hL (lv_sub hl [2, 4, 1, 0] rfl) _ hf
  · rw [if_neg h1] at hf
    refine lv_aload_n K.1 K.2.1 dX10_fillChances_7 rfl (lv_at hl 0 rfl) ?_
    obtain ⟨v2, ev2, hf⟩ := Option.bind_eq_some_iff.mp hf
    refine ah_getr K hG ev2 ffX10_42_10 dX10_fillChances_8 ?_
    refine lv_iload_n K.1 K.2.1 dX10_fillChances_11 rfl (lv_at hl 3 rfl) ?_
    refine lv_iload_n K.1 K.2.1 dX10_fillChances_12 rfl (lv_at hl 3 rfl) ?_
    refine lv_aload_n K.1 K.2.1 dX10_fillChances_13 rfl (lv_at hl 0 rfl) ?_
    obtain ⟨v3, ev3, hf⟩ := Option.bind_eq_some_iff.mp hf
    refine ah_getr K hG ev3 ffX10_10_10 dX10_fillChances_14 ?_
    obtain ⟨v4, ev4, hf⟩ := Option.bind_eq_some_iff.mp hf
    refine ah_getr K hG ev4 ffX10_102_2 dX10_fillChances_17 ?_
    refine lv_iload_n K.1 K.2.1 dX10_fillChances_20 rfl (lv_at hl 1 rfl) ?_
    obtain ⟨v5, ev5, hf⟩ := Option.bind_eq_some_iff.mp hf
    refine ah_iald K hG ev5 dX10_fillChances_21 ?_
    refine lv_icmp_ne (tgt := 29) K.1 K.2.1 dX10_fillChances_22 (by decide) (fun h6 => ?_) (fun h6 => ?_)
    · rw [if_neg h6] at hf
      refine lv_lconst (v := 0) K.1 K.2.1 dX10_fillChances_29 (by decide) ?_
      exact wX10_fillChances_30 K k2 hk2 M a0 x1 a2 x3 v2 x3 0 _ _ _ hG hL (lv_sub hl [0, 1, 2, 3] rfl) _ hf
    · rw [if_pos h6] at hf
      refine lv_lconst (v := 1) K.1 K.2.1 dX10_fillChances_25 (by decide) ?_
      refine lv_goto (tgt := 30) K.1 K.2.1 dX10_fillChances_26 (by decide) ?_
      exact wX10_fillChances_30 K k2 hk2 M a0 x1 a2 x3 v2 x3 1 _ _ _ hG hL (lv_sub hl [0, 1, 2, 3] rfl) _ hf
theorem wX10_fillChances_2 {p : Program} {l : Launch} {e : Env} {s : State} {m : MethodId} {args : Array Value} {below : List Frame} {meth : Method} {c : Code} {D : va_G} {ca : Nat → ClassId} {H0 : Heap} {z : Nat} (K : ah_K p s m args meth c D ca "ShipsThatMeet" cX10_fillChances 6 (some .long))   (n : Nat) : ∀ (M : ah_h) (a0 : Nat) (x1 : Int32) (a2 : Nat) (x3 : Int32)  (H : Heap) (locs : List Loc) (ls : Array Slot), ah_g H0 D ca M z H → ah_L H0 locs → lv_has ls 6 [(0, .ref a0), (1, .int x1), (2, .ref a2), (3, .int x3)] → ∀ Z, fX10_fillChances_2    n M a0 x1 a2 x3 = some Z → W p l e { frames := 3, cells := 0, slots := 0, locals := 65 } s m args below meth c H locs 0 0 (ah_Q below args s H0 D ca 0 0 (some (.long Z.1)) Z.2 z) (F0 m 2 ls []) := by
  induction n with
  | zero => intro M a0 x1 a2 x3 H locs ls hG hL hl Z hf; cases hf
  | succ n ih => exact wX10_fillChances_2_b K  _ ih
def fX10_fillChances (M : ah_h) (a0 : Nat) (x1 : Int32) (x2 : Nat) : Option (Int64 × ah_h) := (ah_ob M a0 10).bind fun _ => fX10_fillChances_2 ah_fu M a0 x1 x2 0
set_option maxRecDepth 100000 in
set_option maxHeartbeats 4000000 in
theorem ctX10_fillChances (l : Launch) (H0 : Heap) (D : va_G) (ca : Nat → ClassId) (M : ah_h) (z : Nat) (a0 : Nat) (x1 : Int32) (x2 : Nat) (Z : Int64 × ah_h) (hf : fX10_fillChances M a0 x1 x2 = some Z) : ah_ct l H0 D ca yX10_fillChances cX10_fillChances 6 (some .long) 3 65 0 0 [.ref a0, .int x1, .ref x2] M z (some (.long Z.1)) Z.2 z := by
  refine ah_of (by decide) (Nat.le_of_ble_eq_true rfl) ?_
  intro p e s m below meth c ls hin K hG hl
  have hL : ah_L H0 [] := ah_L.nil
  have hl : lv_has ls 6 [(0, .ref a0), (1, .int x1), (2, .ref x2)] := hl
  unfold fX10_fillChances at hf
  obtain ⟨-, -, hf⟩ := Option.bind_eq_some_iff.mp hf
  refine lv_iconst (v := 0) K.1 K.2.1 dX10_fillChances_0 (by decide) ?_
  refine lv_istore_n (lv' := [(3, .int 0), (0, .ref a0), (1, .int x1), (2, .ref x2)]) K.1 K.2.1 dX10_fillChances_1 rfl hl (by decide) rfl (fun ls hl => ?_)
  exact wX10_fillChances_2 K  ah_fu M a0 x1 x2 0 _ _ _ hG hL (lv_sub hl [1, 2, 3, 0] rfl) _ hf
