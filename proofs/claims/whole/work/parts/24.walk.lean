-- X11_mixedNow X11_mixed X11_mixesMost X11_lacks X11_spreads X11_letter X11_law X11_together X11_moved X11_drawn X11_seeded X11_wrongFour X11_judge X11_image X11_restore X11_count
def fX11_mixedNow_64  (k4 : Nat → Int32 → Int32 → Option (Int32)) (k18 : Nat → Int32 → Int32 → Int32 → Option (Int32)) (M : ah_h) (a0 : Nat) (x2 : Int32) (x3 : Int32) (s0 : Int32) (s1 : Int32) : Option (Int32) := k18 a0 (s0 + s1) x2 (x3 + 1)
set_option maxRecDepth 100000 in
set_option maxHeartbeats 4000000 in
theorem wX11_mixedNow_64 {p : Program} {l : Launch} {e : Env} {s : State} {m : MethodId} {args : Array Value} {below : List Frame} {meth : Method} {c : Code} {D : va_G} {ca : Nat → ClassId} {H0 : Heap} {M : ah_h} {z : Nat} (K : ah_K p s m args meth c D ca "ShipsThatMeetModel" cX11_mixedNow 4 (some .int))  (k4 : Nat → Int32 → Int32 → Option (Int32)) (hk4 : ∀ (a0 : Nat) (x1 : Int32) (x2 : Int32)  (H : Heap) (locs : List Loc) (ls : Array Slot), ah_g H0 D ca M z H → ah_L H0 locs → lv_has ls 4 [(0, .ref a0), (1, .int x1), (2, .int x2)] → ∀ Z, k4 a0 x1 x2 = some Z → W p l e { frames := 1, cells := 0, slots := 0, locals := 22 } s m args below meth c H locs 0 0 (ah_Q below args s H0 D ca 0 0 (some (.int Z)) M z) (F0 m 4 ls [])) (k18 : Nat → Int32 → Int32 → Int32 → Option (Int32)) (hk18 : ∀ (a0 : Nat) (x1 : Int32) (x2 : Int32) (x3 : Int32)  (H : Heap) (locs : List Loc) (ls : Array Slot), ah_g H0 D ca M z H → ah_L H0 locs → lv_has ls 4 [(0, .ref a0), (1, .int x1), (2, .int x2), (3, .int x3)] → ∀ Z, k18 a0 x1 x2 x3 = some Z → W p l e { frames := 1, cells := 0, slots := 0, locals := 22 } s m args below meth c H locs 0 0 (ah_Q below args s H0 D ca 0 0 (some (.int Z)) M z) (F0 m 18 ls [])) : ∀ (a0 : Nat) (x2 : Int32) (x3 : Int32) (s0 : Int32) (s1 : Int32)  (H : Heap) (locs : List Loc) (ls : Array Slot), ah_g H0 D ca M z H → ah_L H0 locs → lv_has ls 4 [(0, .ref a0), (2, .int x2), (3, .int x3)] → ∀ Z, fX11_mixedNow_64  k4 k18 M a0 x2 x3 s0 s1 = some Z → W p l e { frames := 1, cells := 0, slots := 0, locals := 22 } s m args below meth c H locs 0 0 (ah_Q below args s H0 D ca 0 0 (some (.int Z)) M z) (F0 m 64 ls [.int s1, .int s0]) := by
  intro a0 x2 x3 s0 s1 H locs ls hG hL hl Z hf
  unfold fX11_mixedNow_64 at hf
  refine lv_iadd K.1 K.2.1 dX11_mixedNow_64 ?_
  refine lv_istore_n (lv' := [(1, .int (s0 + s1)), (0, .ref a0), (2, .int x2), (3, .int x3)]) K.1 K.2.1 dX11_mixedNow_65 rfl hl (by decide) rfl (fun ls hl => ?_)
  refine lv_iinc (v := x3 + 1) (lv' := [(3, .int (x3 + 1)), (1, .int (s0 + s1)), (0, .ref a0), (2, .int x2)]) K.1 K.2.1 dX11_mixedNow_66 hl (k := 3) rfl rfl (by decide) rfl (fun ls hl => ?_)
  refine lv_goto (tgt := 18) K.1 K.2.1 dX11_mixedNow_69 (by decide) ?_
  exact hk18 a0 (s0 + s1) x2 (x3 + 1) _ _ _ hG hL (lv_sub hl [2, 1, 3, 0] rfl) _ hf
def fX11_mixedNow_63  (k4 : Nat → Int32 → Int32 → Option (Int32)) (k18 : Nat → Int32 → Int32 → Int32 → Option (Int32)) (M : ah_h) (a0 : Nat) (x2 : Int32) (x3 : Int32) (s0 : Int32) : Option (Int32) := fX11_mixedNow_64 k4 k18 M a0 x2 x3 s0 0
set_option maxRecDepth 100000 in
set_option maxHeartbeats 4000000 in
theorem wX11_mixedNow_63 {p : Program} {l : Launch} {e : Env} {s : State} {m : MethodId} {args : Array Value} {below : List Frame} {meth : Method} {c : Code} {D : va_G} {ca : Nat → ClassId} {H0 : Heap} {M : ah_h} {z : Nat} (K : ah_K p s m args meth c D ca "ShipsThatMeetModel" cX11_mixedNow 4 (some .int))  (k4 : Nat → Int32 → Int32 → Option (Int32)) (hk4 : ∀ (a0 : Nat) (x1 : Int32) (x2 : Int32)  (H : Heap) (locs : List Loc) (ls : Array Slot), ah_g H0 D ca M z H → ah_L H0 locs → lv_has ls 4 [(0, .ref a0), (1, .int x1), (2, .int x2)] → ∀ Z, k4 a0 x1 x2 = some Z → W p l e { frames := 1, cells := 0, slots := 0, locals := 22 } s m args below meth c H locs 0 0 (ah_Q below args s H0 D ca 0 0 (some (.int Z)) M z) (F0 m 4 ls [])) (k18 : Nat → Int32 → Int32 → Int32 → Option (Int32)) (hk18 : ∀ (a0 : Nat) (x1 : Int32) (x2 : Int32) (x3 : Int32)  (H : Heap) (locs : List Loc) (ls : Array Slot), ah_g H0 D ca M z H → ah_L H0 locs → lv_has ls 4 [(0, .ref a0), (1, .int x1), (2, .int x2), (3, .int x3)] → ∀ Z, k18 a0 x1 x2 x3 = some Z → W p l e { frames := 1, cells := 0, slots := 0, locals := 22 } s m args below meth c H locs 0 0 (ah_Q below args s H0 D ca 0 0 (some (.int Z)) M z) (F0 m 18 ls [])) : ∀ (a0 : Nat) (x2 : Int32) (x3 : Int32) (s0 : Int32)  (H : Heap) (locs : List Loc) (ls : Array Slot), ah_g H0 D ca M z H → ah_L H0 locs → lv_has ls 4 [(0, .ref a0), (2, .int x2), (3, .int x3)] → ∀ Z, fX11_mixedNow_63  k4 k18 M a0 x2 x3 s0 = some Z → W p l e { frames := 1, cells := 0, slots := 0, locals := 22 } s m args below meth c H locs 0 0 (ah_Q below args s H0 D ca 0 0 (some (.int Z)) M z) (F0 m 63 ls [.int s0]) := by
  intro a0 x2 x3 s0 H locs ls hG hL hl Z hf
  unfold fX11_mixedNow_63 at hf
  refine lv_iconst (v := 0) K.1 K.2.1 dX11_mixedNow_63 (by decide) ?_
  exact wX11_mixedNow_64 K k4 hk4 k18 hk18 a0 x2 x3 s0 0 _ _ _ hG hL (lv_sub hl [0, 1, 2] rfl) _ hf
def fX11_mixedNow_18_b  (k4 : Nat → Int32 → Int32 → Option (Int32)) (k18 : Nat → Int32 → Int32 → Int32 → Option (Int32)) (M : ah_h) (a0 : Nat) (x1 : Int32) (x2 : Int32) (x3 : Int32) : Option (Int32) := (ah_gr M a0 11 0).bind fun v1 => (ah_ai M v1 1).bind fun v2 => if v2 ≤ x3 then (k4 a0 x1 (x2 + 1)) else ((fX11_get M a0 x2 0).bind fun v4 => (fX11_get M a0 x3 0).bind fun v6 => if v4 = v6 then ((fX11_get M a0 x2 2).bind fun v9 => (fX11_get M a0 x3 2).bind fun v11 => if v9 = v11 then (fX11_mixedNow_63 k4 k18 M a0 x2 x3 x1) else (fX11_mixedNow_64 k4 k18 M a0 x2 x3 x1 1)) else (fX11_mixedNow_63 k4 k18 M a0 x2 x3 x1))
def fX11_mixedNow_18  (k4 : Nat → Int32 → Int32 → Option (Int32)) (M : ah_h) : Nat → Nat → Int32 → Int32 → Int32 → Option (Int32)
  | 0 => fun _ _ _ _ => none
  | n + 1 => fun a0 x1 x2 x3 => fX11_mixedNow_18_b  k4 (fX11_mixedNow_18  k4 M n) M a0 x1 x2 x3
set_option maxRecDepth 100000 in
set_option maxHeartbeats 4000000 in
theorem wX11_mixedNow_18_b {p : Program} {l : Launch} {e : Env} {s : State} {m : MethodId} {args : Array Value} {below : List Frame} {meth : Method} {c : Code} {D : va_G} {ca : Nat → ClassId} {H0 : Heap} {M : ah_h} {z : Nat} (K : ah_K p s m args meth c D ca "ShipsThatMeetModel" cX11_mixedNow 4 (some .int))  (k4 : Nat → Int32 → Int32 → Option (Int32)) (hk4 : ∀ (a0 : Nat) (x1 : Int32) (x2 : Int32)  (H : Heap) (locs : List Loc) (ls : Array Slot), ah_g H0 D ca M z H → ah_L H0 locs → lv_has ls 4 [(0, .ref a0), (1, .int x1), (2, .int x2)] → ∀ Z, k4 a0 x1 x2 = some Z → W p l e { frames := 1, cells := 0, slots := 0, locals := 22 } s m args below meth c H locs 0 0 (ah_Q below args s H0 D ca 0 0 (some (.int Z)) M z) (F0 m 4 ls [])) (k18 : Nat → Int32 → Int32 → Int32 → Option (Int32)) (hk18 : ∀ (a0 : Nat) (x1 : Int32) (x2 : Int32) (x3 : Int32)  (H : Heap) (locs : List Loc) (ls : Array Slot), ah_g H0 D ca M z H → ah_L H0 locs → lv_has ls 4 [(0, .ref a0), (1, .int x1), (2, .int x2), (3, .int x3)] → ∀ Z, k18 a0 x1 x2 x3 = some Z → W p l e { frames := 1, cells := 0, slots := 0, locals := 22 } s m args below meth c H locs 0 0 (ah_Q below args s H0 D ca 0 0 (some (.int Z)) M z) (F0 m 18 ls [])) : ∀ (a0 : Nat) (x1 : Int32) (x2 : Int32) (x3 : Int32)  (H : Heap) (locs : List Loc) (ls : Array Slot), ah_g H0 D ca M z H → ah_L H0 locs → lv_has ls 4 [(0, .ref a0), (1, .int x1), (2, .int x2), (3, .int x3)] → ∀ Z, fX11_mixedNow_18_b  k4 k18 M a0 x1 x2 x3 = some Z → W p l e { frames := 1, cells := 0, slots := 0, locals := 22 } s m args below meth c H locs 0 0 (ah_Q below args s H0 D ca 0 0 (some (.int Z)) M z) (F0 m 18 ls []) := by
  intro a0 x1 x2 x3 H locs ls hG hL hl Z hf
  unfold fX11_mixedNow_18_b at hf
  refine lv_iload_n K.1 K.2.1 dX11_mixedNow_18 rfl (lv_at hl 3 rfl) ?_
  refine lv_aload_n K.1 K.2.1 dX11_mixedNow_19 rfl (lv_at hl 0 rfl) ?_
  obtain ⟨v1, ev1, hf⟩ := Option.bind_eq_some_iff.mp hf
  refine ah_getr K hG ev1 ffX11_9_11 dX11_mixedNow_20 ?_
  refine lv_iconst (v := 1) K.1 K.2.1 dX11_mixedNow_23 (by decide) ?_
  obtain ⟨v2, ev2, hf⟩ := Option.bind_eq_some_iff.mp hf
  refine ah_iald K hG ev2 dX11_mixedNow_24 ?_
  refine lv_icmp_ge (tgt := 72) K.1 K.2.1 dX11_mixedNow_25 (by decide) (fun h3 => ?_) (fun h3 => ?_)
  · rw [if_pos h3] at hf
    refine lv_iinc (v := x2 + 1) (lv' := [(2, .int (x2 + 1)), (0, .ref a0), (1, .int x1), (3, .int x3)]) K.1 K.2.1 dX11_mixedNow_72 hl (k := 2) rfl rfl (by decide) rfl (fun ls hl => ?_)
    refine lv_goto (tgt := 4) K.1 K.2.1 dX11_mixedNow_75 (by decide) ?_
    exact hk4 a0 x1 (x2 + 1) _ _ _ hG hL (lv_sub hl [1, 2, 0] rfl) _ hf
  · rw [if_neg h3] at hf
    refine lv_iload_n K.1 K.2.1 dX11_mixedNow_28 rfl (lv_at hl 1 rfl) ?_
    refine lv_aload_n K.1 K.2.1 dX11_mixedNow_29 rfl (lv_at hl 0 rfl) ?_
    refine lv_iload_n K.1 K.2.1 dX11_mixedNow_30 rfl (lv_at hl 2 rfl) ?_
    refine lv_iconst (v := 0) K.1 K.2.1 dX11_mixedNow_31 (by decide) ?_
    obtain ⟨v4, ev4, hf⟩ := Option.bind_eq_some_iff.mp hf
    obtain ⟨q5, eq5⟩ := ah_this ev4
    refine ah_callV (As := [.int x2, .int 0]) (rest := [.int x1]) K hG hL hl.1 eq5 rfl (ctX11_get l H0 D ca M z a0 x2 0 v4 ev4) hdX11_get q_1012 q_1014 q_54 q_1015 q_20 ⟨Nat.le_of_ble_eq_true rfl, Nat.le_of_ble_eq_true rfl⟩ rfl rfl (Nat.le_of_ble_eq_true rfl) ⟨Nat.le_refl _, Nat.le_refl _⟩ dX11_mixedNow_32 (fun H locs hG hL => ?_)
    refine lv_aload_n K.1 K.2.1 dX11_mixedNow_35 rfl (lv_at hl 0 rfl) ?_
    refine lv_iload_n K.1 K.2.1 dX11_mixedNow_36 rfl (lv_at hl 3 rfl) ?_
    refine lv_iconst (v := 0) K.1 K.2.1 dX11_mixedNow_37 (by decide) ?_
    obtain ⟨v6, ev6, hf⟩ := Option.bind_eq_some_iff.mp hf
    obtain ⟨q7, eq7⟩ := ah_this ev6
    refine ah_callV (As := [.int x3, .int 0]) (rest := [.int v4, .int x1]) K hG hL hl.1 eq7 rfl (ctX11_get l H0 D ca M z a0 x3 0 v6 ev6) hdX11_get q_1012 q_1014 q_54 q_1015 q_20 ⟨Nat.le_of_ble_eq_true rfl, Nat.le_of_ble_eq_true rfl⟩ rfl rfl (Nat.le_of_ble_eq_true rfl) ⟨Nat.le_refl _, Nat.le_refl _⟩ dX11_mixedNow_38 (fun H locs hG hL => ?_)
    refine lv_icmp_ne (tgt := 63) K.1 K.2.1 dX11_mixedNow_41 (by decide) (fun h8 => ?_) (fun h8 => ?_)
    · rw [if_neg h8] at hf
      exact wX11_mixedNow_63 K k4 hk4 k18 hk18 a0 x2 x3 x1 _ _ _ hG hL (lv_sub hl [0, 2, 3] rfl) _ hf
    · rw [if_pos h8] at hf
      refine lv_aload_n K.1 K.2.1 dX11_mixedNow_44 rfl (lv_at hl 0 rfl) ?_
      refine lv_iload_n K.1 K.2.1 dX11_mixedNow_45 rfl (lv_at hl 2 rfl) ?_
      refine lv_iconst (v := 2) K.1 K.2.1 dX11_mixedNow_46 (by decide) ?_
      obtain ⟨v9, ev9, hf⟩ := Option.bind_eq_some_iff.mp hf
      obtain ⟨q10, eq10⟩ := ah_this ev9
      refine ah_callV (As := [.int x2, .int 2]) (rest := [.int x1]) K hG hL hl.1 eq10 rfl (ctX11_get l H0 D ca M z a0 x2 2 v9 ev9) hdX11_get q_1012 q_1014 q_54 q_1015 q_20 ⟨Nat.le_of_ble_eq_true rfl, Nat.le_of_ble_eq_true rfl⟩ rfl rfl (Nat.le_of_ble_eq_true rfl) ⟨Nat.le_refl _, Nat.le_refl _⟩ dX11_mixedNow_47 (fun H locs hG hL => ?_)
      refine lv_aload_n K.1 K.2.1 dX11_mixedNow_50 rfl (lv_at hl 0 rfl) ?_
      refine lv_iload_n K.1 K.2.1 dX11_mixedNow_51 rfl (lv_at hl 3 rfl) ?_
      refine lv_iconst (v := 2) K.1 K.2.1 dX11_mixedNow_52 (by decide) ?_
      obtain ⟨v11, ev11, hf⟩ := Option.bind_eq_some_iff.mp hf
      obtain ⟨q12, eq12⟩ := ah_this ev11
      refine ah_callV (As := [.int x3, .int 2]) (rest := [.int v9, .int x1]) K hG hL hl.1 eq12 rfl (ctX11_get l H0 D ca M z a0 x3 2 v11 ev11) hdX11_get q_1012 q_1014 q_54 q_1015 q_20 ⟨Nat.le_of_ble_eq_true rfl, Nat.le_of_ble_eq_true rfl⟩ rfl rfl (Nat.le_of_ble_eq_true rfl) ⟨Nat.le_refl _, Nat.le_refl _⟩ dX11_mixedNow_53 (fun H locs hG hL => ?_)
      refine lv_icmp_eq (tgt := 63) K.1 K.2.1 dX11_mixedNow_56 (by decide) (fun h13 => ?_) (fun h13 => ?_)
      · rw [if_pos h13] at hf
        exact wX11_mixedNow_63 K k4 hk4 k18 hk18 a0 x2 x3 x1 _ _ _ hG hL (lv_sub hl [0, 2, 3] rfl) _ hf
      · rw [if_neg h13] at hf
        refine lv_iconst (v := 1) K.1 K.2.1 dX11_mixedNow_59 (by decide) ?_
        refine lv_goto (tgt := 64) K.1 K.2.1 dX11_mixedNow_60 (by decide) ?_
        exact wX11_mixedNow_64 K k4 hk4 k18 hk18 a0 x2 x3 x1 1 _ _ _ hG hL (lv_sub hl [0, 2, 3] rfl) _ hf
theorem wX11_mixedNow_18 {p : Program} {l : Launch} {e : Env} {s : State} {m : MethodId} {args : Array Value} {below : List Frame} {meth : Method} {c : Code} {D : va_G} {ca : Nat → ClassId} {H0 : Heap} {M : ah_h} {z : Nat} (K : ah_K p s m args meth c D ca "ShipsThatMeetModel" cX11_mixedNow 4 (some .int))  (k4 : Nat → Int32 → Int32 → Option (Int32)) (hk4 : ∀ (a0 : Nat) (x1 : Int32) (x2 : Int32)  (H : Heap) (locs : List Loc) (ls : Array Slot), ah_g H0 D ca M z H → ah_L H0 locs → lv_has ls 4 [(0, .ref a0), (1, .int x1), (2, .int x2)] → ∀ Z, k4 a0 x1 x2 = some Z → W p l e { frames := 1, cells := 0, slots := 0, locals := 22 } s m args below meth c H locs 0 0 (ah_Q below args s H0 D ca 0 0 (some (.int Z)) M z) (F0 m 4 ls [])) (n : Nat) : ∀ (a0 : Nat) (x1 : Int32) (x2 : Int32) (x3 : Int32)  (H : Heap) (locs : List Loc) (ls : Array Slot), ah_g H0 D ca M z H → ah_L H0 locs → lv_has ls 4 [(0, .ref a0), (1, .int x1), (2, .int x2), (3, .int x3)] → ∀ Z, fX11_mixedNow_18  k4 M n a0 x1 x2 x3 = some Z → W p l e { frames := 1, cells := 0, slots := 0, locals := 22 } s m args below meth c H locs 0 0 (ah_Q below args s H0 D ca 0 0 (some (.int Z)) M z) (F0 m 18 ls []) := by
  induction n with
  | zero => intro a0 x1 x2 x3 H locs ls hG hL hl Z hf; cases hf
  | succ n ih => exact wX11_mixedNow_18_b K k4 hk4 _ ih
def fX11_mixedNow_4_b   (k4 : Nat → Int32 → Int32 → Option (Int32)) (M : ah_h) (a0 : Nat) (x1 : Int32) (x2 : Int32) : Option (Int32) := (ah_gr M a0 11 0).bind fun v1 => (ah_ai M v1 1).bind fun v2 => if v2 ≤ x2 then (some x1) else (fX11_mixedNow_18 k4 M ah_fu a0 x1 x2 (x2 + 1))
def fX11_mixedNow_4   (M : ah_h) : Nat → Nat → Int32 → Int32 → Option (Int32)
  | 0 => fun _ _ _ => none
  | n + 1 => fun a0 x1 x2 => fX11_mixedNow_4_b   (fX11_mixedNow_4   M n) M a0 x1 x2
set_option maxRecDepth 100000 in
set_option maxHeartbeats 4000000 in
theorem wX11_mixedNow_4_b {p : Program} {l : Launch} {e : Env} {s : State} {m : MethodId} {args : Array Value} {below : List Frame} {meth : Method} {c : Code} {D : va_G} {ca : Nat → ClassId} {H0 : Heap} {M : ah_h} {z : Nat} (K : ah_K p s m args meth c D ca "ShipsThatMeetModel" cX11_mixedNow 4 (some .int))   (k4 : Nat → Int32 → Int32 → Option (Int32)) (hk4 : ∀ (a0 : Nat) (x1 : Int32) (x2 : Int32)  (H : Heap) (locs : List Loc) (ls : Array Slot), ah_g H0 D ca M z H → ah_L H0 locs → lv_has ls 4 [(0, .ref a0), (1, .int x1), (2, .int x2)] → ∀ Z, k4 a0 x1 x2 = some Z → W p l e { frames := 1, cells := 0, slots := 0, locals := 22 } s m args below meth c H locs 0 0 (ah_Q below args s H0 D ca 0 0 (some (.int Z)) M z) (F0 m 4 ls [])) : ∀ (a0 : Nat) (x1 : Int32) (x2 : Int32)  (H : Heap) (locs : List Loc) (ls : Array Slot), ah_g H0 D ca M z H → ah_L H0 locs → lv_has ls 4 [(0, .ref a0), (1, .int x1), (2, .int x2)] → ∀ Z, fX11_mixedNow_4_b   k4 M a0 x1 x2 = some Z → W p l e { frames := 1, cells := 0, slots := 0, locals := 22 } s m args below meth c H locs 0 0 (ah_Q below args s H0 D ca 0 0 (some (.int Z)) M z) (F0 m 4 ls []) := by
  intro a0 x1 x2 H locs ls hG hL hl Z hf
  unfold fX11_mixedNow_4_b at hf
  refine lv_iload_n K.1 K.2.1 dX11_mixedNow_4 rfl (lv_at hl 2 rfl) ?_
  refine lv_aload_n K.1 K.2.1 dX11_mixedNow_5 rfl (lv_at hl 0 rfl) ?_
  obtain ⟨v1, ev1, hf⟩ := Option.bind_eq_some_iff.mp hf
  refine ah_getr K hG ev1 ffX11_9_11 dX11_mixedNow_6 ?_
  refine lv_iconst (v := 1) K.1 K.2.1 dX11_mixedNow_9 (by decide) ?_
  obtain ⟨v2, ev2, hf⟩ := Option.bind_eq_some_iff.mp hf
  refine ah_iald K hG ev2 dX11_mixedNow_10 ?_
  refine lv_icmp_ge (tgt := 78) K.1 K.2.1 dX11_mixedNow_11 (by decide) (fun h3 => ?_) (fun h3 => ?_)
  · rw [if_pos h3] at hf
    refine lv_iload_n K.1 K.2.1 dX11_mixedNow_78 rfl (lv_at hl 1 rfl) ?_
    have hf := Option.some.inj hf
    subst hf
    exact ah_iret K hG hL (Nat.le_refl _) (Nat.le_refl _) dX11_mixedNow_79
  · rw [if_neg h3] at hf
    refine lv_iload_n K.1 K.2.1 dX11_mixedNow_14 rfl (lv_at hl 2 rfl) ?_
    refine lv_iconst (v := 1) K.1 K.2.1 dX11_mixedNow_15 (by decide) ?_
    refine lv_iadd K.1 K.2.1 dX11_mixedNow_16 ?_
    refine lv_istore_n (lv' := [(3, .int (x2 + 1)), (0, .ref a0), (1, .int x1), (2, .int x2)]) K.1 K.2.1 dX11_mixedNow_17 rfl hl (by decide) rfl (fun ls hl => ?_)
    exact wX11_mixedNow_18 K k4 hk4 ah_fu a0 x1 x2 (x2 + 1) _ _ _ hG hL (lv_sub hl [1, 2, 3, 0] rfl) _ hf
theorem wX11_mixedNow_4 {p : Program} {l : Launch} {e : Env} {s : State} {m : MethodId} {args : Array Value} {below : List Frame} {meth : Method} {c : Code} {D : va_G} {ca : Nat → ClassId} {H0 : Heap} {M : ah_h} {z : Nat} (K : ah_K p s m args meth c D ca "ShipsThatMeetModel" cX11_mixedNow 4 (some .int))   (n : Nat) : ∀ (a0 : Nat) (x1 : Int32) (x2 : Int32)  (H : Heap) (locs : List Loc) (ls : Array Slot), ah_g H0 D ca M z H → ah_L H0 locs → lv_has ls 4 [(0, .ref a0), (1, .int x1), (2, .int x2)] → ∀ Z, fX11_mixedNow_4   M n a0 x1 x2 = some Z → W p l e { frames := 1, cells := 0, slots := 0, locals := 22 } s m args below meth c H locs 0 0 (ah_Q below args s H0 D ca 0 0 (some (.int Z)) M z) (F0 m 4 ls []) := by
  induction n with
  | zero => intro a0 x1 x2 H locs ls hG hL hl Z hf; cases hf
  | succ n ih => exact wX11_mixedNow_4_b K  _ ih
def fX11_mixedNow (M : ah_h) (a0 : Nat) : Option (Int32) := (ah_ob M a0 11).bind fun _ => fX11_mixedNow_4 M ah_fu a0 0 0
set_option maxRecDepth 100000 in
set_option maxHeartbeats 4000000 in
theorem ctX11_mixedNow (l : Launch) (H0 : Heap) (D : va_G) (ca : Nat → ClassId) (M : ah_h) (z : Nat) (a0 : Nat) (Z : Int32) (hf : fX11_mixedNow M a0 = some Z) : ah_ct l H0 D ca yX11_mixedNow cX11_mixedNow 4 (some .int) 1 22 0 0 [.ref a0] M z (some (.int Z)) M z := by
  refine ah_of (by decide) (Nat.le_of_ble_eq_true rfl) ?_
  intro p e s m below meth c ls hin K hG hl
  have hL : ah_L H0 [] := ah_L.nil
  have hl : lv_has ls 4 [(0, .ref a0)] := hl
  unfold fX11_mixedNow at hf
  obtain ⟨-, -, hf⟩ := Option.bind_eq_some_iff.mp hf
  refine lv_iconst (v := 0) K.1 K.2.1 dX11_mixedNow_0 (by decide) ?_
  refine lv_istore_n (lv' := [(1, .int 0), (0, .ref a0)]) K.1 K.2.1 dX11_mixedNow_1 rfl hl (by decide) rfl (fun ls hl => ?_)
  refine lv_iconst (v := 0) K.1 K.2.1 dX11_mixedNow_2 (by decide) ?_
  refine lv_istore_n (lv' := [(2, .int 0), (1, .int 0), (0, .ref a0)]) K.1 K.2.1 dX11_mixedNow_3 rfl hl (by decide) rfl (fun ls hl => ?_)
  exact wX11_mixedNow_4 K  ah_fu a0 0 0 _ _ _ hG hL (lv_sub hl [2, 1, 0] rfl) _ hf
def fX11_mixed (M : ah_h) (a0 : Nat) : Option (Int32) := (ah_ob M a0 11).bind fun _ => (fX11_mixedNow M a0).bind fun v1 => some v1
set_option maxRecDepth 100000 in
set_option maxHeartbeats 4000000 in
theorem ctX11_mixed (l : Launch) (H0 : Heap) (D : va_G) (ca : Nat → ClassId) (M : ah_h) (z : Nat) (a0 : Nat) (Z : Int32) (hf : fX11_mixed M a0 = some Z) : ah_ct l H0 D ca yX11_mixed cX11_mixed 1 (some .int) 2 45 0 0 [.ref a0] M z (some (.int Z)) M z := by
  refine ah_of (by decide) (Nat.le_of_ble_eq_true rfl) ?_
  intro p e s m below meth c ls hin K hG hl
  have hL : ah_L H0 [] := ah_L.nil
  have hl : lv_has ls 1 [(0, .ref a0)] := hl
  unfold fX11_mixed at hf
  obtain ⟨-, -, hf⟩ := Option.bind_eq_some_iff.mp hf
  refine lv_aload_n K.1 K.2.1 dX11_mixed_0 rfl (lv_at hl 0 rfl) ?_
  obtain ⟨v1, ev1, hf⟩ := Option.bind_eq_some_iff.mp hf
  obtain ⟨q2, eq2⟩ := ah_this ev1
  refine ah_callV (As := []) (rest := []) K hG hL hl.1 eq2 rfl (ctX11_mixedNow l H0 D ca M z a0 v1 ev1) hdX11_mixedNow q_1175 q_1177 q_54 q_1178 q_45 ⟨Nat.le_of_ble_eq_true rfl, Nat.le_of_ble_eq_true rfl⟩ rfl rfl (Nat.le_of_ble_eq_true rfl) ⟨Nat.le_refl _, Nat.le_refl _⟩ dX11_mixed_1 (fun H locs hG hL => ?_)
  have hf := Option.some.inj hf
  subst hf
  exact ah_iret K hG hL (Nat.le_refl _) (Nat.le_refl _) dX11_mixed_4
def fX11_mixesMost_91  (k11 : ah_h → Nat → Int32 → Int32 → Int32 → Option (Int32 × ah_h)) (k26 : ah_h → Nat → Int32 → Int32 → Int32 → Int32 → Option (Int32 × ah_h))  (M : ah_h) (a0 : Nat) (x1 : Int32) (x2 : Int32) (x3 : Int32) (x4 : Int32) : Option (Int32 × ah_h) := k26 M a0 x1 x2 x3 (x4 + 1)
set_option maxRecDepth 100000 in
set_option maxHeartbeats 4000000 in
theorem wX11_mixesMost_91 {p : Program} {l : Launch} {e : Env} {s : State} {m : MethodId} {args : Array Value} {below : List Frame} {meth : Method} {c : Code} {D : va_G} {ca : Nat → ClassId} {H0 : Heap} {z : Nat} (K : ah_K p s m args meth c D ca "ShipsThatMeetModel" cX11_mixesMost 6 (some .int))  (k11 : ah_h → Nat → Int32 → Int32 → Int32 → Option (Int32 × ah_h)) (hk11 : ∀ (M : ah_h) (a0 : Nat) (x1 : Int32) (x2 : Int32) (x3 : Int32)  (H : Heap) (locs : List Loc) (ls : Array Slot), ah_g H0 D ca M z H → ah_L H0 locs → lv_has ls 6 [(0, .ref a0), (1, .int x1), (2, .int x2), (3, .int x3)] → ∀ Z, k11 M a0 x1 x2 x3 = some Z → W p l e { frames := 5, cells := 0, slots := 0, locals := 116 } s m args below meth c H locs 0 0 (ah_Q below args s H0 D ca 0 0 (some (.int Z.1)) Z.2 z) (F0 m 11 ls [])) (k26 : ah_h → Nat → Int32 → Int32 → Int32 → Int32 → Option (Int32 × ah_h)) (hk26 : ∀ (M : ah_h) (a0 : Nat) (x1 : Int32) (x2 : Int32) (x3 : Int32) (x4 : Int32)  (H : Heap) (locs : List Loc) (ls : Array Slot), ah_g H0 D ca M z H → ah_L H0 locs → lv_has ls 6 [(0, .ref a0), (1, .int x1), (2, .int x2), (3, .int x3), (4, .int x4)] → ∀ Z, k26 M a0 x1 x2 x3 x4 = some Z → W p l e { frames := 5, cells := 0, slots := 0, locals := 116 } s m args below meth c H locs 0 0 (ah_Q below args s H0 D ca 0 0 (some (.int Z.1)) Z.2 z) (F0 m 26 ls [])) : ∀ (M : ah_h) (a0 : Nat) (x1 : Int32) (x2 : Int32) (x3 : Int32) (x4 : Int32)  (H : Heap) (locs : List Loc) (ls : Array Slot), ah_g H0 D ca M z H → ah_L H0 locs → lv_has ls 6 [(0, .ref a0), (1, .int x1), (2, .int x2), (3, .int x3), (4, .int x4)] → ∀ Z, fX11_mixesMost_91  k11 k26  M a0 x1 x2 x3 x4 = some Z → W p l e { frames := 5, cells := 0, slots := 0, locals := 116 } s m args below meth c H locs 0 0 (ah_Q below args s H0 D ca 0 0 (some (.int Z.1)) Z.2 z) (F0 m 91 ls []) := by
  intro M a0 x1 x2 x3 x4 H locs ls hG hL hl Z hf
  unfold fX11_mixesMost_91 at hf
  refine lv_iinc (v := x4 + 1) (lv' := [(4, .int (x4 + 1)), (0, .ref a0), (1, .int x1), (2, .int x2), (3, .int x3)]) K.1 K.2.1 dX11_mixesMost_91 hl (k := 4) rfl rfl (by decide) rfl (fun ls hl => ?_)
  refine lv_goto (tgt := 26) K.1 K.2.1 dX11_mixesMost_94 (by decide) ?_
  exact hk26 M a0 x1 x2 x3 (x4 + 1) _ _ _ hG hL (lv_sub hl [1, 2, 3, 4, 0] rfl) _ hf
def fX11_mixesMost_80  (k11 : ah_h → Nat → Int32 → Int32 → Int32 → Option (Int32 × ah_h)) (k26 : ah_h → Nat → Int32 → Int32 → Int32 → Int32 → Option (Int32 × ah_h))  (M : ah_h) (a0 : Nat) (x3 : Int32) (x4 : Int32) (x5 : Int32) : Option (Int32 × ah_h) := fX11_mixesMost_91 k11 k26 M a0 ((10 * x3) + x4) x5 x3 x4
set_option maxRecDepth 100000 in
set_option maxHeartbeats 4000000 in
theorem wX11_mixesMost_80 {p : Program} {l : Launch} {e : Env} {s : State} {m : MethodId} {args : Array Value} {below : List Frame} {meth : Method} {c : Code} {D : va_G} {ca : Nat → ClassId} {H0 : Heap} {z : Nat} (K : ah_K p s m args meth c D ca "ShipsThatMeetModel" cX11_mixesMost 6 (some .int))  (k11 : ah_h → Nat → Int32 → Int32 → Int32 → Option (Int32 × ah_h)) (hk11 : ∀ (M : ah_h) (a0 : Nat) (x1 : Int32) (x2 : Int32) (x3 : Int32)  (H : Heap) (locs : List Loc) (ls : Array Slot), ah_g H0 D ca M z H → ah_L H0 locs → lv_has ls 6 [(0, .ref a0), (1, .int x1), (2, .int x2), (3, .int x3)] → ∀ Z, k11 M a0 x1 x2 x3 = some Z → W p l e { frames := 5, cells := 0, slots := 0, locals := 116 } s m args below meth c H locs 0 0 (ah_Q below args s H0 D ca 0 0 (some (.int Z.1)) Z.2 z) (F0 m 11 ls [])) (k26 : ah_h → Nat → Int32 → Int32 → Int32 → Int32 → Option (Int32 × ah_h)) (hk26 : ∀ (M : ah_h) (a0 : Nat) (x1 : Int32) (x2 : Int32) (x3 : Int32) (x4 : Int32)  (H : Heap) (locs : List Loc) (ls : Array Slot), ah_g H0 D ca M z H → ah_L H0 locs → lv_has ls 6 [(0, .ref a0), (1, .int x1), (2, .int x2), (3, .int x3), (4, .int x4)] → ∀ Z, k26 M a0 x1 x2 x3 x4 = some Z → W p l e { frames := 5, cells := 0, slots := 0, locals := 116 } s m args below meth c H locs 0 0 (ah_Q below args s H0 D ca 0 0 (some (.int Z.1)) Z.2 z) (F0 m 26 ls [])) : ∀ (M : ah_h) (a0 : Nat) (x3 : Int32) (x4 : Int32) (x5 : Int32)  (H : Heap) (locs : List Loc) (ls : Array Slot), ah_g H0 D ca M z H → ah_L H0 locs → lv_has ls 6 [(0, .ref a0), (3, .int x3), (4, .int x4), (5, .int x5)] → ∀ Z, fX11_mixesMost_80  k11 k26  M a0 x3 x4 x5 = some Z → W p l e { frames := 5, cells := 0, slots := 0, locals := 116 } s m args below meth c H locs 0 0 (ah_Q below args s H0 D ca 0 0 (some (.int Z.1)) Z.2 z) (F0 m 80 ls []) := by
  intro M a0 x3 x4 x5 H locs ls hG hL hl Z hf
  unfold fX11_mixesMost_80 at hf
  refine lv_bipush (v := 10) K.1 K.2.1 dX11_mixesMost_80 (by decide) ?_
  refine lv_iload_n K.1 K.2.1 dX11_mixesMost_82 rfl (lv_at hl 1 rfl) ?_
  refine lv_imul K.1 K.2.1 dX11_mixesMost_83 ?_
  refine lv_iload K.1 K.2.1 dX11_mixesMost_84 (lv_at hl 2 rfl) ?_
  refine lv_iadd K.1 K.2.1 dX11_mixesMost_86 ?_
  refine lv_istore_n (lv' := [(1, .int ((10 * x3) + x4)), (0, .ref a0), (3, .int x3), (4, .int x4), (5, .int x5)]) K.1 K.2.1 dX11_mixesMost_87 rfl hl (by decide) rfl (fun ls hl => ?_)
  refine lv_iload K.1 K.2.1 dX11_mixesMost_88 (lv_at hl 4 rfl) ?_
  refine lv_istore_n (lv' := [(2, .int x5), (1, .int ((10 * x3) + x4)), (0, .ref a0), (3, .int x3), (4, .int x4), (5, .int x5)]) K.1 K.2.1 dX11_mixesMost_90 rfl hl (by decide) rfl (fun ls hl => ?_)
  exact wX11_mixesMost_91 K k11 hk11 k26 hk26 M a0 ((10 * x3) + x4) x5 x3 x4 _ _ _ hG hL (lv_sub hl [2, 1, 0, 3, 4] rfl) _ hf
def fX11_mixesMost_26_b  (k11 : ah_h → Nat → Int32 → Int32 → Int32 → Option (Int32 × ah_h)) (k26 : ah_h → Nat → Int32 → Int32 → Int32 → Int32 → Option (Int32 × ah_h))  (M : ah_h) (a0 : Nat) (x1 : Int32) (x2 : Int32) (x3 : Int32) (x4 : Int32) : Option (Int32 × ah_h) := (ah_gr M a0 11 0).bind fun v1 => (ah_ai M v1 0).bind fun v2 => if v2 ≤ x4 then (k11 M a0 x1 x2 (x3 + 1)) else ((fX11_mayMeet M a0 x3 x4).bind fun v4 => if v4 = 0 then (fX11_mixesMost_91 k11 k26 M a0 x1 x2 x3 x4) else ((fX11_meets M a0 x3 x4).bind fun v7 => (fX11_mixedNow v7 a0).bind fun v9 => (fX11_ends v7 a0).bind fun v11 => if x1 < 0 then (fX11_mixesMost_80 k11 k26 v11 a0 x3 x4 v9) else (if x2 < v9 then (fX11_mixesMost_80 k11 k26 v11 a0 x3 x4 v9) else (fX11_mixesMost_91 k11 k26 v11 a0 x1 x2 x3 x4))))
def fX11_mixesMost_26  (k11 : ah_h → Nat → Int32 → Int32 → Int32 → Option (Int32 × ah_h))  : Nat → ah_h → Nat → Int32 → Int32 → Int32 → Int32 → Option (Int32 × ah_h)
  | 0 => fun _ _ _ _ _ _ => none
  | n + 1 => fun M a0 x1 x2 x3 x4 => fX11_mixesMost_26_b  k11 (fX11_mixesMost_26  k11  n)  M a0 x1 x2 x3 x4
set_option maxRecDepth 100000 in
set_option maxHeartbeats 4000000 in
theorem wX11_mixesMost_26_b {p : Program} {l : Launch} {e : Env} {s : State} {m : MethodId} {args : Array Value} {below : List Frame} {meth : Method} {c : Code} {D : va_G} {ca : Nat → ClassId} {H0 : Heap} {z : Nat} (K : ah_K p s m args meth c D ca "ShipsThatMeetModel" cX11_mixesMost 6 (some .int))  (k11 : ah_h → Nat → Int32 → Int32 → Int32 → Option (Int32 × ah_h)) (hk11 : ∀ (M : ah_h) (a0 : Nat) (x1 : Int32) (x2 : Int32) (x3 : Int32)  (H : Heap) (locs : List Loc) (ls : Array Slot), ah_g H0 D ca M z H → ah_L H0 locs → lv_has ls 6 [(0, .ref a0), (1, .int x1), (2, .int x2), (3, .int x3)] → ∀ Z, k11 M a0 x1 x2 x3 = some Z → W p l e { frames := 5, cells := 0, slots := 0, locals := 116 } s m args below meth c H locs 0 0 (ah_Q below args s H0 D ca 0 0 (some (.int Z.1)) Z.2 z) (F0 m 11 ls [])) (k26 : ah_h → Nat → Int32 → Int32 → Int32 → Int32 → Option (Int32 × ah_h)) (hk26 : ∀ (M : ah_h) (a0 : Nat) (x1 : Int32) (x2 : Int32) (x3 : Int32) (x4 : Int32)  (H : Heap) (locs : List Loc) (ls : Array Slot), ah_g H0 D ca M z H → ah_L H0 locs → lv_has ls 6 [(0, .ref a0), (1, .int x1), (2, .int x2), (3, .int x3), (4, .int x4)] → ∀ Z, k26 M a0 x1 x2 x3 x4 = some Z → W p l e { frames := 5, cells := 0, slots := 0, locals := 116 } s m args below meth c H locs 0 0 (ah_Q below args s H0 D ca 0 0 (some (.int Z.1)) Z.2 z) (F0 m 26 ls [])) : ∀ (M : ah_h) (a0 : Nat) (x1 : Int32) (x2 : Int32) (x3 : Int32) (x4 : Int32)  (H : Heap) (locs : List Loc) (ls : Array Slot), ah_g H0 D ca M z H → ah_L H0 locs → lv_has ls 6 [(0, .ref a0), (1, .int x1), (2, .int x2), (3, .int x3), (4, .int x4)] → ∀ Z, fX11_mixesMost_26_b  k11 k26  M a0 x1 x2 x3 x4 = some Z → W p l e { frames := 5, cells := 0, slots := 0, locals := 116 } s m args below meth c H locs 0 0 (ah_Q below args s H0 D ca 0 0 (some (.int Z.1)) Z.2 z) (F0 m 26 ls []) := by
  intro M a0 x1 x2 x3 x4 H locs ls hG hL hl Z hf
  unfold fX11_mixesMost_26_b at hf
  refine lv_iload K.1 K.2.1 dX11_mixesMost_26 (lv_at hl 4 rfl) ?_
  refine lv_aload_n K.1 K.2.1 dX11_mixesMost_28 rfl (lv_at hl 0 rfl) ?_
  obtain ⟨v1, ev1, hf⟩ := Option.bind_eq_some_iff.mp hf
  refine ah_getr K hG ev1 ffX11_9_11 dX11_mixesMost_29 ?_
  refine lv_iconst (v := 0) K.1 K.2.1 dX11_mixesMost_32 (by decide) ?_
  obtain ⟨v2, ev2, hf⟩ := Option.bind_eq_some_iff.mp hf
  refine ah_iald K hG ev2 dX11_mixesMost_33 ?_
  refine lv_icmp_ge (tgt := 97) K.1 K.2.1 dX11_mixesMost_34 (by decide) (fun h3 => ?_) (fun h3 => ?_)
  · rw [if_pos h3] at hf
    refine lv_iinc (v := x3 + 1) (lv' := [(3, .int (x3 + 1)), (0, .ref a0), (1, .int x1), (2, .int x2), (4, .int x4)]) K.1 K.2.1 dX11_mixesMost_97 hl (k := 3) rfl rfl (by decide) rfl (fun ls hl => ?_)
    refine lv_goto (tgt := 11) K.1 K.2.1 dX11_mixesMost_100 (by decide) ?_
    exact hk11 M a0 x1 x2 (x3 + 1) _ _ _ hG hL (lv_sub hl [1, 2, 3, 0] rfl) _ hf
  · rw [if_neg h3] at hf
    refine lv_aload_n K.1 K.2.1 dX11_mixesMost_37 rfl (lv_at hl 0 rfl) ?_
    refine lv_iload_n K.1 K.2.1 dX11_mixesMost_38 rfl (lv_at hl 3 rfl) ?_
    refine lv_iload K.1 K.2.1 dX11_mixesMost_39 (lv_at hl 4 rfl) ?_
    obtain ⟨v4, ev4, hf⟩ := Option.bind_eq_some_iff.mp hf
    obtain ⟨q5, eq5⟩ := ah_this ev4
    refine ah_callV (As := [.int x3, .int x4]) (rest := []) K hG hL hl.1 eq5 rfl (ctX11_mayMeet l H0 D ca M z a0 x3 x4 v4 ev4) hdX11_mayMeet q_1016 q_1018 q_54 q_1019 q_21 ⟨Nat.le_of_ble_eq_true rfl, Nat.le_of_ble_eq_true rfl⟩ rfl rfl (Nat.le_of_ble_eq_true rfl) ⟨Nat.le_refl _, Nat.le_refl _⟩ dX11_mixesMost_41 (fun H locs hG hL => ?_)
    refine lv_if_ne (tgt := 50) K.1 K.2.1 dX11_mixesMost_44 (by decide) (fun h6 => ?_) (fun h6 => ?_)
    · rw [if_neg h6] at hf
      refine lv_aload_n K.1 K.2.1 dX11_mixesMost_50 rfl (lv_at hl 0 rfl) ?_
      refine lv_iload_n K.1 K.2.1 dX11_mixesMost_51 rfl (lv_at hl 3 rfl) ?_
      refine lv_iload K.1 K.2.1 dX11_mixesMost_52 (lv_at hl 4 rfl) ?_
      obtain ⟨v7, ev7, hf⟩ := Option.bind_eq_some_iff.mp hf
      obtain ⟨q8, eq8⟩ := ah_this ev7
      refine ah_callV (As := [.int x3, .int x4]) (rest := []) K hG hL hl.1 eq8 rfl (ctX11_meets l H0 D ca M z a0 x3 x4 v7 ev7) hdX11_meets q_1020 q_1022 q_54 q_1023 q_22 ⟨Nat.le_of_ble_eq_true rfl, Nat.le_of_ble_eq_true rfl⟩ rfl rfl (Nat.le_of_ble_eq_true rfl) ⟨Nat.le_refl _, Nat.le_refl _⟩ dX11_mixesMost_54 (fun H locs hG hL => ?_)
      refine lv_aload_n K.1 K.2.1 dX11_mixesMost_57 rfl (lv_at hl 0 rfl) ?_
      obtain ⟨v9, ev9, hf⟩ := Option.bind_eq_some_iff.mp hf
      obtain ⟨q10, eq10⟩ := ah_this ev9
      refine ah_callV (As := []) (rest := []) K hG hL hl.1 eq10 rfl (ctX11_mixedNow l H0 D ca v7 z a0 v9 ev9) hdX11_mixedNow q_1175 q_1177 q_54 q_1178 q_45 ⟨Nat.le_of_ble_eq_true rfl, Nat.le_of_ble_eq_true rfl⟩ rfl rfl (Nat.le_of_ble_eq_true rfl) ⟨Nat.le_refl _, Nat.le_refl _⟩ dX11_mixesMost_58 (fun H locs hG hL => ?_)
      refine lv_istore (lv' := [(5, .int v9), (0, .ref a0), (1, .int x1), (2, .int x2), (3, .int x3), (4, .int x4)]) K.1 K.2.1 dX11_mixesMost_61 hl (by decide) rfl (fun ls hl => ?_)
      refine lv_aload_n K.1 K.2.1 dX11_mixesMost_63 rfl (lv_at hl 1 rfl) ?_
      obtain ⟨v11, ev11, hf⟩ := Option.bind_eq_some_iff.mp hf
      obtain ⟨q12, eq12⟩ := ah_this ev11
      refine ah_callV (As := []) (rest := []) K hG hL hl.1 eq12 rfl (ctX11_ends l H0 D ca v7 z a0 v11 ev11) hdX11_ends q_1111 q_1113 q_54 q_1114 q_38 ⟨Nat.le_of_ble_eq_true rfl, Nat.le_of_ble_eq_true rfl⟩ rfl rfl (Nat.le_of_ble_eq_true rfl) ⟨Nat.le_refl _, Nat.le_refl _⟩ dX11_mixesMost_64 (fun H locs hG hL => ?_)
      refine lv_iload_n K.1 K.2.1 dX11_mixesMost_67 rfl (lv_at hl 2 rfl) ?_
      refine lv_if_lt (tgt := 80) K.1 K.2.1 dX11_mixesMost_68 (by decide) (fun h13 => ?_) (fun h13 => ?_)
      · rw [if_pos h13] at hf
        exact wX11_mixesMost_80 K k11 hk11 k26 hk26 v11 a0 x3 x4 v9 _ _ _ hG hL (lv_sub hl [1, 4, 5, 0] rfl) _ hf
      · rw [if_neg h13] at hf
        refine lv_iload K.1 K.2.1 dX11_mixesMost_71 (lv_at hl 0 rfl) ?_
        refine lv_iload_n K.1 K.2.1 dX11_mixesMost_73 rfl (lv_at hl 3 rfl) ?_
        refine lv_icmp_gt (tgt := 80) K.1 K.2.1 dX11_mixesMost_74 (by decide) (fun h14 => ?_) (fun h14 => ?_)
        · rw [if_pos h14] at hf
          exact wX11_mixesMost_80 K k11 hk11 k26 hk26 v11 a0 x3 x4 v9 _ _ _ hG hL (lv_sub hl [1, 4, 5, 0] rfl) _ hf
        · rw [if_neg h14] at hf
          refine lv_goto (tgt := 91) K.1 K.2.1 dX11_mixesMost_77 (by decide) ?_
          exact wX11_mixesMost_91 K k11 hk11 k26 hk26 v11 a0 x1 x2 x3 x4 _ _ _ hG hL (lv_sub hl [1, 2, 3, 4, 5] rfl) _ hf
    · rw [if_pos h6] at hf
      refine lv_goto (tgt := 91) K.1 K.2.1 dX11_mixesMost_47 (by decide) ?_
      exact wX11_mixesMost_91 K k11 hk11 k26 hk26 M a0 x1 x2 x3 x4 _ _ _ hG hL (lv_sub hl [0, 1, 2, 3, 4] rfl) _ hf
theorem wX11_mixesMost_26 {p : Program} {l : Launch} {e : Env} {s : State} {m : MethodId} {args : Array Value} {below : List Frame} {meth : Method} {c : Code} {D : va_G} {ca : Nat → ClassId} {H0 : Heap} {z : Nat} (K : ah_K p s m args meth c D ca "ShipsThatMeetModel" cX11_mixesMost 6 (some .int))  (k11 : ah_h → Nat → Int32 → Int32 → Int32 → Option (Int32 × ah_h)) (hk11 : ∀ (M : ah_h) (a0 : Nat) (x1 : Int32) (x2 : Int32) (x3 : Int32)  (H : Heap) (locs : List Loc) (ls : Array Slot), ah_g H0 D ca M z H → ah_L H0 locs → lv_has ls 6 [(0, .ref a0), (1, .int x1), (2, .int x2), (3, .int x3)] → ∀ Z, k11 M a0 x1 x2 x3 = some Z → W p l e { frames := 5, cells := 0, slots := 0, locals := 116 } s m args below meth c H locs 0 0 (ah_Q below args s H0 D ca 0 0 (some (.int Z.1)) Z.2 z) (F0 m 11 ls [])) (n : Nat) : ∀ (M : ah_h) (a0 : Nat) (x1 : Int32) (x2 : Int32) (x3 : Int32) (x4 : Int32)  (H : Heap) (locs : List Loc) (ls : Array Slot), ah_g H0 D ca M z H → ah_L H0 locs → lv_has ls 6 [(0, .ref a0), (1, .int x1), (2, .int x2), (3, .int x3), (4, .int x4)] → ∀ Z, fX11_mixesMost_26  k11  n M a0 x1 x2 x3 x4 = some Z → W p l e { frames := 5, cells := 0, slots := 0, locals := 116 } s m args below meth c H locs 0 0 (ah_Q below args s H0 D ca 0 0 (some (.int Z.1)) Z.2 z) (F0 m 26 ls []) := by
  induction n with
  | zero => intro M a0 x1 x2 x3 x4 H locs ls hG hL hl Z hf; cases hf
  | succ n ih => exact wX11_mixesMost_26_b K k11 hk11 _ ih
def fX11_mixesMost_11_b   (k11 : ah_h → Nat → Int32 → Int32 → Int32 → Option (Int32 × ah_h))  (M : ah_h) (a0 : Nat) (x1 : Int32) (x2 : Int32) (x3 : Int32) : Option (Int32 × ah_h) := (ah_gr M a0 11 0).bind fun v1 => (ah_ai M v1 0).bind fun v2 => if v2 ≤ x3 then (some (x1, M)) else (fX11_mixesMost_26 k11 ah_fu M a0 x1 x2 x3 (x3 + 1))
def fX11_mixesMost_11    : Nat → ah_h → Nat → Int32 → Int32 → Int32 → Option (Int32 × ah_h)
  | 0 => fun _ _ _ _ _ => none
  | n + 1 => fun M a0 x1 x2 x3 => fX11_mixesMost_11_b   (fX11_mixesMost_11    n)  M a0 x1 x2 x3
set_option maxRecDepth 100000 in
set_option maxHeartbeats 4000000 in
theorem wX11_mixesMost_11_b {p : Program} {l : Launch} {e : Env} {s : State} {m : MethodId} {args : Array Value} {below : List Frame} {meth : Method} {c : Code} {D : va_G} {ca : Nat → ClassId} {H0 : Heap} {z : Nat} (K : ah_K p s m args meth c D ca "ShipsThatMeetModel" cX11_mixesMost 6 (some .int))   (k11 : ah_h → Nat → Int32 → Int32 → Int32 → Option (Int32 × ah_h)) (hk11 : ∀ (M : ah_h) (a0 : Nat) (x1 : Int32) (x2 : Int32) (x3 : Int32)  (H : Heap) (locs : List Loc) (ls : Array Slot), ah_g H0 D ca M z H → ah_L H0 locs → lv_has ls 6 [(0, .ref a0), (1, .int x1), (2, .int x2), (3, .int x3)] → ∀ Z, k11 M a0 x1 x2 x3 = some Z → W p l e { frames := 5, cells := 0, slots := 0, locals := 116 } s m args below meth c H locs 0 0 (ah_Q below args s H0 D ca 0 0 (some (.int Z.1)) Z.2 z) (F0 m 11 ls [])) : ∀ (M : ah_h) (a0 : Nat) (x1 : Int32) (x2 : Int32) (x3 : Int32)  (H : Heap) (locs : List Loc) (ls : Array Slot), ah_g H0 D ca M z H → ah_L H0 locs → lv_has ls 6 [(0, .ref a0), (1, .int x1), (2, .int x2), (3, .int x3)] → ∀ Z, fX11_mixesMost_11_b   k11  M a0 x1 x2 x3 = some Z → W p l e { frames := 5, cells := 0, slots := 0, locals := 116 } s m args below meth c H locs 0 0 (ah_Q below args s H0 D ca 0 0 (some (.int Z.1)) Z.2 z) (F0 m 11 ls []) := by
  intro M a0 x1 x2 x3 H locs ls hG hL hl Z hf
  unfold fX11_mixesMost_11_b at hf
  refine lv_iload_n K.1 K.2.1 dX11_mixesMost_11 rfl (lv_at hl 3 rfl) ?_
  refine lv_aload_n K.1 K.2.1 dX11_mixesMost_12 rfl (lv_at hl 0 rfl) ?_
  obtain ⟨v1, ev1, hf⟩ := Option.bind_eq_some_iff.mp hf
  refine ah_getr K hG ev1 ffX11_9_11 dX11_mixesMost_13 ?_
  refine lv_iconst (v := 0) K.1 K.2.1 dX11_mixesMost_16 (by decide) ?_
  obtain ⟨v2, ev2, hf⟩ := Option.bind_eq_some_iff.mp hf
  refine ah_iald K hG ev2 dX11_mixesMost_17 ?_
  refine lv_icmp_ge (tgt := 103) K.1 K.2.1 dX11_mixesMost_18 (by decide) (fun h3 => ?_) (fun h3 => ?_)
  · rw [if_pos h3] at hf
    refine lv_iload_n K.1 K.2.1 dX11_mixesMost_103 rfl (lv_at hl 1 rfl) ?_
    have hf := Option.some.inj hf
    subst hf
    exact ah_iret K hG hL (Nat.le_refl _) (Nat.le_refl _) dX11_mixesMost_104
  · rw [if_neg h3] at hf
    refine lv_iload_n K.1 K.2.1 dX11_mixesMost_21 rfl (lv_at hl 3 rfl) ?_
    refine lv_iconst (v := 1) K.1 K.2.1 dX11_mixesMost_22 (by decide) ?_
    refine lv_iadd K.1 K.2.1 dX11_mixesMost_23 ?_
    refine lv_istore (lv' := [(4, .int (x3 + 1)), (0, .ref a0), (1, .int x1), (2, .int x2), (3, .int x3)]) K.1 K.2.1 dX11_mixesMost_24 hl (by decide) rfl (fun ls hl => ?_)
    exact wX11_mixesMost_26 K k11 hk11 ah_fu M a0 x1 x2 x3 (x3 + 1) _ _ _ hG hL (lv_sub hl [1, 2, 3, 4, 0] rfl) _ hf
theorem wX11_mixesMost_11 {p : Program} {l : Launch} {e : Env} {s : State} {m : MethodId} {args : Array Value} {below : List Frame} {meth : Method} {c : Code} {D : va_G} {ca : Nat → ClassId} {H0 : Heap} {z : Nat} (K : ah_K p s m args meth c D ca "ShipsThatMeetModel" cX11_mixesMost 6 (some .int))   (n : Nat) : ∀ (M : ah_h) (a0 : Nat) (x1 : Int32) (x2 : Int32) (x3 : Int32)  (H : Heap) (locs : List Loc) (ls : Array Slot), ah_g H0 D ca M z H → ah_L H0 locs → lv_has ls 6 [(0, .ref a0), (1, .int x1), (2, .int x2), (3, .int x3)] → ∀ Z, fX11_mixesMost_11    n M a0 x1 x2 x3 = some Z → W p l e { frames := 5, cells := 0, slots := 0, locals := 116 } s m args below meth c H locs 0 0 (ah_Q below args s H0 D ca 0 0 (some (.int Z.1)) Z.2 z) (F0 m 11 ls []) := by
  induction n with
  | zero => intro M a0 x1 x2 x3 H locs ls hG hL hl Z hf; cases hf
  | succ n ih => exact wX11_mixesMost_11_b K  _ ih
def fX11_mixesMost (M : ah_h) (a0 : Nat) : Option (Int32 × ah_h) := (ah_ob M a0 11).bind fun _ => (fX11_begins M a0).bind fun v1 => fX11_mixesMost_11 ah_fu v1 a0 (-4) 0 0
set_option maxRecDepth 100000 in
set_option maxHeartbeats 4000000 in
theorem ctX11_mixesMost (l : Launch) (H0 : Heap) (D : va_G) (ca : Nat → ClassId) (M : ah_h) (z : Nat) (a0 : Nat) (Z : Int32 × ah_h) (hf : fX11_mixesMost M a0 = some Z) : ah_ct l H0 D ca yX11_mixesMost cX11_mixesMost 6 (some .int) 5 116 0 0 [.ref a0] M z (some (.int Z.1)) Z.2 z := by
  refine ah_of (by decide) (Nat.le_of_ble_eq_true rfl) ?_
  intro p e s m below meth c ls hin K hG hl
  have hL : ah_L H0 [] := ah_L.nil
  have hl : lv_has ls 6 [(0, .ref a0)] := hl
  unfold fX11_mixesMost at hf
  obtain ⟨-, -, hf⟩ := Option.bind_eq_some_iff.mp hf
  refine lv_bipush (v := (-4)) K.1 K.2.1 dX11_mixesMost_0 (by decide) ?_
  refine lv_istore_n (lv' := [(1, .int (-4)), (0, .ref a0)]) K.1 K.2.1 dX11_mixesMost_2 rfl hl (by decide) rfl (fun ls hl => ?_)
  refine lv_iconst (v := 0) K.1 K.2.1 dX11_mixesMost_3 (by decide) ?_
  refine lv_istore_n (lv' := [(2, .int 0), (1, .int (-4)), (0, .ref a0)]) K.1 K.2.1 dX11_mixesMost_4 rfl hl (by decide) rfl (fun ls hl => ?_)
  refine lv_aload_n K.1 K.2.1 dX11_mixesMost_5 rfl (lv_at hl 2 rfl) ?_
  obtain ⟨v1, ev1, hf⟩ := Option.bind_eq_some_iff.mp hf
  obtain ⟨q2, eq2⟩ := ah_this ev1
  refine ah_callV (As := []) (rest := []) K hG hL hl.1 eq2 rfl (ctX11_begins l H0 D ca M z a0 v1 ev1) hdX11_begins q_1091 q_1093 q_54 q_1094 q_33 ⟨Nat.le_of_ble_eq_true rfl, Nat.le_of_ble_eq_true rfl⟩ rfl rfl (Nat.le_of_ble_eq_true rfl) ⟨Nat.le_refl _, Nat.le_refl _⟩ dX11_mixesMost_6 (fun H locs hG hL => ?_)
  refine lv_iconst (v := 0) K.1 K.2.1 dX11_mixesMost_9 (by decide) ?_
  refine lv_istore_n (lv' := [(3, .int 0), (2, .int 0), (1, .int (-4)), (0, .ref a0)]) K.1 K.2.1 dX11_mixesMost_10 rfl hl (by decide) rfl (fun ls hl => ?_)
  exact wX11_mixesMost_11 K  ah_fu v1 a0 (-4) 0 0 _ _ _ hG hL (lv_sub hl [3, 2, 1, 0] rfl) _ hf
def fX11_lacks_60  (k27 : Nat → Int32 → Int32 → Int32 → Option (Int32)) (M : ah_h) (a0 : Nat) (x1 : Int32) (x2 : Int32) (x3 : Int32) : Option (Int32) := k27 a0 x1 x2 (x3 + 1)
set_option maxRecDepth 100000 in
set_option maxHeartbeats 4000000 in
theorem wX11_lacks_60 {p : Program} {l : Launch} {e : Env} {s : State} {m : MethodId} {args : Array Value} {below : List Frame} {meth : Method} {c : Code} {D : va_G} {ca : Nat → ClassId} {H0 : Heap} {M : ah_h} {z : Nat} (K : ah_K p s m args meth c D ca "ShipsThatMeetModel" cX11_lacks 4 (some .int))  (k27 : Nat → Int32 → Int32 → Int32 → Option (Int32)) (hk27 : ∀ (a0 : Nat) (x1 : Int32) (x2 : Int32) (x3 : Int32)  (H : Heap) (locs : List Loc) (ls : Array Slot), ah_g H0 D ca M z H → ah_L H0 locs → lv_has ls 4 [(0, .ref a0), (1, .int x1), (2, .int x2), (3, .int x3)] → ∀ Z, k27 a0 x1 x2 x3 = some Z → W p l e { frames := 1, cells := 0, slots := 0, locals := 25 } s m args below meth c H locs 0 0 (ah_Q below args s H0 D ca 0 0 (some (.int Z)) M z) (F0 m 27 ls [])) : ∀ (a0 : Nat) (x1 : Int32) (x2 : Int32) (x3 : Int32)  (H : Heap) (locs : List Loc) (ls : Array Slot), ah_g H0 D ca M z H → ah_L H0 locs → lv_has ls 4 [(0, .ref a0), (1, .int x1), (2, .int x2), (3, .int x3)] → ∀ Z, fX11_lacks_60  k27 M a0 x1 x2 x3 = some Z → W p l e { frames := 1, cells := 0, slots := 0, locals := 25 } s m args below meth c H locs 0 0 (ah_Q below args s H0 D ca 0 0 (some (.int Z)) M z) (F0 m 60 ls []) := by
  intro a0 x1 x2 x3 H locs ls hG hL hl Z hf
  unfold fX11_lacks_60 at hf
  refine lv_iinc (v := x3 + 1) (lv' := [(3, .int (x3 + 1)), (0, .ref a0), (1, .int x1), (2, .int x2)]) K.1 K.2.1 dX11_lacks_60 hl (k := 3) rfl rfl (by decide) rfl (fun ls hl => ?_)
  refine lv_goto (tgt := 27) K.1 K.2.1 dX11_lacks_63 (by decide) ?_
  exact hk27 a0 x1 x2 (x3 + 1) _ _ _ hG hL (lv_sub hl [1, 2, 3, 0] rfl) _ hf
def fX11_lacks_27_b   (k27 : Nat → Int32 → Int32 → Int32 → Option (Int32)) (M : ah_h) (a0 : Nat) (x1 : Int32) (x2 : Int32) (x3 : Int32) : Option (Int32) := (ah_gr M a0 11 0).bind fun v1 => (ah_ai M v1 1).bind fun v2 => if v2 ≤ x3 then (some x2) else ((fX11_get M a0 x3 1).bind fun v4 => if v4 = x1 then ((fX11_get M a0 x3 0).bind fun v7 => fX11_lacks_60 k27 M a0 x1 (x2 &&& (((1 : Int32) <<< (v7 &&& 31)) ^^^ (-1))) x3) else (fX11_lacks_60 k27 M a0 x1 x2 x3))
def fX11_lacks_27   (M : ah_h) : Nat → Nat → Int32 → Int32 → Int32 → Option (Int32)
  | 0 => fun _ _ _ _ => none
  | n + 1 => fun a0 x1 x2 x3 => fX11_lacks_27_b   (fX11_lacks_27   M n) M a0 x1 x2 x3
set_option maxRecDepth 100000 in
set_option maxHeartbeats 4000000 in
theorem wX11_lacks_27_b {p : Program} {l : Launch} {e : Env} {s : State} {m : MethodId} {args : Array Value} {below : List Frame} {meth : Method} {c : Code} {D : va_G} {ca : Nat → ClassId} {H0 : Heap} {M : ah_h} {z : Nat} (K : ah_K p s m args meth c D ca "ShipsThatMeetModel" cX11_lacks 4 (some .int))   (k27 : Nat → Int32 → Int32 → Int32 → Option (Int32)) (hk27 : ∀ (a0 : Nat) (x1 : Int32) (x2 : Int32) (x3 : Int32)  (H : Heap) (locs : List Loc) (ls : Array Slot), ah_g H0 D ca M z H → ah_L H0 locs → lv_has ls 4 [(0, .ref a0), (1, .int x1), (2, .int x2), (3, .int x3)] → ∀ Z, k27 a0 x1 x2 x3 = some Z → W p l e { frames := 1, cells := 0, slots := 0, locals := 25 } s m args below meth c H locs 0 0 (ah_Q below args s H0 D ca 0 0 (some (.int Z)) M z) (F0 m 27 ls [])) : ∀ (a0 : Nat) (x1 : Int32) (x2 : Int32) (x3 : Int32)  (H : Heap) (locs : List Loc) (ls : Array Slot), ah_g H0 D ca M z H → ah_L H0 locs → lv_has ls 4 [(0, .ref a0), (1, .int x1), (2, .int x2), (3, .int x3)] → ∀ Z, fX11_lacks_27_b   k27 M a0 x1 x2 x3 = some Z → W p l e { frames := 1, cells := 0, slots := 0, locals := 25 } s m args below meth c H locs 0 0 (ah_Q below args s H0 D ca 0 0 (some (.int Z)) M z) (F0 m 27 ls []) := by
  intro a0 x1 x2 x3 H locs ls hG hL hl Z hf
  unfold fX11_lacks_27_b at hf
  refine lv_iload_n K.1 K.2.1 dX11_lacks_27 rfl (lv_at hl 3 rfl) ?_
  refine lv_aload_n K.1 K.2.1 dX11_lacks_28 rfl (lv_at hl 0 rfl) ?_
  obtain ⟨v1, ev1, hf⟩ := Option.bind_eq_some_iff.mp hf
  refine ah_getr K hG ev1 ffX11_9_11 dX11_lacks_29 ?_
  refine lv_iconst (v := 1) K.1 K.2.1 dX11_lacks_32 (by decide) ?_
  obtain ⟨v2, ev2, hf⟩ := Option.bind_eq_some_iff.mp hf
  refine ah_iald K hG ev2 dX11_lacks_33 ?_
  refine lv_icmp_ge (tgt := 66) K.1 K.2.1 dX11_lacks_34 (by decide) (fun h3 => ?_) (fun h3 => ?_)
  · rw [if_pos h3] at hf
    refine lv_iload_n K.1 K.2.1 dX11_lacks_66 rfl (lv_at hl 2 rfl) ?_
    have hf := Option.some.inj hf
    subst hf
    exact ah_iret K hG hL (Nat.le_refl _) (Nat.le_refl _) dX11_lacks_67
  · rw [if_neg h3] at hf
    refine lv_aload_n K.1 K.2.1 dX11_lacks_37 rfl (lv_at hl 0 rfl) ?_
    refine lv_iload_n K.1 K.2.1 dX11_lacks_38 rfl (lv_at hl 3 rfl) ?_
    refine lv_iconst (v := 1) K.1 K.2.1 dX11_lacks_39 (by decide) ?_
    obtain ⟨v4, ev4, hf⟩ := Option.bind_eq_some_iff.mp hf
    obtain ⟨q5, eq5⟩ := ah_this ev4
    refine ah_callV (As := [.int x3, .int 1]) (rest := []) K hG hL hl.1 eq5 rfl (ctX11_get l H0 D ca M z a0 x3 1 v4 ev4) hdX11_get q_1012 q_1014 q_54 q_1015 q_20 ⟨Nat.le_of_ble_eq_true rfl, Nat.le_of_ble_eq_true rfl⟩ rfl rfl (Nat.le_of_ble_eq_true rfl) ⟨Nat.le_refl _, Nat.le_refl _⟩ dX11_lacks_40 (fun H locs hG hL => ?_)
    refine lv_iload_n K.1 K.2.1 dX11_lacks_43 rfl (lv_at hl 1 rfl) ?_
    refine lv_icmp_ne (tgt := 60) K.1 K.2.1 dX11_lacks_44 (by decide) (fun h6 => ?_) (fun h6 => ?_)
    · rw [if_neg h6] at hf
      exact wX11_lacks_60 K k27 hk27 a0 x1 x2 x3 _ _ _ hG hL (lv_sub hl [0, 1, 2, 3] rfl) _ hf
    · rw [if_pos h6] at hf
      refine lv_iload_n K.1 K.2.1 dX11_lacks_47 rfl (lv_at hl 2 rfl) ?_
      refine lv_iconst (v := 1) K.1 K.2.1 dX11_lacks_48 (by decide) ?_
      refine lv_aload_n K.1 K.2.1 dX11_lacks_49 rfl (lv_at hl 0 rfl) ?_
      refine lv_iload_n K.1 K.2.1 dX11_lacks_50 rfl (lv_at hl 3 rfl) ?_
      refine lv_iconst (v := 0) K.1 K.2.1 dX11_lacks_51 (by decide) ?_
      obtain ⟨v7, ev7, hf⟩ := Option.bind_eq_some_iff.mp hf
      obtain ⟨q8, eq8⟩ := ah_this ev7
      refine ah_callV (As := [.int x3, .int 0]) (rest := [.int 1, .int x2]) K hG hL hl.1 eq8 rfl (ctX11_get l H0 D ca M z a0 x3 0 v7 ev7) hdX11_get q_1012 q_1014 q_54 q_1015 q_20 ⟨Nat.le_of_ble_eq_true rfl, Nat.le_of_ble_eq_true rfl⟩ rfl rfl (Nat.le_of_ble_eq_true rfl) ⟨Nat.le_refl _, Nat.le_refl _⟩ dX11_lacks_52 (fun H locs hG hL => ?_)
      refine lv_ishl K.1 K.2.1 dX11_lacks_55 ?_
      refine lv_iconst (v := (-1)) K.1 K.2.1 dX11_lacks_56 (by decide) ?_
      refine lv_ixor K.1 K.2.1 dX11_lacks_57 ?_
      refine lv_iand K.1 K.2.1 dX11_lacks_58 ?_
      refine lv_istore_n (lv' := [(2, .int (x2 &&& (((1 : Int32) <<< (v7 &&& 31)) ^^^ (-1)))), (0, .ref a0), (1, .int x1), (3, .int x3)]) K.1 K.2.1 dX11_lacks_59 rfl hl (by decide) rfl (fun ls hl => ?_)
      exact wX11_lacks_60 K k27 hk27 a0 x1 (x2 &&& (((1 : Int32) <<< (v7 &&& 31)) ^^^ (-1))) x3 _ _ _ hG hL (lv_sub hl [1, 2, 0, 3] rfl) _ hf
theorem wX11_lacks_27 {p : Program} {l : Launch} {e : Env} {s : State} {m : MethodId} {args : Array Value} {below : List Frame} {meth : Method} {c : Code} {D : va_G} {ca : Nat → ClassId} {H0 : Heap} {M : ah_h} {z : Nat} (K : ah_K p s m args meth c D ca "ShipsThatMeetModel" cX11_lacks 4 (some .int))   (n : Nat) : ∀ (a0 : Nat) (x1 : Int32) (x2 : Int32) (x3 : Int32)  (H : Heap) (locs : List Loc) (ls : Array Slot), ah_g H0 D ca M z H → ah_L H0 locs → lv_has ls 4 [(0, .ref a0), (1, .int x1), (2, .int x2), (3, .int x3)] → ∀ Z, fX11_lacks_27   M n a0 x1 x2 x3 = some Z → W p l e { frames := 1, cells := 0, slots := 0, locals := 25 } s m args below meth c H locs 0 0 (ah_Q below args s H0 D ca 0 0 (some (.int Z)) M z) (F0 m 27 ls []) := by
  induction n with
  | zero => intro a0 x1 x2 x3 H locs ls hG hL hl Z hf; cases hf
  | succ n ih => exact wX11_lacks_27_b K  _ ih
def fX11_lacks (M : ah_h) (a0 : Nat) (x1 : Int32) : Option (Int32) := (ah_ob M a0 11).bind fun _ => (fX11_isIn M x1.toInt64 0 3).bind fun v1 => if v1 = 0 then (some (-1)) else ((ah_gr M a0 11 0).bind fun v3 => (ah_ai M v3 0).bind fun v4 => fX11_lacks_27 M ah_fu a0 x1 (((1 : Int32) <<< (v4 &&& 31)) - 1) 0)
set_option maxRecDepth 100000 in
set_option maxHeartbeats 4000000 in
theorem ctX11_lacks (l : Launch) (H0 : Heap) (D : va_G) (ca : Nat → ClassId) (M : ah_h) (z : Nat) (a0 : Nat) (x1 : Int32) (Z : Int32) (hf : fX11_lacks M a0 x1 = some Z) : ah_ct l H0 D ca yX11_lacks cX11_lacks 4 (some .int) 1 25 0 0 [.ref a0, .int x1] M z (some (.int Z)) M z := by
  refine ah_of (by decide) (Nat.le_of_ble_eq_true rfl) ?_
  intro p e s m below meth c ls hin K hG hl
  have hL : ah_L H0 [] := ah_L.nil
  have hl : lv_has ls 4 [(0, .ref a0), (1, .int x1)] := hl
  unfold fX11_lacks at hf
  obtain ⟨-, -, hf⟩ := Option.bind_eq_some_iff.mp hf
  refine lv_iload_n K.1 K.2.1 dX11_lacks_0 rfl (lv_at hl 1 rfl) ?_
  refine lv_i2l (v := x1.toInt64) K.1 K.2.1 dX11_lacks_1 rfl ?_
  refine lv_lconst (v := 0) K.1 K.2.1 dX11_lacks_2 (by decide) ?_
  refine lv_ldc2 (v := 3) K.1 K.2.1 K.2.2.2.1 (K.2.2.2.2.1 _ q_1070) dX11_lacks_3 ?_
  obtain ⟨v1, ev1, hf⟩ := Option.bind_eq_some_iff.mp hf
  refine ah_callS (As := [.long x1.toInt64, .long 0, .long 3]) (rest := []) K hG hL hl.1 (ctX11_isIn l H0 D ca M z x1.toInt64 0 3 v1 ev1) hdX11_isIn q_972 q_973 q_54 q_974 ⟨Nat.le_of_ble_eq_true rfl, Nat.le_of_ble_eq_true rfl⟩ rfl rfl (Nat.le_of_ble_eq_true rfl) ⟨Nat.le_refl _, Nat.le_refl _⟩ dX11_lacks_6 (fun H locs hG hL => ?_)
  refine lv_if_ne (tgt := 14) K.1 K.2.1 dX11_lacks_9 (by decide) (fun h2 => ?_) (fun h2 => ?_)
  · rw [if_neg h2] at hf
    refine lv_iconst (v := 1) K.1 K.2.1 dX11_lacks_14 (by decide) ?_
    refine lv_aload_n K.1 K.2.1 dX11_lacks_15 rfl (lv_at hl 0 rfl) ?_
    obtain ⟨v3, ev3, hf⟩ := Option.bind_eq_some_iff.mp hf
    refine ah_getr K hG ev3 ffX11_9_11 dX11_lacks_16 ?_
    refine lv_iconst (v := 0) K.1 K.2.1 dX11_lacks_19 (by decide) ?_
    obtain ⟨v4, ev4, hf⟩ := Option.bind_eq_some_iff.mp hf
    refine ah_iald K hG ev4 dX11_lacks_20 ?_
    refine lv_ishl K.1 K.2.1 dX11_lacks_21 ?_
    refine lv_iconst (v := 1) K.1 K.2.1 dX11_lacks_22 (by decide) ?_
    refine lv_isub K.1 K.2.1 dX11_lacks_23 ?_
    refine lv_istore_n (lv' := [(2, .int (((1 : Int32) <<< (v4 &&& 31)) - 1)), (0, .ref a0), (1, .int x1)]) K.1 K.2.1 dX11_lacks_24 rfl hl (by decide) rfl (fun ls hl => ?_)
    refine lv_iconst (v := 0) K.1 K.2.1 dX11_lacks_25 (by decide) ?_
    refine lv_istore_n (lv' := [(3, .int 0), (2, .int (((1 : Int32) <<< (v4 &&& 31)) - 1)), (0, .ref a0), (1, .int x1)]) K.1 K.2.1 dX11_lacks_26 rfl hl (by decide) rfl (fun ls hl => ?_)
    exact wX11_lacks_27 K  ah_fu a0 x1 (((1 : Int32) <<< (v4 &&& 31)) - 1) 0 _ _ _ hG hL (lv_sub hl [2, 3, 1, 0] rfl) _ hf
  · rw [if_pos h2] at hf
    refine lv_iconst (v := (-1)) K.1 K.2.1 dX11_lacks_12 (by decide) ?_
    have hf := Option.some.inj hf
    subst hf
    exact ah_iret K hG hL (Nat.le_refl _) (Nat.le_refl _) dX11_lacks_13
def fX11_spreads_32  (k4 : Nat → Int32 → Int32 → Int32 → Option (Int32)) (M : ah_h) (a0 : Nat) (x1 : Int32) (x2 : Int32) (x3 : Int32) : Option (Int32) := k4 a0 x1 x2 (x3 + 1)
set_option maxRecDepth 100000 in
set_option maxHeartbeats 4000000 in
theorem wX11_spreads_32 {p : Program} {l : Launch} {e : Env} {s : State} {m : MethodId} {args : Array Value} {below : List Frame} {meth : Method} {c : Code} {D : va_G} {ca : Nat → ClassId} {H0 : Heap} {M : ah_h} {z : Nat} (K : ah_K p s m args meth c D ca "ShipsThatMeetModel" cX11_spreads 4 (some .int))  (k4 : Nat → Int32 → Int32 → Int32 → Option (Int32)) (hk4 : ∀ (a0 : Nat) (x1 : Int32) (x2 : Int32) (x3 : Int32)  (H : Heap) (locs : List Loc) (ls : Array Slot), ah_g H0 D ca M z H → ah_L H0 locs → lv_has ls 4 [(0, .ref a0), (1, .int x1), (2, .int x2), (3, .int x3)] → ∀ Z, k4 a0 x1 x2 x3 = some Z → W p l e { frames := 2, cells := 0, slots := 0, locals := 45 } s m args below meth c H locs 0 0 (ah_Q below args s H0 D ca 0 0 (some (.int Z)) M z) (F0 m 4 ls [])) : ∀ (a0 : Nat) (x1 : Int32) (x2 : Int32) (x3 : Int32)  (H : Heap) (locs : List Loc) (ls : Array Slot), ah_g H0 D ca M z H → ah_L H0 locs → lv_has ls 4 [(0, .ref a0), (1, .int x1), (2, .int x2), (3, .int x3)] → ∀ Z, fX11_spreads_32  k4 M a0 x1 x2 x3 = some Z → W p l e { frames := 2, cells := 0, slots := 0, locals := 45 } s m args below meth c H locs 0 0 (ah_Q below args s H0 D ca 0 0 (some (.int Z)) M z) (F0 m 32 ls []) := by
  intro a0 x1 x2 x3 H locs ls hG hL hl Z hf
  unfold fX11_spreads_32 at hf
  refine lv_iinc (v := x3 + 1) (lv' := [(3, .int (x3 + 1)), (0, .ref a0), (1, .int x1), (2, .int x2)]) K.1 K.2.1 dX11_spreads_32 hl (k := 3) rfl rfl (by decide) rfl (fun ls hl => ?_)
  refine lv_goto (tgt := 4) K.1 K.2.1 dX11_spreads_35 (by decide) ?_
  exact hk4 a0 x1 x2 (x3 + 1) _ _ _ hG hL (lv_sub hl [1, 2, 3, 0] rfl) _ hf
def fX11_spreads_4_b   (k4 : Nat → Int32 → Int32 → Int32 → Option (Int32)) (M : ah_h) (a0 : Nat) (x1 : Int32) (x2 : Int32) (x3 : Int32) : Option (Int32) := (ah_gr M a0 11 0).bind fun v1 => (ah_ai M v1 0).bind fun v2 => if v2 ≤ x3 then (some x2) else ((fX11_aboard M a0 x3).bind fun v4 => if (v4 &&& x1) = 0 then (fX11_spreads_32 k4 M a0 x1 x2 x3) else ((fX11_aboard M a0 x3).bind fun v7 => fX11_spreads_32 k4 M a0 x1 (x2 ||| v7) x3))
def fX11_spreads_4   (M : ah_h) : Nat → Nat → Int32 → Int32 → Int32 → Option (Int32)
  | 0 => fun _ _ _ _ => none
  | n + 1 => fun a0 x1 x2 x3 => fX11_spreads_4_b   (fX11_spreads_4   M n) M a0 x1 x2 x3
set_option maxRecDepth 100000 in
set_option maxHeartbeats 4000000 in
theorem wX11_spreads_4_b {p : Program} {l : Launch} {e : Env} {s : State} {m : MethodId} {args : Array Value} {below : List Frame} {meth : Method} {c : Code} {D : va_G} {ca : Nat → ClassId} {H0 : Heap} {M : ah_h} {z : Nat} (K : ah_K p s m args meth c D ca "ShipsThatMeetModel" cX11_spreads 4 (some .int))   (k4 : Nat → Int32 → Int32 → Int32 → Option (Int32)) (hk4 : ∀ (a0 : Nat) (x1 : Int32) (x2 : Int32) (x3 : Int32)  (H : Heap) (locs : List Loc) (ls : Array Slot), ah_g H0 D ca M z H → ah_L H0 locs → lv_has ls 4 [(0, .ref a0), (1, .int x1), (2, .int x2), (3, .int x3)] → ∀ Z, k4 a0 x1 x2 x3 = some Z → W p l e { frames := 2, cells := 0, slots := 0, locals := 45 } s m args below meth c H locs 0 0 (ah_Q below args s H0 D ca 0 0 (some (.int Z)) M z) (F0 m 4 ls [])) : ∀ (a0 : Nat) (x1 : Int32) (x2 : Int32) (x3 : Int32)  (H : Heap) (locs : List Loc) (ls : Array Slot), ah_g H0 D ca M z H → ah_L H0 locs → lv_has ls 4 [(0, .ref a0), (1, .int x1), (2, .int x2), (3, .int x3)] → ∀ Z, fX11_spreads_4_b   k4 M a0 x1 x2 x3 = some Z → W p l e { frames := 2, cells := 0, slots := 0, locals := 45 } s m args below meth c H locs 0 0 (ah_Q below args s H0 D ca 0 0 (some (.int Z)) M z) (F0 m 4 ls []) := by
  intro a0 x1 x2 x3 H locs ls hG hL hl Z hf
  unfold fX11_spreads_4_b at hf
  refine lv_iload_n K.1 K.2.1 dX11_spreads_4 rfl (lv_at hl 3 rfl) ?_
  refine lv_aload_n K.1 K.2.1 dX11_spreads_5 rfl (lv_at hl 0 rfl) ?_
  obtain ⟨v1, ev1, hf⟩ := Option.bind_eq_some_iff.mp hf
  refine ah_getr K hG ev1 ffX11_9_11 dX11_spreads_6 ?_
  refine lv_iconst (v := 0) K.1 K.2.1 dX11_spreads_9 (by decide) ?_
  obtain ⟨v2, ev2, hf⟩ := Option.bind_eq_some_iff.mp hf
  refine ah_iald K hG ev2 dX11_spreads_10 ?_
  refine lv_icmp_ge (tgt := 38) K.1 K.2.1 dX11_spreads_11 (by decide) (fun h3 => ?_) (fun h3 => ?_)
  · rw [if_pos h3] at hf
    refine lv_iload_n K.1 K.2.1 dX11_spreads_38 rfl (lv_at hl 2 rfl) ?_
    have hf := Option.some.inj hf
    subst hf
    exact ah_iret K hG hL (Nat.le_refl _) (Nat.le_refl _) dX11_spreads_39
  · rw [if_neg h3] at hf
    refine lv_aload_n K.1 K.2.1 dX11_spreads_14 rfl (lv_at hl 0 rfl) ?_
    refine lv_iload_n K.1 K.2.1 dX11_spreads_15 rfl (lv_at hl 3 rfl) ?_
    obtain ⟨v4, ev4, hf⟩ := Option.bind_eq_some_iff.mp hf
    obtain ⟨q5, eq5⟩ := ah_this ev4
    refine ah_callV (As := [.int x3]) (rest := []) K hG hL hl.1 eq5 rfl (ctX11_aboard l H0 D ca M z a0 x3 v4 ev4) hdX11_aboard q_1008 q_1010 q_54 q_1011 q_19 ⟨Nat.le_of_ble_eq_true rfl, Nat.le_of_ble_eq_true rfl⟩ rfl rfl (Nat.le_of_ble_eq_true rfl) ⟨Nat.le_refl _, Nat.le_refl _⟩ dX11_spreads_16 (fun H locs hG hL => ?_)
    refine lv_iload_n K.1 K.2.1 dX11_spreads_19 rfl (lv_at hl 1 rfl) ?_
    refine lv_iand K.1 K.2.1 dX11_spreads_20 ?_
    refine lv_if_eq (tgt := 32) K.1 K.2.1 dX11_spreads_21 (by decide) (fun h6 => ?_) (fun h6 => ?_)
    · rw [if_pos h6] at hf
      exact wX11_spreads_32 K k4 hk4 a0 x1 x2 x3 _ _ _ hG hL (lv_sub hl [0, 1, 2, 3] rfl) _ hf
    · rw [if_neg h6] at hf
      refine lv_iload_n K.1 K.2.1 dX11_spreads_24 rfl (lv_at hl 2 rfl) ?_
      refine lv_aload_n K.1 K.2.1 dX11_spreads_25 rfl (lv_at hl 0 rfl) ?_
      refine lv_iload_n K.1 K.2.1 dX11_spreads_26 rfl (lv_at hl 3 rfl) ?_
      obtain ⟨v7, ev7, hf⟩ := Option.bind_eq_some_iff.mp hf
      obtain ⟨q8, eq8⟩ := ah_this ev7
      refine ah_callV (As := [.int x3]) (rest := [.int x2]) K hG hL hl.1 eq8 rfl (ctX11_aboard l H0 D ca M z a0 x3 v7 ev7) hdX11_aboard q_1008 q_1010 q_54 q_1011 q_19 ⟨Nat.le_of_ble_eq_true rfl, Nat.le_of_ble_eq_true rfl⟩ rfl rfl (Nat.le_of_ble_eq_true rfl) ⟨Nat.le_refl _, Nat.le_refl _⟩ dX11_spreads_27 (fun H locs hG hL => ?_)
      refine lv_ior K.1 K.2.1 dX11_spreads_30 ?_
      refine lv_istore_n (lv' := [(2, .int (x2 ||| v7)), (0, .ref a0), (1, .int x1), (3, .int x3)]) K.1 K.2.1 dX11_spreads_31 rfl hl (by decide) rfl (fun ls hl => ?_)
      exact wX11_spreads_32 K k4 hk4 a0 x1 (x2 ||| v7) x3 _ _ _ hG hL (lv_sub hl [1, 2, 0, 3] rfl) _ hf
theorem wX11_spreads_4 {p : Program} {l : Launch} {e : Env} {s : State} {m : MethodId} {args : Array Value} {below : List Frame} {meth : Method} {c : Code} {D : va_G} {ca : Nat → ClassId} {H0 : Heap} {M : ah_h} {z : Nat} (K : ah_K p s m args meth c D ca "ShipsThatMeetModel" cX11_spreads 4 (some .int))   (n : Nat) : ∀ (a0 : Nat) (x1 : Int32) (x2 : Int32) (x3 : Int32)  (H : Heap) (locs : List Loc) (ls : Array Slot), ah_g H0 D ca M z H → ah_L H0 locs → lv_has ls 4 [(0, .ref a0), (1, .int x1), (2, .int x2), (3, .int x3)] → ∀ Z, fX11_spreads_4   M n a0 x1 x2 x3 = some Z → W p l e { frames := 2, cells := 0, slots := 0, locals := 45 } s m args below meth c H locs 0 0 (ah_Q below args s H0 D ca 0 0 (some (.int Z)) M z) (F0 m 4 ls []) := by
  induction n with
  | zero => intro a0 x1 x2 x3 H locs ls hG hL hl Z hf; cases hf
  | succ n ih => exact wX11_spreads_4_b K  _ ih
def fX11_spreads (M : ah_h) (a0 : Nat) (x1 : Int32) : Option (Int32) := (ah_ob M a0 11).bind fun _ => fX11_spreads_4 M ah_fu a0 x1 x1 0
set_option maxRecDepth 100000 in
set_option maxHeartbeats 4000000 in
theorem ctX11_spreads (l : Launch) (H0 : Heap) (D : va_G) (ca : Nat → ClassId) (M : ah_h) (z : Nat) (a0 : Nat) (x1 : Int32) (Z : Int32) (hf : fX11_spreads M a0 x1 = some Z) : ah_ct l H0 D ca yX11_spreads cX11_spreads 4 (some .int) 2 45 0 0 [.ref a0, .int x1] M z (some (.int Z)) M z := by
  refine ah_of (by decide) (Nat.le_of_ble_eq_true rfl) ?_
  intro p e s m below meth c ls hin K hG hl
  have hL : ah_L H0 [] := ah_L.nil
  have hl : lv_has ls 4 [(0, .ref a0), (1, .int x1)] := hl
  unfold fX11_spreads at hf
  obtain ⟨-, -, hf⟩ := Option.bind_eq_some_iff.mp hf
  refine lv_iload_n K.1 K.2.1 dX11_spreads_0 rfl (lv_at hl 1 rfl) ?_
  refine lv_istore_n (lv' := [(2, .int x1), (0, .ref a0), (1, .int x1)]) K.1 K.2.1 dX11_spreads_1 rfl hl (by decide) rfl (fun ls hl => ?_)
  refine lv_iconst (v := 0) K.1 K.2.1 dX11_spreads_2 (by decide) ?_
  refine lv_istore_n (lv' := [(3, .int 0), (2, .int x1), (0, .ref a0), (1, .int x1)]) K.1 K.2.1 dX11_spreads_3 rfl hl (by decide) rfl (fun ls hl => ?_)
  exact wX11_spreads_4 K  ah_fu a0 x1 x1 0 _ _ _ hG hL (lv_sub hl [2, 3, 1, 0] rfl) _ hf
def fX11_letter_40_b   (k40 : ah_h → Nat → Int32 → Int32 → Int32 → Option (Int32 × ah_h))  (M : ah_h) (a0 : Nat) (x2 : Int32) (x4 : Int32) (x5 : Int32) : Option (Int32 × ah_h) := (fX11_meetings M a0 x2).bind fun v1 => if v1 ≤ x5 then ((fX11_ends M a0).bind fun v4 => some (x4, v4)) else ((fX11_meetsTold M a0 x2 x5).bind fun v6 => (fX11_spreads v6.2 a0 x4).bind fun v8 => k40 v6.2 a0 x2 v8 (x5 + 1))
def fX11_letter_40    : Nat → ah_h → Nat → Int32 → Int32 → Int32 → Option (Int32 × ah_h)
  | 0 => fun _ _ _ _ _ => none
  | n + 1 => fun M a0 x2 x4 x5 => fX11_letter_40_b   (fX11_letter_40    n)  M a0 x2 x4 x5
set_option maxRecDepth 100000 in
set_option maxHeartbeats 4000000 in
theorem wX11_letter_40_b {p : Program} {l : Launch} {e : Env} {s : State} {m : MethodId} {args : Array Value} {below : List Frame} {meth : Method} {c : Code} {D : va_G} {ca : Nat → ClassId} {H0 : Heap} {z : Nat} (K : ah_K p s m args meth c D ca "ShipsThatMeetModel" cX11_letter 7 (some .int))   (k40 : ah_h → Nat → Int32 → Int32 → Int32 → Option (Int32 × ah_h)) (hk40 : ∀ (M : ah_h) (a0 : Nat) (x2 : Int32) (x4 : Int32) (x5 : Int32)  (H : Heap) (locs : List Loc) (ls : Array Slot), ah_g H0 D ca M z H → ah_L H0 locs → lv_has ls 7 [(0, .ref a0), (2, .int x2), (4, .int x4), (5, .int x5)] → ∀ Z, k40 M a0 x2 x4 x5 = some Z → W p l e { frames := 6, cells := 0, slots := 0, locals := 138 } s m args below meth c H locs 0 0 (ah_Q below args s H0 D ca 0 0 (some (.int Z.1)) Z.2 z) (F0 m 40 ls [])) : ∀ (M : ah_h) (a0 : Nat) (x2 : Int32) (x4 : Int32) (x5 : Int32)  (H : Heap) (locs : List Loc) (ls : Array Slot), ah_g H0 D ca M z H → ah_L H0 locs → lv_has ls 7 [(0, .ref a0), (2, .int x2), (4, .int x4), (5, .int x5)] → ∀ Z, fX11_letter_40_b   k40  M a0 x2 x4 x5 = some Z → W p l e { frames := 6, cells := 0, slots := 0, locals := 138 } s m args below meth c H locs 0 0 (ah_Q below args s H0 D ca 0 0 (some (.int Z.1)) Z.2 z) (F0 m 40 ls []) := by
  intro M a0 x2 x4 x5 H locs ls hG hL hl Z hf
  unfold fX11_letter_40_b at hf
  refine lv_iload K.1 K.2.1 dX11_letter_40 (lv_at hl 3 rfl) ?_
  refine lv_aload_n K.1 K.2.1 dX11_letter_42 rfl (lv_at hl 0 rfl) ?_
  refine lv_iload_n K.1 K.2.1 dX11_letter_43 rfl (lv_at hl 1 rfl) ?_
  obtain ⟨v1, ev1, hf⟩ := Option.bind_eq_some_iff.mp hf
  obtain ⟨q2, eq2⟩ := ah_this ev1
  refine ah_callV (As := [.int x2]) (rest := [.int x5]) K hG hL hl.1 eq2 rfl (ctX11_meetings l H0 D ca M z a0 x2 v1 ev1) hdX11_meetings q_1095 q_1097 q_54 q_1098 q_34 ⟨Nat.le_of_ble_eq_true rfl, Nat.le_of_ble_eq_true rfl⟩ rfl rfl (Nat.le_of_ble_eq_true rfl) ⟨Nat.le_refl _, Nat.le_refl _⟩ dX11_letter_44 (fun H locs hG hL => ?_)
  refine lv_icmp_ge (tgt := 73) K.1 K.2.1 dX11_letter_47 (by decide) (fun h3 => ?_) (fun h3 => ?_)
  · rw [if_pos h3] at hf
    refine lv_aload_n K.1 K.2.1 dX11_letter_73 rfl (lv_at hl 0 rfl) ?_
    obtain ⟨v4, ev4, hf⟩ := Option.bind_eq_some_iff.mp hf
    obtain ⟨q5, eq5⟩ := ah_this ev4
    refine ah_callV (As := []) (rest := []) K hG hL hl.1 eq5 rfl (ctX11_ends l H0 D ca M z a0 v4 ev4) hdX11_ends q_1111 q_1113 q_54 q_1114 q_38 ⟨Nat.le_of_ble_eq_true rfl, Nat.le_of_ble_eq_true rfl⟩ rfl rfl (Nat.le_of_ble_eq_true rfl) ⟨Nat.le_refl _, Nat.le_refl _⟩ dX11_letter_74 (fun H locs hG hL => ?_)
    refine lv_iload K.1 K.2.1 dX11_letter_77 (lv_at hl 2 rfl) ?_
    have hf := Option.some.inj hf
    subst hf
    exact ah_iret K hG hL (Nat.le_refl _) (Nat.le_refl _) dX11_letter_79
  · rw [if_neg h3] at hf
    refine lv_aload_n K.1 K.2.1 dX11_letter_50 rfl (lv_at hl 0 rfl) ?_
    refine lv_iload_n K.1 K.2.1 dX11_letter_51 rfl (lv_at hl 1 rfl) ?_
    refine lv_iload K.1 K.2.1 dX11_letter_52 (lv_at hl 3 rfl) ?_
    obtain ⟨v6, ev6, hf⟩ := Option.bind_eq_some_iff.mp hf
    obtain ⟨q7, eq7⟩ := ah_this ev6
    refine ah_callV (As := [.int x2, .int x5]) (rest := []) K hG hL hl.1 eq7 rfl (ctX11_meetsTold l H0 D ca M z a0 x2 x5 v6 ev6) hdX11_meetsTold q_1099 q_1101 q_54 q_1102 q_35 ⟨Nat.le_of_ble_eq_true rfl, Nat.le_of_ble_eq_true rfl⟩ rfl rfl (Nat.le_of_ble_eq_true rfl) ⟨Nat.le_refl _, Nat.le_refl _⟩ dX11_letter_54 (fun H locs hG hL => ?_)
    refine lv_istore (lv' := [(6, .int v6.1), (0, .ref a0), (2, .int x2), (4, .int x4), (5, .int x5)]) K.1 K.2.1 dX11_letter_57 hl (by decide) rfl (fun ls hl => ?_)
    refine lv_aload_n K.1 K.2.1 dX11_letter_59 rfl (lv_at hl 1 rfl) ?_
    refine lv_iload K.1 K.2.1 dX11_letter_60 (lv_at hl 3 rfl) ?_
    obtain ⟨v8, ev8, hf⟩ := Option.bind_eq_some_iff.mp hf
    obtain ⟨q9, eq9⟩ := ah_this ev8
    refine ah_callV (As := [.int x4]) (rest := []) K hG hL hl.1 eq9 rfl (ctX11_spreads l H0 D ca v6.2 z a0 x4 v8 ev8) hdX11_spreads q_1191 q_1193 q_54 q_1194 q_46 ⟨Nat.le_of_ble_eq_true rfl, Nat.le_of_ble_eq_true rfl⟩ rfl rfl (Nat.le_of_ble_eq_true rfl) ⟨Nat.le_refl _, Nat.le_refl _⟩ dX11_letter_62 (fun H locs hG hL => ?_)
    refine lv_istore (lv' := [(4, .int v8), (6, .int v6.1), (0, .ref a0), (2, .int x2), (5, .int x5)]) K.1 K.2.1 dX11_letter_65 hl (by decide) rfl (fun ls hl => ?_)
    refine lv_iinc (v := x5 + 1) (lv' := [(5, .int (x5 + 1)), (4, .int v8), (6, .int v6.1), (0, .ref a0), (2, .int x2)]) K.1 K.2.1 dX11_letter_67 hl (k := 4) rfl rfl (by decide) rfl (fun ls hl => ?_)
    refine lv_goto (tgt := 40) K.1 K.2.1 dX11_letter_70 (by decide) ?_
    exact hk40 v6.2 a0 x2 v8 (x5 + 1) _ _ _ hG hL (lv_sub hl [3, 4, 1, 0] rfl) _ hf
theorem wX11_letter_40 {p : Program} {l : Launch} {e : Env} {s : State} {m : MethodId} {args : Array Value} {below : List Frame} {meth : Method} {c : Code} {D : va_G} {ca : Nat → ClassId} {H0 : Heap} {z : Nat} (K : ah_K p s m args meth c D ca "ShipsThatMeetModel" cX11_letter 7 (some .int))   (n : Nat) : ∀ (M : ah_h) (a0 : Nat) (x2 : Int32) (x4 : Int32) (x5 : Int32)  (H : Heap) (locs : List Loc) (ls : Array Slot), ah_g H0 D ca M z H → ah_L H0 locs → lv_has ls 7 [(0, .ref a0), (2, .int x2), (4, .int x4), (5, .int x5)] → ∀ Z, fX11_letter_40    n M a0 x2 x4 x5 = some Z → W p l e { frames := 6, cells := 0, slots := 0, locals := 138 } s m args below meth c H locs 0 0 (ah_Q below args s H0 D ca 0 0 (some (.int Z.1)) Z.2 z) (F0 m 40 ls []) := by
  induction n with
  | zero => intro M a0 x2 x4 x5 H locs ls hG hL hl Z hf; cases hf
  | succ n ih => exact wX11_letter_40_b K  _ ih
def fX11_letter_17    (M : ah_h) (a0 : Nat) (x1 : Int32) (x2 : Int32) (s0 : Int32) : Option (Int32 × ah_h) := if s0 = 0 then ((fX11_begins M a0).bind fun v2 => (fX11_spreads v2 a0 ((1 : Int32) <<< (x1 &&& 31))).bind fun v4 => fX11_letter_40 ah_fu v2 a0 x2 v4 0) else (some (s0, M))
set_option maxRecDepth 100000 in
set_option maxHeartbeats 4000000 in
theorem wX11_letter_17 {p : Program} {l : Launch} {e : Env} {s : State} {m : MethodId} {args : Array Value} {below : List Frame} {meth : Method} {c : Code} {D : va_G} {ca : Nat → ClassId} {H0 : Heap} {z : Nat} (K : ah_K p s m args meth c D ca "ShipsThatMeetModel" cX11_letter 7 (some .int))   : ∀ (M : ah_h) (a0 : Nat) (x1 : Int32) (x2 : Int32) (s0 : Int32)  (H : Heap) (locs : List Loc) (ls : Array Slot), ah_g H0 D ca M z H → ah_L H0 locs → lv_has ls 7 [(0, .ref a0), (1, .int x1), (2, .int x2)] → ∀ Z, fX11_letter_17    M a0 x1 x2 s0 = some Z → W p l e { frames := 6, cells := 0, slots := 0, locals := 138 } s m args below meth c H locs 0 0 (ah_Q below args s H0 D ca 0 0 (some (.int Z.1)) Z.2 z) (F0 m 17 ls [.int s0]) := by
  intro M a0 x1 x2 s0 H locs ls hG hL hl Z hf
  unfold fX11_letter_17 at hf
  refine lv_istore_n (lv' := [(3, .int s0), (0, .ref a0), (1, .int x1), (2, .int x2)]) K.1 K.2.1 dX11_letter_17 rfl hl (by decide) rfl (fun ls hl => ?_)
  refine lv_iload_n K.1 K.2.1 dX11_letter_18 rfl (lv_at hl 0 rfl) ?_
  refine lv_if_eq (tgt := 24) K.1 K.2.1 dX11_letter_19 (by decide) (fun h1 => ?_) (fun h1 => ?_)
  · rw [if_pos h1] at hf
    refine lv_aload_n K.1 K.2.1 dX11_letter_24 rfl (lv_at hl 1 rfl) ?_
    obtain ⟨v2, ev2, hf⟩ := Option.bind_eq_some_iff.mp hf
    obtain ⟨q3, eq3⟩ := ah_this ev2
    refine ah_callV (As := []) (rest := []) K hG hL hl.1 eq3 rfl (ctX11_begins l H0 D ca M z a0 v2 ev2) hdX11_begins q_1091 q_1093 q_54 q_1094 q_33 ⟨Nat.le_of_ble_eq_true rfl, Nat.le_of_ble_eq_true rfl⟩ rfl rfl (Nat.le_of_ble_eq_true rfl) ⟨Nat.le_refl _, Nat.le_refl _⟩ dX11_letter_25 (fun H locs hG hL => ?_)
    refine lv_aload_n K.1 K.2.1 dX11_letter_28 rfl (lv_at hl 1 rfl) ?_
    refine lv_iconst (v := 1) K.1 K.2.1 dX11_letter_29 (by decide) ?_
    refine lv_iload_n K.1 K.2.1 dX11_letter_30 rfl (lv_at hl 2 rfl) ?_
    refine lv_ishl K.1 K.2.1 dX11_letter_31 ?_
    obtain ⟨v4, ev4, hf⟩ := Option.bind_eq_some_iff.mp hf
    obtain ⟨q5, eq5⟩ := ah_this ev4
    refine ah_callV (As := [.int ((1 : Int32) <<< (x1 &&& 31))]) (rest := []) K hG hL hl.1 eq5 rfl (ctX11_spreads l H0 D ca v2 z a0 ((1 : Int32) <<< (x1 &&& 31)) v4 ev4) hdX11_spreads q_1191 q_1193 q_54 q_1194 q_46 ⟨Nat.le_of_ble_eq_true rfl, Nat.le_of_ble_eq_true rfl⟩ rfl rfl (Nat.le_of_ble_eq_true rfl) ⟨Nat.le_refl _, Nat.le_refl _⟩ dX11_letter_32 (fun H locs hG hL => ?_)
    refine lv_istore (lv' := [(4, .int v4), (3, .int s0), (0, .ref a0), (1, .int x1), (2, .int x2)]) K.1 K.2.1 dX11_letter_35 hl (by decide) rfl (fun ls hl => ?_)
    refine lv_iconst (v := 0) K.1 K.2.1 dX11_letter_37 (by decide) ?_
    refine lv_istore (lv' := [(5, .int 0), (4, .int v4), (3, .int s0), (0, .ref a0), (1, .int x1), (2, .int x2)]) K.1 K.2.1 dX11_letter_38 hl (by decide) rfl (fun ls hl => ?_)
    exact wX11_letter_40 K  ah_fu v2 a0 x2 v4 0 _ _ _ hG hL (lv_sub hl [3, 5, 1, 0] rfl) _ hf
  · rw [if_neg h1] at hf
    refine lv_iload_n K.1 K.2.1 dX11_letter_22 rfl (lv_at hl 0 rfl) ?_
    have hf := Option.some.inj hf
    subst hf
    exact ah_iret K hG hL (Nat.le_refl _) (Nat.le_refl _) dX11_letter_23
def fX11_letter (M : ah_h) (a0 : Nat) (x1 : Int32) (x2 : Int32) : Option (Int32 × ah_h) := (ah_ob M a0 11).bind fun _ => (fX11_isMan M a0 x1).bind fun v1 => if v1 = 0 then (fX11_letter_17 M a0 x1 x2 (-1)) else ((fX11_wrongMeetings M a0 x2).bind fun v4 => fX11_letter_17 M a0 x1 x2 v4)
set_option maxRecDepth 100000 in
set_option maxHeartbeats 4000000 in
theorem ctX11_letter (l : Launch) (H0 : Heap) (D : va_G) (ca : Nat → ClassId) (M : ah_h) (z : Nat) (a0 : Nat) (x1 : Int32) (x2 : Int32) (Z : Int32 × ah_h) (hf : fX11_letter M a0 x1 x2 = some Z) : ah_ct l H0 D ca yX11_letter cX11_letter 7 (some .int) 6 138 0 0 [.ref a0, .int x1, .int x2] M z (some (.int Z.1)) Z.2 z := by
  refine ah_of (by decide) (Nat.le_of_ble_eq_true rfl) ?_
  intro p e s m below meth c ls hin K hG hl
  have hL : ah_L H0 [] := ah_L.nil
  have hl : lv_has ls 7 [(0, .ref a0), (1, .int x1), (2, .int x2)] := hl
  unfold fX11_letter at hf
  obtain ⟨-, -, hf⟩ := Option.bind_eq_some_iff.mp hf
  refine lv_aload_n K.1 K.2.1 dX11_letter_0 rfl (lv_at hl 0 rfl) ?_
  refine lv_iload_n K.1 K.2.1 dX11_letter_1 rfl (lv_at hl 1 rfl) ?_
  obtain ⟨v1, ev1, hf⟩ := Option.bind_eq_some_iff.mp hf
  obtain ⟨q2, eq2⟩ := ah_this ev1
  refine ah_callV (As := [.int x1]) (rest := []) K hG hL hl.1 eq2 rfl (ctX11_isMan l H0 D ca M z a0 x1 v1 ev1) hdX11_isMan q_1066 q_1068 q_54 q_1069 q_30 ⟨Nat.le_of_ble_eq_true rfl, Nat.le_of_ble_eq_true rfl⟩ rfl rfl (Nat.le_of_ble_eq_true rfl) ⟨Nat.le_refl _, Nat.le_refl _⟩ dX11_letter_2 (fun H locs hG hL => ?_)
  refine lv_if_eq (tgt := 16) K.1 K.2.1 dX11_letter_5 (by decide) (fun h3 => ?_) (fun h3 => ?_)
  · rw [if_pos h3] at hf
    refine lv_iconst (v := (-1)) K.1 K.2.1 dX11_letter_16 (by decide) ?_
    exact wX11_letter_17 K  M a0 x1 x2 (-1) _ _ _ hG hL (lv_sub hl [0, 1, 2] rfl) _ hf
  · rw [if_neg h3] at hf
    refine lv_aload_n K.1 K.2.1 dX11_letter_8 rfl (lv_at hl 0 rfl) ?_
    refine lv_iload_n K.1 K.2.1 dX11_letter_9 rfl (lv_at hl 2 rfl) ?_
    obtain ⟨v4, ev4, hf⟩ := Option.bind_eq_some_iff.mp hf
    obtain ⟨q5, eq5⟩ := ah_this ev4
    refine ah_callV (As := [.int x2]) (rest := []) K hG hL hl.1 eq5 rfl (ctX11_wrongMeetings l H0 D ca M z a0 x2 v4 ev4) hdX11_wrongMeetings q_1087 q_1089 q_54 q_1090 q_32 ⟨Nat.le_of_ble_eq_true rfl, Nat.le_of_ble_eq_true rfl⟩ rfl rfl (Nat.le_of_ble_eq_true rfl) ⟨Nat.le_refl _, Nat.le_refl _⟩ dX11_letter_10 (fun H locs hG hL => ?_)
    refine lv_goto (tgt := 17) K.1 K.2.1 dX11_letter_13 (by decide) ?_
    exact wX11_letter_17 K  M a0 x1 x2 v4 _ _ _ hG hL (lv_sub hl [0, 1, 2] rfl) _ hf
def fX11_law_154  (k117 : ah_h → Nat → Int32 → Int32 → Int32 → Int32 → Int32 → Option (Int32 × ah_h))  (M : ah_h) (a0 : Nat) (x1 : Int32) (x2 : Int32) (x6 : Int32) (x8 : Int32) (s0 : Int32) (s1 : Int32) : Option (Int32 × ah_h) := k117 M a0 x1 x2 x6 (s0 + s1) (x8 + 1)
set_option maxRecDepth 100000 in
set_option maxHeartbeats 4000000 in
theorem wX11_law_154 {p : Program} {l : Launch} {e : Env} {s : State} {m : MethodId} {args : Array Value} {below : List Frame} {meth : Method} {c : Code} {D : va_G} {ca : Nat → ClassId} {H0 : Heap} {z : Nat} (K : ah_K p s m args meth c D ca "ShipsThatMeetModel" cX11_law 10 (some .int))  (k117 : ah_h → Nat → Int32 → Int32 → Int32 → Int32 → Int32 → Option (Int32 × ah_h)) (hk117 : ∀ (M : ah_h) (a0 : Nat) (x1 : Int32) (x2 : Int32) (x6 : Int32) (x7 : Int32) (x8 : Int32)  (H : Heap) (locs : List Loc) (ls : Array Slot), ah_g H0 D ca M z H → ah_L H0 locs → lv_has ls 10 [(0, .ref a0), (1, .int x1), (2, .int x2), (6, .int x6), (7, .int x7), (8, .int x8)] → ∀ Z, k117 M a0 x1 x2 x6 x7 x8 = some Z → W p l e { frames := 6, cells := 0, slots := 0, locals := 138 } s m args below meth c H locs 0 0 (ah_Q below args s H0 D ca 0 0 (some (.int Z.1)) Z.2 z) (F0 m 117 ls [])) : ∀ (M : ah_h) (a0 : Nat) (x1 : Int32) (x2 : Int32) (x6 : Int32) (x8 : Int32) (s0 : Int32) (s1 : Int32)  (H : Heap) (locs : List Loc) (ls : Array Slot), ah_g H0 D ca M z H → ah_L H0 locs → lv_has ls 10 [(0, .ref a0), (1, .int x1), (2, .int x2), (6, .int x6), (8, .int x8)] → ∀ Z, fX11_law_154  k117  M a0 x1 x2 x6 x8 s0 s1 = some Z → W p l e { frames := 6, cells := 0, slots := 0, locals := 138 } s m args below meth c H locs 0 0 (ah_Q below args s H0 D ca 0 0 (some (.int Z.1)) Z.2 z) (F0 m 154 ls [.int s1, .int s0]) := by
  intro M a0 x1 x2 x6 x8 s0 s1 H locs ls hG hL hl Z hf
  unfold fX11_law_154 at hf
  refine lv_iadd K.1 K.2.1 dX11_law_154 ?_
  refine lv_istore (lv' := [(7, .int (s0 + s1)), (0, .ref a0), (1, .int x1), (2, .int x2), (6, .int x6), (8, .int x8)]) K.1 K.2.1 dX11_law_155 hl (by decide) rfl (fun ls hl => ?_)
  refine lv_iinc (v := x8 + 1) (lv' := [(8, .int (x8 + 1)), (7, .int (s0 + s1)), (0, .ref a0), (1, .int x1), (2, .int x2), (6, .int x6)]) K.1 K.2.1 dX11_law_157 hl (k := 5) rfl rfl (by decide) rfl (fun ls hl => ?_)
  refine lv_goto (tgt := 117) K.1 K.2.1 dX11_law_160 (by decide) ?_
  exact hk117 M a0 x1 x2 x6 (s0 + s1) (x8 + 1) _ _ _ hG hL (lv_sub hl [2, 3, 4, 5, 1, 0] rfl) _ hf
def fX11_law_117_b   (k117 : ah_h → Nat → Int32 → Int32 → Int32 → Int32 → Int32 → Option (Int32 × ah_h))  (M : ah_h) (a0 : Nat) (x1 : Int32) (x2 : Int32) (x6 : Int32) (x7 : Int32) (x8 : Int32) : Option (Int32 × ah_h) := (fX11_meetings M a0 x2).bind fun v1 => if v1 ≤ x8 then ((fX11_ends M a0).bind fun v4 => some (x7, v4)) else ((fX11_meetsTold M a0 x2 x8).bind fun v6 => (fX11_get v6.2 a0 x1 0).bind fun v8 => if v8 = x6 then (fX11_law_154 k117 v6.2 a0 x1 x2 x6 x8 x7 0) else (fX11_law_154 k117 v6.2 a0 x1 x2 x6 x8 x7 1))
def fX11_law_117    : Nat → ah_h → Nat → Int32 → Int32 → Int32 → Int32 → Int32 → Option (Int32 × ah_h)
  | 0 => fun _ _ _ _ _ _ _ => none
  | n + 1 => fun M a0 x1 x2 x6 x7 x8 => fX11_law_117_b   (fX11_law_117    n)  M a0 x1 x2 x6 x7 x8
set_option maxRecDepth 100000 in
set_option maxHeartbeats 4000000 in
theorem wX11_law_117_b {p : Program} {l : Launch} {e : Env} {s : State} {m : MethodId} {args : Array Value} {below : List Frame} {meth : Method} {c : Code} {D : va_G} {ca : Nat → ClassId} {H0 : Heap} {z : Nat} (K : ah_K p s m args meth c D ca "ShipsThatMeetModel" cX11_law 10 (some .int))   (k117 : ah_h → Nat → Int32 → Int32 → Int32 → Int32 → Int32 → Option (Int32 × ah_h)) (hk117 : ∀ (M : ah_h) (a0 : Nat) (x1 : Int32) (x2 : Int32) (x6 : Int32) (x7 : Int32) (x8 : Int32)  (H : Heap) (locs : List Loc) (ls : Array Slot), ah_g H0 D ca M z H → ah_L H0 locs → lv_has ls 10 [(0, .ref a0), (1, .int x1), (2, .int x2), (6, .int x6), (7, .int x7), (8, .int x8)] → ∀ Z, k117 M a0 x1 x2 x6 x7 x8 = some Z → W p l e { frames := 6, cells := 0, slots := 0, locals := 138 } s m args below meth c H locs 0 0 (ah_Q below args s H0 D ca 0 0 (some (.int Z.1)) Z.2 z) (F0 m 117 ls [])) : ∀ (M : ah_h) (a0 : Nat) (x1 : Int32) (x2 : Int32) (x6 : Int32) (x7 : Int32) (x8 : Int32)  (H : Heap) (locs : List Loc) (ls : Array Slot), ah_g H0 D ca M z H → ah_L H0 locs → lv_has ls 10 [(0, .ref a0), (1, .int x1), (2, .int x2), (6, .int x6), (7, .int x7), (8, .int x8)] → ∀ Z, fX11_law_117_b   k117  M a0 x1 x2 x6 x7 x8 = some Z → W p l e { frames := 6, cells := 0, slots := 0, locals := 138 } s m args below meth c H locs 0 0 (ah_Q below args s H0 D ca 0 0 (some (.int Z.1)) Z.2 z) (F0 m 117 ls []) := by
  intro M a0 x1 x2 x6 x7 x8 H locs ls hG hL hl Z hf
  unfold fX11_law_117_b at hf
  refine lv_iload K.1 K.2.1 dX11_law_117 (lv_at hl 5 rfl) ?_
  refine lv_aload_n K.1 K.2.1 dX11_law_119 rfl (lv_at hl 0 rfl) ?_
  refine lv_iload_n K.1 K.2.1 dX11_law_120 rfl (lv_at hl 2 rfl) ?_
  obtain ⟨v1, ev1, hf⟩ := Option.bind_eq_some_iff.mp hf
  obtain ⟨q2, eq2⟩ := ah_this ev1
  refine ah_callV (As := [.int x2]) (rest := [.int x8]) K hG hL hl.1 eq2 rfl (ctX11_meetings l H0 D ca M z a0 x2 v1 ev1) hdX11_meetings q_1095 q_1097 q_54 q_1098 q_34 ⟨Nat.le_of_ble_eq_true rfl, Nat.le_of_ble_eq_true rfl⟩ rfl rfl (Nat.le_of_ble_eq_true rfl) ⟨Nat.le_refl _, Nat.le_refl _⟩ dX11_law_121 (fun H locs hG hL => ?_)
  refine lv_icmp_ge (tgt := 163) K.1 K.2.1 dX11_law_124 (by decide) (fun h3 => ?_) (fun h3 => ?_)
  · rw [if_pos h3] at hf
    refine lv_aload_n K.1 K.2.1 dX11_law_163 rfl (lv_at hl 0 rfl) ?_
    obtain ⟨v4, ev4, hf⟩ := Option.bind_eq_some_iff.mp hf
    obtain ⟨q5, eq5⟩ := ah_this ev4
    refine ah_callV (As := []) (rest := []) K hG hL hl.1 eq5 rfl (ctX11_ends l H0 D ca M z a0 v4 ev4) hdX11_ends q_1111 q_1113 q_54 q_1114 q_38 ⟨Nat.le_of_ble_eq_true rfl, Nat.le_of_ble_eq_true rfl⟩ rfl rfl (Nat.le_of_ble_eq_true rfl) ⟨Nat.le_refl _, Nat.le_refl _⟩ dX11_law_164 (fun H locs hG hL => ?_)
    refine lv_iload K.1 K.2.1 dX11_law_167 (lv_at hl 4 rfl) ?_
    have hf := Option.some.inj hf
    subst hf
    exact ah_iret K hG hL (Nat.le_refl _) (Nat.le_refl _) dX11_law_169
  · rw [if_neg h3] at hf
    refine lv_aload_n K.1 K.2.1 dX11_law_127 rfl (lv_at hl 0 rfl) ?_
    refine lv_iload_n K.1 K.2.1 dX11_law_128 rfl (lv_at hl 2 rfl) ?_
    refine lv_iload K.1 K.2.1 dX11_law_129 (lv_at hl 5 rfl) ?_
    obtain ⟨v6, ev6, hf⟩ := Option.bind_eq_some_iff.mp hf
    obtain ⟨q7, eq7⟩ := ah_this ev6
    refine ah_callV (As := [.int x2, .int x8]) (rest := []) K hG hL hl.1 eq7 rfl (ctX11_meetsTold l H0 D ca M z a0 x2 x8 v6 ev6) hdX11_meetsTold q_1099 q_1101 q_54 q_1102 q_35 ⟨Nat.le_of_ble_eq_true rfl, Nat.le_of_ble_eq_true rfl⟩ rfl rfl (Nat.le_of_ble_eq_true rfl) ⟨Nat.le_refl _, Nat.le_refl _⟩ dX11_law_131 (fun H locs hG hL => ?_)
    refine lv_istore (lv' := [(9, .int v6.1), (0, .ref a0), (1, .int x1), (2, .int x2), (6, .int x6), (7, .int x7), (8, .int x8)]) K.1 K.2.1 dX11_law_134 hl (by decide) rfl (fun ls hl => ?_)
    refine lv_iload K.1 K.2.1 dX11_law_136 (lv_at hl 5 rfl) ?_
    refine lv_aload_n K.1 K.2.1 dX11_law_138 rfl (lv_at hl 1 rfl) ?_
    refine lv_iload_n K.1 K.2.1 dX11_law_139 rfl (lv_at hl 2 rfl) ?_
    refine lv_iconst (v := 0) K.1 K.2.1 dX11_law_140 (by decide) ?_
    obtain ⟨v8, ev8, hf⟩ := Option.bind_eq_some_iff.mp hf
    obtain ⟨q9, eq9⟩ := ah_this ev8
    refine ah_callV (As := [.int x1, .int 0]) (rest := [.int x7]) K hG hL hl.1 eq9 rfl (ctX11_get l H0 D ca v6.2 z a0 x1 0 v8 ev8) hdX11_get q_1012 q_1014 q_54 q_1015 q_20 ⟨Nat.le_of_ble_eq_true rfl, Nat.le_of_ble_eq_true rfl⟩ rfl rfl (Nat.le_of_ble_eq_true rfl) ⟨Nat.le_refl _, Nat.le_refl _⟩ dX11_law_141 (fun H locs hG hL => ?_)
    refine lv_iload K.1 K.2.1 dX11_law_144 (lv_at hl 4 rfl) ?_
    refine lv_icmp_eq (tgt := 153) K.1 K.2.1 dX11_law_146 (by decide) (fun h10 => ?_) (fun h10 => ?_)
    · rw [if_pos h10] at hf
      refine lv_iconst (v := 0) K.1 K.2.1 dX11_law_153 (by decide) ?_
      exact wX11_law_154 K k117 hk117 v6.2 a0 x1 x2 x6 x8 x7 0 _ _ _ hG hL (lv_sub hl [1, 2, 3, 4, 6] rfl) _ hf
    · rw [if_neg h10] at hf
      refine lv_iconst (v := 1) K.1 K.2.1 dX11_law_149 (by decide) ?_
      refine lv_goto (tgt := 154) K.1 K.2.1 dX11_law_150 (by decide) ?_
      exact wX11_law_154 K k117 hk117 v6.2 a0 x1 x2 x6 x8 x7 1 _ _ _ hG hL (lv_sub hl [1, 2, 3, 4, 6] rfl) _ hf
theorem wX11_law_117 {p : Program} {l : Launch} {e : Env} {s : State} {m : MethodId} {args : Array Value} {below : List Frame} {meth : Method} {c : Code} {D : va_G} {ca : Nat → ClassId} {H0 : Heap} {z : Nat} (K : ah_K p s m args meth c D ca "ShipsThatMeetModel" cX11_law 10 (some .int))   (n : Nat) : ∀ (M : ah_h) (a0 : Nat) (x1 : Int32) (x2 : Int32) (x6 : Int32) (x7 : Int32) (x8 : Int32)  (H : Heap) (locs : List Loc) (ls : Array Slot), ah_g H0 D ca M z H → ah_L H0 locs → lv_has ls 10 [(0, .ref a0), (1, .int x1), (2, .int x2), (6, .int x6), (7, .int x7), (8, .int x8)] → ∀ Z, fX11_law_117    n M a0 x1 x2 x6 x7 x8 = some Z → W p l e { frames := 6, cells := 0, slots := 0, locals := 138 } s m args below meth c H locs 0 0 (ah_Q below args s H0 D ca 0 0 (some (.int Z.1)) Z.2 z) (F0 m 117 ls []) := by
  induction n with
  | zero => intro M a0 x1 x2 x6 x7 x8 H locs ls hG hL hl Z hf; cases hf
  | succ n ih => exact wX11_law_117_b K  _ ih
def fX11_law_59_b   (k59 : ah_h → Nat → Int32 → Int32 → Int32 → Int32 → Int32 → Option (Int32 × ah_h))  (M : ah_h) (a0 : Nat) (x1 : Int32) (x2 : Int32) (x3 : Int32) (x4 : Int32) (x6 : Int32) : Option (Int32 × ah_h) := (ah_gr M a0 11 0).bind fun v1 => (ah_ai M v1 0).bind fun v2 => if v2 ≤ x6 then ((fX11_get M a0 x1 0).bind fun v4 => fX11_law_117 ah_fu M a0 x1 x2 v4 0 0) else ((ah_gr M a0 11 0).bind fun v6 => (ah_si M v6 (3 + (2 * x6)) x3).bind fun M7 => (ah_gr M7 a0 11 0).bind fun v8 => (ah_si M7 v8 ((3 + (2 * x6)) + 1) x4).bind fun M9 => k59 M9 a0 x1 x2 x3 x4 (x6 + 1))
def fX11_law_59    : Nat → ah_h → Nat → Int32 → Int32 → Int32 → Int32 → Int32 → Option (Int32 × ah_h)
  | 0 => fun _ _ _ _ _ _ _ => none
  | n + 1 => fun M a0 x1 x2 x3 x4 x6 => fX11_law_59_b   (fX11_law_59    n)  M a0 x1 x2 x3 x4 x6
set_option maxRecDepth 100000 in
set_option maxHeartbeats 4000000 in
theorem wX11_law_59_b {p : Program} {l : Launch} {e : Env} {s : State} {m : MethodId} {args : Array Value} {below : List Frame} {meth : Method} {c : Code} {D : va_G} {ca : Nat → ClassId} {H0 : Heap} {z : Nat} (K : ah_K p s m args meth c D ca "ShipsThatMeetModel" cX11_law 10 (some .int))   (k59 : ah_h → Nat → Int32 → Int32 → Int32 → Int32 → Int32 → Option (Int32 × ah_h)) (hk59 : ∀ (M : ah_h) (a0 : Nat) (x1 : Int32) (x2 : Int32) (x3 : Int32) (x4 : Int32) (x6 : Int32)  (H : Heap) (locs : List Loc) (ls : Array Slot), ah_g H0 D ca M z H → ah_L H0 locs → lv_has ls 10 [(0, .ref a0), (1, .int x1), (2, .int x2), (3, .int x3), (4, .int x4), (6, .int x6)] → ∀ Z, k59 M a0 x1 x2 x3 x4 x6 = some Z → W p l e { frames := 6, cells := 0, slots := 0, locals := 138 } s m args below meth c H locs 0 0 (ah_Q below args s H0 D ca 0 0 (some (.int Z.1)) Z.2 z) (F0 m 59 ls [])) : ∀ (M : ah_h) (a0 : Nat) (x1 : Int32) (x2 : Int32) (x3 : Int32) (x4 : Int32) (x6 : Int32)  (H : Heap) (locs : List Loc) (ls : Array Slot), ah_g H0 D ca M z H → ah_L H0 locs → lv_has ls 10 [(0, .ref a0), (1, .int x1), (2, .int x2), (3, .int x3), (4, .int x4), (6, .int x6)] → ∀ Z, fX11_law_59_b   k59  M a0 x1 x2 x3 x4 x6 = some Z → W p l e { frames := 6, cells := 0, slots := 0, locals := 138 } s m args below meth c H locs 0 0 (ah_Q below args s H0 D ca 0 0 (some (.int Z.1)) Z.2 z) (F0 m 59 ls []) := by
  intro M a0 x1 x2 x3 x4 x6 H locs ls hG hL hl Z hf
  unfold fX11_law_59_b at hf
  refine lv_iload K.1 K.2.1 dX11_law_59 (lv_at hl 5 rfl) ?_
  refine lv_aload_n K.1 K.2.1 dX11_law_61 rfl (lv_at hl 0 rfl) ?_
  obtain ⟨v1, ev1, hf⟩ := Option.bind_eq_some_iff.mp hf
  refine ah_getr K hG ev1 ffX11_9_11 dX11_law_62 ?_
  refine lv_iconst (v := 0) K.1 K.2.1 dX11_law_65 (by decide) ?_
  obtain ⟨v2, ev2, hf⟩ := Option.bind_eq_some_iff.mp hf
  refine ah_iald K hG ev2 dX11_law_66 ?_
  refine lv_icmp_ge (tgt := 103) K.1 K.2.1 dX11_law_67 (by decide) (fun h3 => ?_) (fun h3 => ?_)
  · rw [if_pos h3] at hf
    refine lv_aload_n K.1 K.2.1 dX11_law_103 rfl (lv_at hl 0 rfl) ?_
    refine lv_iload_n K.1 K.2.1 dX11_law_104 rfl (lv_at hl 1 rfl) ?_
    refine lv_iconst (v := 0) K.1 K.2.1 dX11_law_105 (by decide) ?_
    obtain ⟨v4, ev4, hf⟩ := Option.bind_eq_some_iff.mp hf
    obtain ⟨q5, eq5⟩ := ah_this ev4
    refine ah_callV (As := [.int x1, .int 0]) (rest := []) K hG hL hl.1 eq5 rfl (ctX11_get l H0 D ca M z a0 x1 0 v4 ev4) hdX11_get q_1012 q_1014 q_54 q_1015 q_20 ⟨Nat.le_of_ble_eq_true rfl, Nat.le_of_ble_eq_true rfl⟩ rfl rfl (Nat.le_of_ble_eq_true rfl) ⟨Nat.le_refl _, Nat.le_refl _⟩ dX11_law_106 (fun H locs hG hL => ?_)
    refine lv_istore (lv' := [(6, .int v4), (0, .ref a0), (1, .int x1), (2, .int x2), (3, .int x3), (4, .int x4)]) K.1 K.2.1 dX11_law_109 hl (by decide) rfl (fun ls hl => ?_)
    refine lv_iconst (v := 0) K.1 K.2.1 dX11_law_111 (by decide) ?_
    refine lv_istore (lv' := [(7, .int 0), (6, .int v4), (0, .ref a0), (1, .int x1), (2, .int x2), (3, .int x3), (4, .int x4)]) K.1 K.2.1 dX11_law_112 hl (by decide) rfl (fun ls hl => ?_)
    refine lv_iconst (v := 0) K.1 K.2.1 dX11_law_114 (by decide) ?_
    refine lv_istore (lv' := [(8, .int 0), (7, .int 0), (6, .int v4), (0, .ref a0), (1, .int x1), (2, .int x2), (3, .int x3), (4, .int x4)]) K.1 K.2.1 dX11_law_115 hl (by decide) rfl (fun ls hl => ?_)
    exact wX11_law_117 K  ah_fu M a0 x1 x2 v4 0 0 _ _ _ hG hL (lv_sub hl [3, 4, 5, 2, 1, 0] rfl) _ hf
  · rw [if_neg h3] at hf
    refine lv_aload_n K.1 K.2.1 dX11_law_70 rfl (lv_at hl 0 rfl) ?_
    obtain ⟨v6, ev6, hf⟩ := Option.bind_eq_some_iff.mp hf
    refine ah_getr K hG ev6 ffX11_9_11 dX11_law_71 ?_
    refine lv_iconst (v := 3) K.1 K.2.1 dX11_law_74 (by decide) ?_
    refine lv_iconst (v := 2) K.1 K.2.1 dX11_law_75 (by decide) ?_
    refine lv_iload K.1 K.2.1 dX11_law_76 (lv_at hl 5 rfl) ?_
    refine lv_imul K.1 K.2.1 dX11_law_78 ?_
    refine lv_iadd K.1 K.2.1 dX11_law_79 ?_
    refine lv_iload_n K.1 K.2.1 dX11_law_80 rfl (lv_at hl 3 rfl) ?_
    obtain ⟨M7, eM7, hf⟩ := Option.bind_eq_some_iff.mp hf
    refine ah_iast K hG hL eM7 dX11_law_81 (fun H locs hG hL => ?_)
    refine lv_aload_n K.1 K.2.1 dX11_law_82 rfl (lv_at hl 0 rfl) ?_
    obtain ⟨v8, ev8, hf⟩ := Option.bind_eq_some_iff.mp hf
    refine ah_getr K hG ev8 ffX11_9_11 dX11_law_83 ?_
    refine lv_iconst (v := 3) K.1 K.2.1 dX11_law_86 (by decide) ?_
    refine lv_iconst (v := 2) K.1 K.2.1 dX11_law_87 (by decide) ?_
    refine lv_iload K.1 K.2.1 dX11_law_88 (lv_at hl 5 rfl) ?_
    refine lv_imul K.1 K.2.1 dX11_law_90 ?_
    refine lv_iadd K.1 K.2.1 dX11_law_91 ?_
    refine lv_iconst (v := 1) K.1 K.2.1 dX11_law_92 (by decide) ?_
    refine lv_iadd K.1 K.2.1 dX11_law_93 ?_
    refine lv_iload K.1 K.2.1 dX11_law_94 (lv_at hl 4 rfl) ?_
    obtain ⟨M9, eM9, hf⟩ := Option.bind_eq_some_iff.mp hf
    refine ah_iast K hG hL eM9 dX11_law_96 (fun H locs hG hL => ?_)
    refine lv_iinc (v := x6 + 1) (lv' := [(6, .int (x6 + 1)), (0, .ref a0), (1, .int x1), (2, .int x2), (3, .int x3), (4, .int x4)]) K.1 K.2.1 dX11_law_97 hl (k := 5) rfl rfl (by decide) rfl (fun ls hl => ?_)
    refine lv_goto (tgt := 59) K.1 K.2.1 dX11_law_100 (by decide) ?_
    exact hk59 M9 a0 x1 x2 x3 x4 (x6 + 1) _ _ _ hG hL (lv_sub hl [1, 2, 3, 4, 5, 0] rfl) _ hf
theorem wX11_law_59 {p : Program} {l : Launch} {e : Env} {s : State} {m : MethodId} {args : Array Value} {below : List Frame} {meth : Method} {c : Code} {D : va_G} {ca : Nat → ClassId} {H0 : Heap} {z : Nat} (K : ah_K p s m args meth c D ca "ShipsThatMeetModel" cX11_law 10 (some .int))   (n : Nat) : ∀ (M : ah_h) (a0 : Nat) (x1 : Int32) (x2 : Int32) (x3 : Int32) (x4 : Int32) (x6 : Int32)  (H : Heap) (locs : List Loc) (ls : Array Slot), ah_g H0 D ca M z H → ah_L H0 locs → lv_has ls 10 [(0, .ref a0), (1, .int x1), (2, .int x2), (3, .int x3), (4, .int x4), (6, .int x6)] → ∀ Z, fX11_law_59    n M a0 x1 x2 x3 x4 x6 = some Z → W p l e { frames := 6, cells := 0, slots := 0, locals := 138 } s m args below meth c H locs 0 0 (ah_Q below args s H0 D ca 0 0 (some (.int Z.1)) Z.2 z) (F0 m 59 ls []) := by
  induction n with
  | zero => intro M a0 x1 x2 x3 x4 x6 H locs ls hG hL hl Z hf; cases hf
  | succ n ih => exact wX11_law_59_b K  _ ih
def fX11_law_42    (M : ah_h) (a0 : Nat) (x1 : Int32) (x2 : Int32) (x3 : Int32) (x4 : Int32) (s0 : Int32) : Option (Int32 × ah_h) := if s0 = 0 then ((fX11_begins M a0).bind fun v2 => fX11_law_59 ah_fu v2 a0 x1 x2 x3 x4 0) else (some (s0, M))
set_option maxRecDepth 100000 in
set_option maxHeartbeats 4000000 in
theorem wX11_law_42 {p : Program} {l : Launch} {e : Env} {s : State} {m : MethodId} {args : Array Value} {below : List Frame} {meth : Method} {c : Code} {D : va_G} {ca : Nat → ClassId} {H0 : Heap} {z : Nat} (K : ah_K p s m args meth c D ca "ShipsThatMeetModel" cX11_law 10 (some .int))   : ∀ (M : ah_h) (a0 : Nat) (x1 : Int32) (x2 : Int32) (x3 : Int32) (x4 : Int32) (s0 : Int32)  (H : Heap) (locs : List Loc) (ls : Array Slot), ah_g H0 D ca M z H → ah_L H0 locs → lv_has ls 10 [(0, .ref a0), (1, .int x1), (2, .int x2), (3, .int x3), (4, .int x4)] → ∀ Z, fX11_law_42    M a0 x1 x2 x3 x4 s0 = some Z → W p l e { frames := 6, cells := 0, slots := 0, locals := 138 } s m args below meth c H locs 0 0 (ah_Q below args s H0 D ca 0 0 (some (.int Z.1)) Z.2 z) (F0 m 42 ls [.int s0]) := by
  intro M a0 x1 x2 x3 x4 s0 H locs ls hG hL hl Z hf
  unfold fX11_law_42 at hf
  refine lv_istore (lv' := [(5, .int s0), (0, .ref a0), (1, .int x1), (2, .int x2), (3, .int x3), (4, .int x4)]) K.1 K.2.1 dX11_law_42 hl (by decide) rfl (fun ls hl => ?_)
  refine lv_iload K.1 K.2.1 dX11_law_44 (lv_at hl 0 rfl) ?_
  refine lv_if_eq (tgt := 52) K.1 K.2.1 dX11_law_46 (by decide) (fun h1 => ?_) (fun h1 => ?_)
  · rw [if_pos h1] at hf
    refine lv_aload_n K.1 K.2.1 dX11_law_52 rfl (lv_at hl 1 rfl) ?_
    obtain ⟨v2, ev2, hf⟩ := Option.bind_eq_some_iff.mp hf
    obtain ⟨q3, eq3⟩ := ah_this ev2
    refine ah_callV (As := []) (rest := []) K hG hL hl.1 eq3 rfl (ctX11_begins l H0 D ca M z a0 v2 ev2) hdX11_begins q_1091 q_1093 q_54 q_1094 q_33 ⟨Nat.le_of_ble_eq_true rfl, Nat.le_of_ble_eq_true rfl⟩ rfl rfl (Nat.le_of_ble_eq_true rfl) ⟨Nat.le_refl _, Nat.le_refl _⟩ dX11_law_53 (fun H locs hG hL => ?_)
    refine lv_iconst (v := 0) K.1 K.2.1 dX11_law_56 (by decide) ?_
    refine lv_istore (lv' := [(6, .int 0), (5, .int s0), (0, .ref a0), (1, .int x1), (2, .int x2), (3, .int x3), (4, .int x4)]) K.1 K.2.1 dX11_law_57 hl (by decide) rfl (fun ls hl => ?_)
    exact wX11_law_59 K  ah_fu v2 a0 x1 x2 x3 x4 0 _ _ _ hG hL (lv_sub hl [2, 3, 4, 5, 6, 0] rfl) _ hf
  · rw [if_neg h1] at hf
    refine lv_iload K.1 K.2.1 dX11_law_49 (lv_at hl 0 rfl) ?_
    have hf := Option.some.inj hf
    subst hf
    exact ah_iret K hG hL (Nat.le_refl _) (Nat.le_refl _) dX11_law_51
def fX11_law_41    (M : ah_h) (a0 : Nat) (x1 : Int32) (x2 : Int32) (x3 : Int32) (x4 : Int32) : Option (Int32 × ah_h) := fX11_law_42 M a0 x1 x2 x3 x4 (-1)
set_option maxRecDepth 100000 in
set_option maxHeartbeats 4000000 in
theorem wX11_law_41 {p : Program} {l : Launch} {e : Env} {s : State} {m : MethodId} {args : Array Value} {below : List Frame} {meth : Method} {c : Code} {D : va_G} {ca : Nat → ClassId} {H0 : Heap} {z : Nat} (K : ah_K p s m args meth c D ca "ShipsThatMeetModel" cX11_law 10 (some .int))   : ∀ (M : ah_h) (a0 : Nat) (x1 : Int32) (x2 : Int32) (x3 : Int32) (x4 : Int32)  (H : Heap) (locs : List Loc) (ls : Array Slot), ah_g H0 D ca M z H → ah_L H0 locs → lv_has ls 10 [(0, .ref a0), (1, .int x1), (2, .int x2), (3, .int x3), (4, .int x4)] → ∀ Z, fX11_law_41    M a0 x1 x2 x3 x4 = some Z → W p l e { frames := 6, cells := 0, slots := 0, locals := 138 } s m args below meth c H locs 0 0 (ah_Q below args s H0 D ca 0 0 (some (.int Z.1)) Z.2 z) (F0 m 41 ls []) := by
  intro M a0 x1 x2 x3 x4 H locs ls hG hL hl Z hf
  unfold fX11_law_41 at hf
  refine lv_iconst (v := (-1)) K.1 K.2.1 dX11_law_41 (by decide) ?_
  exact wX11_law_42 K  M a0 x1 x2 x3 x4 (-1) _ _ _ hG hL (lv_sub hl [0, 1, 2, 3, 4] rfl) _ hf
def fX11_law (M : ah_h) (a0 : Nat) (x1 : Int32) (x2 : Int32) (x3 : Int32) (x4 : Int32) : Option (Int32 × ah_h) := (ah_ob M a0 11).bind fun _ => (fX11_isMan M a0 x1).bind fun v1 => if v1 = 0 then (fX11_law_41 M a0 x1 x2 x3 x4) else ((fX11_isIn M x3.toInt64 0 7).bind fun v4 => if v4 = 0 then (fX11_law_41 M a0 x1 x2 x3 x4) else ((fX11_isIn M x4.toInt64 0 9).bind fun v6 => if v6 = 0 then (fX11_law_41 M a0 x1 x2 x3 x4) else ((fX11_wrongMeetings M a0 x2).bind fun v8 => fX11_law_42 M a0 x1 x2 x3 x4 v8)))
set_option maxRecDepth 100000 in
set_option maxHeartbeats 4000000 in
theorem ctX11_law (l : Launch) (H0 : Heap) (D : va_G) (ca : Nat → ClassId) (M : ah_h) (z : Nat) (a0 : Nat) (x1 : Int32) (x2 : Int32) (x3 : Int32) (x4 : Int32) (Z : Int32 × ah_h) (hf : fX11_law M a0 x1 x2 x3 x4 = some Z) : ah_ct l H0 D ca yX11_law cX11_law 10 (some .int) 6 138 0 0 [.ref a0, .int x1, .int x2, .int x3, .int x4] M z (some (.int Z.1)) Z.2 z := by
  refine ah_of (by decide) (Nat.le_of_ble_eq_true rfl) ?_
  intro p e s m below meth c ls hin K hG hl
  have hL : ah_L H0 [] := ah_L.nil
  have hl : lv_has ls 10 [(0, .ref a0), (1, .int x1), (2, .int x2), (3, .int x3), (4, .int x4)] := hl
  unfold fX11_law at hf
  obtain ⟨-, -, hf⟩ := Option.bind_eq_some_iff.mp hf
  refine lv_aload_n K.1 K.2.1 dX11_law_0 rfl (lv_at hl 0 rfl) ?_
  refine lv_iload_n K.1 K.2.1 dX11_law_1 rfl (lv_at hl 1 rfl) ?_
  obtain ⟨v1, ev1, hf⟩ := Option.bind_eq_some_iff.mp hf
  obtain ⟨q2, eq2⟩ := ah_this ev1
  refine ah_callV (As := [.int x1]) (rest := []) K hG hL hl.1 eq2 rfl (ctX11_isMan l H0 D ca M z a0 x1 v1 ev1) hdX11_isMan q_1066 q_1068 q_54 q_1069 q_30 ⟨Nat.le_of_ble_eq_true rfl, Nat.le_of_ble_eq_true rfl⟩ rfl rfl (Nat.le_of_ble_eq_true rfl) ⟨Nat.le_refl _, Nat.le_refl _⟩ dX11_law_2 (fun H locs hG hL => ?_)
  refine lv_if_eq (tgt := 41) K.1 K.2.1 dX11_law_5 (by decide) (fun h3 => ?_) (fun h3 => ?_)
  · rw [if_pos h3] at hf
    exact wX11_law_41 K  M a0 x1 x2 x3 x4 _ _ _ hG hL (lv_sub hl [0, 1, 2, 3, 4] rfl) _ hf
  · rw [if_neg h3] at hf
    refine lv_iload_n K.1 K.2.1 dX11_law_8 rfl (lv_at hl 3 rfl) ?_
    refine lv_i2l (v := x3.toInt64) K.1 K.2.1 dX11_law_9 rfl ?_
    refine lv_lconst (v := 0) K.1 K.2.1 dX11_law_10 (by decide) ?_
    refine lv_ldc2 (v := 7) K.1 K.2.1 K.2.2.2.1 (K.2.2.2.2.1 _ q_971) dX11_law_11 ?_
    obtain ⟨v4, ev4, hf⟩ := Option.bind_eq_some_iff.mp hf
    refine ah_callS (As := [.long x3.toInt64, .long 0, .long 7]) (rest := []) K hG hL hl.1 (ctX11_isIn l H0 D ca M z x3.toInt64 0 7 v4 ev4) hdX11_isIn q_972 q_973 q_54 q_974 ⟨Nat.le_of_ble_eq_true rfl, Nat.le_of_ble_eq_true rfl⟩ rfl rfl (Nat.le_of_ble_eq_true rfl) ⟨Nat.le_refl _, Nat.le_refl _⟩ dX11_law_14 (fun H locs hG hL => ?_)
    refine lv_if_eq (tgt := 41) K.1 K.2.1 dX11_law_17 (by decide) (fun h5 => ?_) (fun h5 => ?_)
    · rw [if_pos h5] at hf
      exact wX11_law_41 K  M a0 x1 x2 x3 x4 _ _ _ hG hL (lv_sub hl [0, 1, 2, 3, 4] rfl) _ hf
    · rw [if_neg h5] at hf
      refine lv_iload K.1 K.2.1 dX11_law_20 (lv_at hl 4 rfl) ?_
      refine lv_i2l (v := x4.toInt64) K.1 K.2.1 dX11_law_22 rfl ?_
      refine lv_lconst (v := 0) K.1 K.2.1 dX11_law_23 (by decide) ?_
      refine lv_ldc2 (v := 9) K.1 K.2.1 K.2.2.2.1 (K.2.2.2.2.1 _ q_1199) dX11_law_24 ?_
      obtain ⟨v6, ev6, hf⟩ := Option.bind_eq_some_iff.mp hf
      refine ah_callS (As := [.long x4.toInt64, .long 0, .long 9]) (rest := []) K hG hL hl.1 (ctX11_isIn l H0 D ca M z x4.toInt64 0 9 v6 ev6) hdX11_isIn q_972 q_973 q_54 q_974 ⟨Nat.le_of_ble_eq_true rfl, Nat.le_of_ble_eq_true rfl⟩ rfl rfl (Nat.le_of_ble_eq_true rfl) ⟨Nat.le_refl _, Nat.le_refl _⟩ dX11_law_27 (fun H locs hG hL => ?_)
      refine lv_if_eq (tgt := 41) K.1 K.2.1 dX11_law_30 (by decide) (fun h7 => ?_) (fun h7 => ?_)
      · rw [if_pos h7] at hf
        exact wX11_law_41 K  M a0 x1 x2 x3 x4 _ _ _ hG hL (lv_sub hl [0, 1, 2, 3, 4] rfl) _ hf
      · rw [if_neg h7] at hf
        refine lv_aload_n K.1 K.2.1 dX11_law_33 rfl (lv_at hl 0 rfl) ?_
        refine lv_iload_n K.1 K.2.1 dX11_law_34 rfl (lv_at hl 2 rfl) ?_
        obtain ⟨v8, ev8, hf⟩ := Option.bind_eq_some_iff.mp hf
        obtain ⟨q9, eq9⟩ := ah_this ev8
        refine ah_callV (As := [.int x2]) (rest := []) K hG hL hl.1 eq9 rfl (ctX11_wrongMeetings l H0 D ca M z a0 x2 v8 ev8) hdX11_wrongMeetings q_1087 q_1089 q_54 q_1090 q_32 ⟨Nat.le_of_ble_eq_true rfl, Nat.le_of_ble_eq_true rfl⟩ rfl rfl (Nat.le_of_ble_eq_true rfl) ⟨Nat.le_refl _, Nat.le_refl _⟩ dX11_law_35 (fun H locs hG hL => ?_)
        refine lv_goto (tgt := 42) K.1 K.2.1 dX11_law_38 (by decide) ?_
        exact wX11_law_42 K  M a0 x1 x2 x3 x4 v8 _ _ _ hG hL (lv_sub hl [0, 1, 2, 3, 4] rfl) _ hf
def fX11_together_130    (M : ah_h) (a0 : Nat) (x5 : Int32) : Option (Int32 × ah_h) := (fX11_ends M a0).bind fun v1 => some (x5, v1)
set_option maxRecDepth 100000 in
set_option maxHeartbeats 4000000 in
theorem wX11_together_130 {p : Program} {l : Launch} {e : Env} {s : State} {m : MethodId} {args : Array Value} {below : List Frame} {meth : Method} {c : Code} {D : va_G} {ca : Nat → ClassId} {H0 : Heap} {z : Nat} (K : ah_K p s m args meth c D ca "ShipsThatMeetModel" cX11_together 8 (some .int))   : ∀ (M : ah_h) (a0 : Nat) (x5 : Int32)  (H : Heap) (locs : List Loc) (ls : Array Slot), ah_g H0 D ca M z H → ah_L H0 locs → lv_has ls 8 [(0, .ref a0), (5, .int x5)] → ∀ Z, fX11_together_130    M a0 x5 = some Z → W p l e { frames := 6, cells := 0, slots := 0, locals := 138 } s m args below meth c H locs 0 0 (ah_Q below args s H0 D ca 0 0 (some (.int Z.1)) Z.2 z) (F0 m 130 ls []) := by
  intro M a0 x5 H locs ls hG hL hl Z hf
  unfold fX11_together_130 at hf
  refine lv_aload_n K.1 K.2.1 dX11_together_130 rfl (lv_at hl 0 rfl) ?_
  obtain ⟨v1, ev1, hf⟩ := Option.bind_eq_some_iff.mp hf
  obtain ⟨q2, eq2⟩ := ah_this ev1
  refine ah_callV (As := []) (rest := []) K hG hL hl.1 eq2 rfl (ctX11_ends l H0 D ca M z a0 v1 ev1) hdX11_ends q_1111 q_1113 q_54 q_1114 q_38 ⟨Nat.le_of_ble_eq_true rfl, Nat.le_of_ble_eq_true rfl⟩ rfl rfl (Nat.le_of_ble_eq_true rfl) ⟨Nat.le_refl _, Nat.le_refl _⟩ dX11_together_131 (fun H locs hG hL => ?_)
  refine lv_iload K.1 K.2.1 dX11_together_134 (lv_at hl 1 rfl) ?_
  have hf := Option.some.inj hf
  subst hf
  exact ah_iret K hG hL (Nat.le_refl _) (Nat.le_refl _) dX11_together_136
def fX11_together_121  (k73 : ah_h → Nat → Int32 → Int32 → Int32 → Int32 → Int32 → Option (Int32 × ah_h))  (M : ah_h) (a0 : Nat) (x1 : Int32) (x2 : Int32) (x3 : Int32) (x6 : Int32) (s0 : Int32) (s1 : Int32) : Option (Int32 × ah_h) := k73 M a0 x1 x2 x3 (s0 + s1) (x6 + 1)
set_option maxRecDepth 100000 in
set_option maxHeartbeats 4000000 in
theorem wX11_together_121 {p : Program} {l : Launch} {e : Env} {s : State} {m : MethodId} {args : Array Value} {below : List Frame} {meth : Method} {c : Code} {D : va_G} {ca : Nat → ClassId} {H0 : Heap} {z : Nat} (K : ah_K p s m args meth c D ca "ShipsThatMeetModel" cX11_together 8 (some .int))  (k73 : ah_h → Nat → Int32 → Int32 → Int32 → Int32 → Int32 → Option (Int32 × ah_h)) (hk73 : ∀ (M : ah_h) (a0 : Nat) (x1 : Int32) (x2 : Int32) (x3 : Int32) (x5 : Int32) (x6 : Int32)  (H : Heap) (locs : List Loc) (ls : Array Slot), ah_g H0 D ca M z H → ah_L H0 locs → lv_has ls 8 [(0, .ref a0), (1, .int x1), (2, .int x2), (3, .int x3), (5, .int x5), (6, .int x6)] → ∀ Z, k73 M a0 x1 x2 x3 x5 x6 = some Z → W p l e { frames := 6, cells := 0, slots := 0, locals := 138 } s m args below meth c H locs 0 0 (ah_Q below args s H0 D ca 0 0 (some (.int Z.1)) Z.2 z) (F0 m 73 ls [])) : ∀ (M : ah_h) (a0 : Nat) (x1 : Int32) (x2 : Int32) (x3 : Int32) (x6 : Int32) (s0 : Int32) (s1 : Int32)  (H : Heap) (locs : List Loc) (ls : Array Slot), ah_g H0 D ca M z H → ah_L H0 locs → lv_has ls 8 [(0, .ref a0), (1, .int x1), (2, .int x2), (3, .int x3), (6, .int x6)] → ∀ Z, fX11_together_121  k73  M a0 x1 x2 x3 x6 s0 s1 = some Z → W p l e { frames := 6, cells := 0, slots := 0, locals := 138 } s m args below meth c H locs 0 0 (ah_Q below args s H0 D ca 0 0 (some (.int Z.1)) Z.2 z) (F0 m 121 ls [.int s1, .int s0]) := by
  intro M a0 x1 x2 x3 x6 s0 s1 H locs ls hG hL hl Z hf
  unfold fX11_together_121 at hf
  refine lv_iadd K.1 K.2.1 dX11_together_121 ?_
  refine lv_istore (lv' := [(5, .int (s0 + s1)), (0, .ref a0), (1, .int x1), (2, .int x2), (3, .int x3), (6, .int x6)]) K.1 K.2.1 dX11_together_122 hl (by decide) rfl (fun ls hl => ?_)
  refine lv_iinc (v := x6 + 1) (lv' := [(6, .int (x6 + 1)), (5, .int (s0 + s1)), (0, .ref a0), (1, .int x1), (2, .int x2), (3, .int x3)]) K.1 K.2.1 dX11_together_124 hl (k := 5) rfl rfl (by decide) rfl (fun ls hl => ?_)
  refine lv_goto (tgt := 73) K.1 K.2.1 dX11_together_127 (by decide) ?_
  exact hk73 M a0 x1 x2 x3 (s0 + s1) (x6 + 1) _ _ _ hG hL (lv_sub hl [2, 3, 4, 5, 1, 0] rfl) _ hf
def fX11_together_73_b   (k73 : ah_h → Nat → Int32 → Int32 → Int32 → Int32 → Int32 → Option (Int32 × ah_h))  (M : ah_h) (a0 : Nat) (x1 : Int32) (x2 : Int32) (x3 : Int32) (x5 : Int32) (x6 : Int32) : Option (Int32 × ah_h) := (fX11_meetings M a0 x3).bind fun v1 => if v1 ≤ x6 then (fX11_together_130 M a0 x5) else (if x5 = x6 then ((fX11_meetsTold M a0 x3 x6).bind fun v5 => (fX11_get v5.2 a0 x1 0).bind fun v7 => (fX11_get v5.2 a0 x2 0).bind fun v9 => if v7 = v9 then (fX11_together_121 k73 v5.2 a0 x1 x2 x3 x6 x5 1) else (fX11_together_121 k73 v5.2 a0 x1 x2 x3 x6 x5 0)) else (fX11_together_130 M a0 x5))
def fX11_together_73    : Nat → ah_h → Nat → Int32 → Int32 → Int32 → Int32 → Int32 → Option (Int32 × ah_h)
  | 0 => fun _ _ _ _ _ _ _ => none
  | n + 1 => fun M a0 x1 x2 x3 x5 x6 => fX11_together_73_b   (fX11_together_73    n)  M a0 x1 x2 x3 x5 x6
set_option maxRecDepth 100000 in
set_option maxHeartbeats 4000000 in
theorem wX11_together_73_b {p : Program} {l : Launch} {e : Env} {s : State} {m : MethodId} {args : Array Value} {below : List Frame} {meth : Method} {c : Code} {D : va_G} {ca : Nat → ClassId} {H0 : Heap} {z : Nat} (K : ah_K p s m args meth c D ca "ShipsThatMeetModel" cX11_together 8 (some .int))   (k73 : ah_h → Nat → Int32 → Int32 → Int32 → Int32 → Int32 → Option (Int32 × ah_h)) (hk73 : ∀ (M : ah_h) (a0 : Nat) (x1 : Int32) (x2 : Int32) (x3 : Int32) (x5 : Int32) (x6 : Int32)  (H : Heap) (locs : List Loc) (ls : Array Slot), ah_g H0 D ca M z H → ah_L H0 locs → lv_has ls 8 [(0, .ref a0), (1, .int x1), (2, .int x2), (3, .int x3), (5, .int x5), (6, .int x6)] → ∀ Z, k73 M a0 x1 x2 x3 x5 x6 = some Z → W p l e { frames := 6, cells := 0, slots := 0, locals := 138 } s m args below meth c H locs 0 0 (ah_Q below args s H0 D ca 0 0 (some (.int Z.1)) Z.2 z) (F0 m 73 ls [])) : ∀ (M : ah_h) (a0 : Nat) (x1 : Int32) (x2 : Int32) (x3 : Int32) (x5 : Int32) (x6 : Int32)  (H : Heap) (locs : List Loc) (ls : Array Slot), ah_g H0 D ca M z H → ah_L H0 locs → lv_has ls 8 [(0, .ref a0), (1, .int x1), (2, .int x2), (3, .int x3), (5, .int x5), (6, .int x6)] → ∀ Z, fX11_together_73_b   k73  M a0 x1 x2 x3 x5 x6 = some Z → W p l e { frames := 6, cells := 0, slots := 0, locals := 138 } s m args below meth c H locs 0 0 (ah_Q below args s H0 D ca 0 0 (some (.int Z.1)) Z.2 z) (F0 m 73 ls []) := by
  intro M a0 x1 x2 x3 x5 x6 H locs ls hG hL hl Z hf
  unfold fX11_together_73_b at hf
  refine lv_iload K.1 K.2.1 dX11_together_73 (lv_at hl 5 rfl) ?_
  refine lv_aload_n K.1 K.2.1 dX11_together_75 rfl (lv_at hl 0 rfl) ?_
  refine lv_iload_n K.1 K.2.1 dX11_together_76 rfl (lv_at hl 3 rfl) ?_
  obtain ⟨v1, ev1, hf⟩ := Option.bind_eq_some_iff.mp hf
  obtain ⟨q2, eq2⟩ := ah_this ev1
  refine ah_callV (As := [.int x3]) (rest := [.int x6]) K hG hL hl.1 eq2 rfl (ctX11_meetings l H0 D ca M z a0 x3 v1 ev1) hdX11_meetings q_1095 q_1097 q_54 q_1098 q_34 ⟨Nat.le_of_ble_eq_true rfl, Nat.le_of_ble_eq_true rfl⟩ rfl rfl (Nat.le_of_ble_eq_true rfl) ⟨Nat.le_refl _, Nat.le_refl _⟩ dX11_together_77 (fun H locs hG hL => ?_)
  refine lv_icmp_ge (tgt := 130) K.1 K.2.1 dX11_together_80 (by decide) (fun h3 => ?_) (fun h3 => ?_)
  · rw [if_pos h3] at hf
    exact wX11_together_130 K  M a0 x5 _ _ _ hG hL (lv_sub hl [0, 4] rfl) _ hf
  · rw [if_neg h3] at hf
    refine lv_iload K.1 K.2.1 dX11_together_83 (lv_at hl 4 rfl) ?_
    refine lv_iload K.1 K.2.1 dX11_together_85 (lv_at hl 5 rfl) ?_
    refine lv_icmp_ne (tgt := 130) K.1 K.2.1 dX11_together_87 (by decide) (fun h4 => ?_) (fun h4 => ?_)
    · rw [if_neg h4] at hf
      exact wX11_together_130 K  M a0 x5 _ _ _ hG hL (lv_sub hl [0, 4] rfl) _ hf
    · rw [if_pos h4] at hf
      refine lv_aload_n K.1 K.2.1 dX11_together_90 rfl (lv_at hl 0 rfl) ?_
      refine lv_iload_n K.1 K.2.1 dX11_together_91 rfl (lv_at hl 3 rfl) ?_
      refine lv_iload K.1 K.2.1 dX11_together_92 (lv_at hl 5 rfl) ?_
      obtain ⟨v5, ev5, hf⟩ := Option.bind_eq_some_iff.mp hf
      obtain ⟨q6, eq6⟩ := ah_this ev5
      refine ah_callV (As := [.int x3, .int x6]) (rest := []) K hG hL hl.1 eq6 rfl (ctX11_meetsTold l H0 D ca M z a0 x3 x6 v5 ev5) hdX11_meetsTold q_1099 q_1101 q_54 q_1102 q_35 ⟨Nat.le_of_ble_eq_true rfl, Nat.le_of_ble_eq_true rfl⟩ rfl rfl (Nat.le_of_ble_eq_true rfl) ⟨Nat.le_refl _, Nat.le_refl _⟩ dX11_together_94 (fun H locs hG hL => ?_)
      refine lv_istore (lv' := [(7, .int v5.1), (0, .ref a0), (1, .int x1), (2, .int x2), (3, .int x3), (5, .int x5), (6, .int x6)]) K.1 K.2.1 dX11_together_97 hl (by decide) rfl (fun ls hl => ?_)
      refine lv_iload K.1 K.2.1 dX11_together_99 (lv_at hl 5 rfl) ?_
      refine lv_aload_n K.1 K.2.1 dX11_together_101 rfl (lv_at hl 1 rfl) ?_
      refine lv_iload_n K.1 K.2.1 dX11_together_102 rfl (lv_at hl 2 rfl) ?_
      refine lv_iconst (v := 0) K.1 K.2.1 dX11_together_103 (by decide) ?_
      obtain ⟨v7, ev7, hf⟩ := Option.bind_eq_some_iff.mp hf
      obtain ⟨q8, eq8⟩ := ah_this ev7
      refine ah_callV (As := [.int x1, .int 0]) (rest := [.int x5]) K hG hL hl.1 eq8 rfl (ctX11_get l H0 D ca v5.2 z a0 x1 0 v7 ev7) hdX11_get q_1012 q_1014 q_54 q_1015 q_20 ⟨Nat.le_of_ble_eq_true rfl, Nat.le_of_ble_eq_true rfl⟩ rfl rfl (Nat.le_of_ble_eq_true rfl) ⟨Nat.le_refl _, Nat.le_refl _⟩ dX11_together_104 (fun H locs hG hL => ?_)
      refine lv_aload_n K.1 K.2.1 dX11_together_107 rfl (lv_at hl 1 rfl) ?_
      refine lv_iload_n K.1 K.2.1 dX11_together_108 rfl (lv_at hl 3 rfl) ?_
      refine lv_iconst (v := 0) K.1 K.2.1 dX11_together_109 (by decide) ?_
      obtain ⟨v9, ev9, hf⟩ := Option.bind_eq_some_iff.mp hf
      obtain ⟨q10, eq10⟩ := ah_this ev9
      refine ah_callV (As := [.int x2, .int 0]) (rest := [.int v7, .int x5]) K hG hL hl.1 eq10 rfl (ctX11_get l H0 D ca v5.2 z a0 x2 0 v9 ev9) hdX11_get q_1012 q_1014 q_54 q_1015 q_20 ⟨Nat.le_of_ble_eq_true rfl, Nat.le_of_ble_eq_true rfl⟩ rfl rfl (Nat.le_of_ble_eq_true rfl) ⟨Nat.le_refl _, Nat.le_refl _⟩ dX11_together_110 (fun H locs hG hL => ?_)
      refine lv_icmp_ne (tgt := 120) K.1 K.2.1 dX11_together_113 (by decide) (fun h11 => ?_) (fun h11 => ?_)
      · rw [if_neg h11] at hf
        refine lv_iconst (v := 0) K.1 K.2.1 dX11_together_120 (by decide) ?_
        exact wX11_together_121 K k73 hk73 v5.2 a0 x1 x2 x3 x6 x5 0 _ _ _ hG hL (lv_sub hl [1, 2, 3, 4, 6] rfl) _ hf
      · rw [if_pos h11] at hf
        refine lv_iconst (v := 1) K.1 K.2.1 dX11_together_116 (by decide) ?_
        refine lv_goto (tgt := 121) K.1 K.2.1 dX11_together_117 (by decide) ?_
        exact wX11_together_121 K k73 hk73 v5.2 a0 x1 x2 x3 x6 x5 1 _ _ _ hG hL (lv_sub hl [1, 2, 3, 4, 6] rfl) _ hf
theorem wX11_together_73 {p : Program} {l : Launch} {e : Env} {s : State} {m : MethodId} {args : Array Value} {below : List Frame} {meth : Method} {c : Code} {D : va_G} {ca : Nat → ClassId} {H0 : Heap} {z : Nat} (K : ah_K p s m args meth c D ca "ShipsThatMeetModel" cX11_together 8 (some .int))   (n : Nat) : ∀ (M : ah_h) (a0 : Nat) (x1 : Int32) (x2 : Int32) (x3 : Int32) (x5 : Int32) (x6 : Int32)  (H : Heap) (locs : List Loc) (ls : Array Slot), ah_g H0 D ca M z H → ah_L H0 locs → lv_has ls 8 [(0, .ref a0), (1, .int x1), (2, .int x2), (3, .int x3), (5, .int x5), (6, .int x6)] → ∀ Z, fX11_together_73    n M a0 x1 x2 x3 x5 x6 = some Z → W p l e { frames := 6, cells := 0, slots := 0, locals := 138 } s m args below meth c H locs 0 0 (ah_Q below args s H0 D ca 0 0 (some (.int Z.1)) Z.2 z) (F0 m 73 ls []) := by
  induction n with
  | zero => intro M a0 x1 x2 x3 x5 x6 H locs ls hG hL hl Z hf; cases hf
  | succ n ih => exact wX11_together_73_b K  _ ih
def fX11_together (M : ah_h) (a0 : Nat) (x1 : Int32) (x2 : Int32) (x3 : Int32) : Option (Int32 × ah_h) := (ah_ob M a0 11).bind fun _ => (fX11_isMan M a0 x1).bind fun v1 => if v1 = 0 then (some ((-1), M)) else ((fX11_isMan M a0 x2).bind fun v4 => if v4 = 0 then (some ((-1), M)) else (if x1 = x2 then (some ((-1), M)) else ((fX11_isShelf M x3).bind fun v8 => if v8 = 0 then (some ((-1), M)) else ((fX11_get M a0 x1 0).bind fun v10 => (fX11_get M a0 x2 0).bind fun v12 => if v10 = v12 then ((fX11_wrongMeetings M a0 x3).bind fun v15 => if v15 = 0 then ((fX11_begins M a0).bind fun v18 => fX11_together_73 ah_fu v18 a0 x1 x2 x3 0 0) else (some (v15, M))) else (some ((-3), M))))))
set_option maxRecDepth 100000 in
set_option maxHeartbeats 4000000 in
theorem ctX11_together (l : Launch) (H0 : Heap) (D : va_G) (ca : Nat → ClassId) (M : ah_h) (z : Nat) (a0 : Nat) (x1 : Int32) (x2 : Int32) (x3 : Int32) (Z : Int32 × ah_h) (hf : fX11_together M a0 x1 x2 x3 = some Z) : ah_ct l H0 D ca yX11_together cX11_together 8 (some .int) 6 138 0 0 [.ref a0, .int x1, .int x2, .int x3] M z (some (.int Z.1)) Z.2 z := by
  refine ah_of (by decide) (Nat.le_of_ble_eq_true rfl) ?_
  intro p e s m below meth c ls hin K hG hl
  have hL : ah_L H0 [] := ah_L.nil
  have hl : lv_has ls 8 [(0, .ref a0), (1, .int x1), (2, .int x2), (3, .int x3)] := hl
  unfold fX11_together at hf
  obtain ⟨-, -, hf⟩ := Option.bind_eq_some_iff.mp hf
  refine lv_aload_n K.1 K.2.1 dX11_together_0 rfl (lv_at hl 0 rfl) ?_
  refine lv_iload_n K.1 K.2.1 dX11_together_1 rfl (lv_at hl 1 rfl) ?_
  obtain ⟨v1, ev1, hf⟩ := Option.bind_eq_some_iff.mp hf
  obtain ⟨q2, eq2⟩ := ah_this ev1
  refine ah_callV (As := [.int x1]) (rest := []) K hG hL hl.1 eq2 rfl (ctX11_isMan l H0 D ca M z a0 x1 v1 ev1) hdX11_isMan q_1066 q_1068 q_54 q_1069 q_30 ⟨Nat.le_of_ble_eq_true rfl, Nat.le_of_ble_eq_true rfl⟩ rfl rfl (Nat.le_of_ble_eq_true rfl) ⟨Nat.le_refl _, Nat.le_refl _⟩ dX11_together_2 (fun H locs hG hL => ?_)
  refine lv_if_eq (tgt := 28) K.1 K.2.1 dX11_together_5 (by decide) (fun h3 => ?_) (fun h3 => ?_)
  · rw [if_pos h3] at hf
    refine lv_iconst (v := (-1)) K.1 K.2.1 dX11_together_28 (by decide) ?_
    have hf := Option.some.inj hf
    subst hf
    exact ah_iret K hG hL (Nat.le_refl _) (Nat.le_refl _) dX11_together_29
  · rw [if_neg h3] at hf
    refine lv_aload_n K.1 K.2.1 dX11_together_8 rfl (lv_at hl 0 rfl) ?_
    refine lv_iload_n K.1 K.2.1 dX11_together_9 rfl (lv_at hl 2 rfl) ?_
    obtain ⟨v4, ev4, hf⟩ := Option.bind_eq_some_iff.mp hf
    obtain ⟨q5, eq5⟩ := ah_this ev4
    refine ah_callV (As := [.int x2]) (rest := []) K hG hL hl.1 eq5 rfl (ctX11_isMan l H0 D ca M z a0 x2 v4 ev4) hdX11_isMan q_1066 q_1068 q_54 q_1069 q_30 ⟨Nat.le_of_ble_eq_true rfl, Nat.le_of_ble_eq_true rfl⟩ rfl rfl (Nat.le_of_ble_eq_true rfl) ⟨Nat.le_refl _, Nat.le_refl _⟩ dX11_together_10 (fun H locs hG hL => ?_)
    refine lv_if_eq (tgt := 28) K.1 K.2.1 dX11_together_13 (by decide) (fun h6 => ?_) (fun h6 => ?_)
    · rw [if_pos h6] at hf
      refine lv_iconst (v := (-1)) K.1 K.2.1 dX11_together_28 (by decide) ?_
      have hf := Option.some.inj hf
      subst hf
      exact ah_iret K hG hL (Nat.le_refl _) (Nat.le_refl _) dX11_together_29
    · rw [if_neg h6] at hf
      refine lv_iload_n K.1 K.2.1 dX11_together_16 rfl (lv_at hl 1 rfl) ?_
      refine lv_iload_n K.1 K.2.1 dX11_together_17 rfl (lv_at hl 2 rfl) ?_
      refine lv_icmp_eq (tgt := 28) K.1 K.2.1 dX11_together_18 (by decide) (fun h7 => ?_) (fun h7 => ?_)
      · rw [if_pos h7] at hf
        refine lv_iconst (v := (-1)) K.1 K.2.1 dX11_together_28 (by decide) ?_
        have hf := Option.some.inj hf
        subst hf
        exact ah_iret K hG hL (Nat.le_refl _) (Nat.le_refl _) dX11_together_29
      · rw [if_neg h7] at hf
        refine lv_iload_n K.1 K.2.1 dX11_together_21 rfl (lv_at hl 3 rfl) ?_
        obtain ⟨v8, ev8, hf⟩ := Option.bind_eq_some_iff.mp hf
        refine ah_callS (As := [.int x3]) (rest := []) K hG hL hl.1 (ctX11_isShelf l H0 D ca M z x3 v8 ev8) hdX11_isShelf q_968 q_969 q_54 q_970 ⟨Nat.le_of_ble_eq_true rfl, Nat.le_of_ble_eq_true rfl⟩ rfl rfl (Nat.le_of_ble_eq_true rfl) ⟨Nat.le_refl _, Nat.le_refl _⟩ dX11_together_22 (fun H locs hG hL => ?_)
        refine lv_if_ne (tgt := 30) K.1 K.2.1 dX11_together_25 (by decide) (fun h9 => ?_) (fun h9 => ?_)
        · rw [if_neg h9] at hf
          refine lv_aload_n K.1 K.2.1 dX11_together_30 rfl (lv_at hl 0 rfl) ?_
          refine lv_iload_n K.1 K.2.1 dX11_together_31 rfl (lv_at hl 1 rfl) ?_
          refine lv_iconst (v := 0) K.1 K.2.1 dX11_together_32 (by decide) ?_
          obtain ⟨v10, ev10, hf⟩ := Option.bind_eq_some_iff.mp hf
          obtain ⟨q11, eq11⟩ := ah_this ev10
          refine ah_callV (As := [.int x1, .int 0]) (rest := []) K hG hL hl.1 eq11 rfl (ctX11_get l H0 D ca M z a0 x1 0 v10 ev10) hdX11_get q_1012 q_1014 q_54 q_1015 q_20 ⟨Nat.le_of_ble_eq_true rfl, Nat.le_of_ble_eq_true rfl⟩ rfl rfl (Nat.le_of_ble_eq_true rfl) ⟨Nat.le_refl _, Nat.le_refl _⟩ dX11_together_33 (fun H locs hG hL => ?_)
          refine lv_aload_n K.1 K.2.1 dX11_together_36 rfl (lv_at hl 0 rfl) ?_
          refine lv_iload_n K.1 K.2.1 dX11_together_37 rfl (lv_at hl 2 rfl) ?_
          refine lv_iconst (v := 0) K.1 K.2.1 dX11_together_38 (by decide) ?_
          obtain ⟨v12, ev12, hf⟩ := Option.bind_eq_some_iff.mp hf
          obtain ⟨q13, eq13⟩ := ah_this ev12
          refine ah_callV (As := [.int x2, .int 0]) (rest := [.int v10]) K hG hL hl.1 eq13 rfl (ctX11_get l H0 D ca M z a0 x2 0 v12 ev12) hdX11_get q_1012 q_1014 q_54 q_1015 q_20 ⟨Nat.le_of_ble_eq_true rfl, Nat.le_of_ble_eq_true rfl⟩ rfl rfl (Nat.le_of_ble_eq_true rfl) ⟨Nat.le_refl _, Nat.le_refl _⟩ dX11_together_39 (fun H locs hG hL => ?_)
          refine lv_icmp_eq (tgt := 48) K.1 K.2.1 dX11_together_42 (by decide) (fun h14 => ?_) (fun h14 => ?_)
          · rw [if_pos h14] at hf
            refine lv_aload_n K.1 K.2.1 dX11_together_48 rfl (lv_at hl 0 rfl) ?_
            refine lv_iload_n K.1 K.2.1 dX11_together_49 rfl (lv_at hl 3 rfl) ?_
            obtain ⟨v15, ev15, hf⟩ := Option.bind_eq_some_iff.mp hf
            obtain ⟨q16, eq16⟩ := ah_this ev15
            refine ah_callV (As := [.int x3]) (rest := []) K hG hL hl.1 eq16 rfl (ctX11_wrongMeetings l H0 D ca M z a0 x3 v15 ev15) hdX11_wrongMeetings q_1087 q_1089 q_54 q_1090 q_32 ⟨Nat.le_of_ble_eq_true rfl, Nat.le_of_ble_eq_true rfl⟩ rfl rfl (Nat.le_of_ble_eq_true rfl) ⟨Nat.le_refl _, Nat.le_refl _⟩ dX11_together_50 (fun H locs hG hL => ?_)
            refine lv_istore (lv' := [(4, .int v15), (0, .ref a0), (1, .int x1), (2, .int x2), (3, .int x3)]) K.1 K.2.1 dX11_together_53 hl (by decide) rfl (fun ls hl => ?_)
            refine lv_iload K.1 K.2.1 dX11_together_55 (lv_at hl 0 rfl) ?_
            refine lv_if_eq (tgt := 63) K.1 K.2.1 dX11_together_57 (by decide) (fun h17 => ?_) (fun h17 => ?_)
            · rw [if_pos h17] at hf
              refine lv_aload_n K.1 K.2.1 dX11_together_63 rfl (lv_at hl 1 rfl) ?_
              obtain ⟨v18, ev18, hf⟩ := Option.bind_eq_some_iff.mp hf
              obtain ⟨q19, eq19⟩ := ah_this ev18
              refine ah_callV (As := []) (rest := []) K hG hL hl.1 eq19 rfl (ctX11_begins l H0 D ca M z a0 v18 ev18) hdX11_begins q_1091 q_1093 q_54 q_1094 q_33 ⟨Nat.le_of_ble_eq_true rfl, Nat.le_of_ble_eq_true rfl⟩ rfl rfl (Nat.le_of_ble_eq_true rfl) ⟨Nat.le_refl _, Nat.le_refl _⟩ dX11_together_64 (fun H locs hG hL => ?_)
              refine lv_iconst (v := 0) K.1 K.2.1 dX11_together_67 (by decide) ?_
              refine lv_istore (lv' := [(5, .int 0), (4, .int v15), (0, .ref a0), (1, .int x1), (2, .int x2), (3, .int x3)]) K.1 K.2.1 dX11_together_68 hl (by decide) rfl (fun ls hl => ?_)
              refine lv_iconst (v := 0) K.1 K.2.1 dX11_together_70 (by decide) ?_
              refine lv_istore (lv' := [(6, .int 0), (5, .int 0), (4, .int v15), (0, .ref a0), (1, .int x1), (2, .int x2), (3, .int x3)]) K.1 K.2.1 dX11_together_71 hl (by decide) rfl (fun ls hl => ?_)
              exact wX11_together_73 K  ah_fu v18 a0 x1 x2 x3 0 0 _ _ _ hG hL (lv_sub hl [3, 4, 5, 6, 1, 0] rfl) _ hf
            · rw [if_neg h17] at hf
              refine lv_iload K.1 K.2.1 dX11_together_60 (lv_at hl 0 rfl) ?_
              have hf := Option.some.inj hf
              subst hf
              exact ah_iret K hG hL (Nat.le_refl _) (Nat.le_refl _) dX11_together_62
          · rw [if_neg h14] at hf
            refine lv_bipush (v := (-3)) K.1 K.2.1 dX11_together_45 (by decide) ?_
            have hf := Option.some.inj hf
            subst hf
            exact ah_iret K hG hL (Nat.le_refl _) (Nat.le_refl _) dX11_together_47
        · rw [if_pos h9] at hf
          refine lv_iconst (v := (-1)) K.1 K.2.1 dX11_together_28 (by decide) ?_
          have hf := Option.some.inj hf
          subst hf
          exact ah_iret K hG hL (Nat.le_refl _) (Nat.le_refl _) dX11_together_29
def fX11_moved_77  (k34 : ah_h → Nat → Int32 → Int32 → Int32 → Int32 → Option (Int32 × ah_h))  (M : ah_h) (a0 : Nat) (x1 : Int32) (x2 : Int32) (x5 : Int32) (s0 : Int32) (s1 : Int32) : Option (Int32 × ah_h) := k34 M a0 x1 x2 (s0 + s1) (x5 + 1)
set_option maxRecDepth 100000 in
set_option maxHeartbeats 4000000 in
theorem wX11_moved_77 {p : Program} {l : Launch} {e : Env} {s : State} {m : MethodId} {args : Array Value} {below : List Frame} {meth : Method} {c : Code} {D : va_G} {ca : Nat → ClassId} {H0 : Heap} {z : Nat} (K : ah_K p s m args meth c D ca "ShipsThatMeetModel" cX11_moved 6 (some .int))  (k34 : ah_h → Nat → Int32 → Int32 → Int32 → Int32 → Option (Int32 × ah_h)) (hk34 : ∀ (M : ah_h) (a0 : Nat) (x1 : Int32) (x2 : Int32) (x4 : Int32) (x5 : Int32)  (H : Heap) (locs : List Loc) (ls : Array Slot), ah_g H0 D ca M z H → ah_L H0 locs → lv_has ls 6 [(0, .ref a0), (1, .int x1), (2, .int x2), (4, .int x4), (5, .int x5)] → ∀ Z, k34 M a0 x1 x2 x4 x5 = some Z → W p l e { frames := 6, cells := 0, slots := 0, locals := 138 } s m args below meth c H locs 0 0 (ah_Q below args s H0 D ca 0 0 (some (.int Z.1)) Z.2 z) (F0 m 34 ls [])) : ∀ (M : ah_h) (a0 : Nat) (x1 : Int32) (x2 : Int32) (x5 : Int32) (s0 : Int32) (s1 : Int32)  (H : Heap) (locs : List Loc) (ls : Array Slot), ah_g H0 D ca M z H → ah_L H0 locs → lv_has ls 6 [(0, .ref a0), (1, .int x1), (2, .int x2), (5, .int x5)] → ∀ Z, fX11_moved_77  k34  M a0 x1 x2 x5 s0 s1 = some Z → W p l e { frames := 6, cells := 0, slots := 0, locals := 138 } s m args below meth c H locs 0 0 (ah_Q below args s H0 D ca 0 0 (some (.int Z.1)) Z.2 z) (F0 m 77 ls [.int s1, .int s0]) := by
  intro M a0 x1 x2 x5 s0 s1 H locs ls hG hL hl Z hf
  unfold fX11_moved_77 at hf
  refine lv_iadd K.1 K.2.1 dX11_moved_77 ?_
  refine lv_istore (lv' := [(4, .int (s0 + s1)), (0, .ref a0), (1, .int x1), (2, .int x2), (5, .int x5)]) K.1 K.2.1 dX11_moved_78 hl (by decide) rfl (fun ls hl => ?_)
  refine lv_iinc (v := x5 + 1) (lv' := [(5, .int (x5 + 1)), (4, .int (s0 + s1)), (0, .ref a0), (1, .int x1), (2, .int x2)]) K.1 K.2.1 dX11_moved_80 hl (k := 4) rfl rfl (by decide) rfl (fun ls hl => ?_)
  refine lv_goto (tgt := 34) K.1 K.2.1 dX11_moved_83 (by decide) ?_
  exact hk34 M a0 x1 x2 (s0 + s1) (x5 + 1) _ _ _ hG hL (lv_sub hl [2, 3, 4, 1, 0] rfl) _ hf
def fX11_moved_76  (k34 : ah_h → Nat → Int32 → Int32 → Int32 → Int32 → Option (Int32 × ah_h))  (M : ah_h) (a0 : Nat) (x1 : Int32) (x2 : Int32) (x5 : Int32) (s0 : Int32) : Option (Int32 × ah_h) := fX11_moved_77 k34 M a0 x1 x2 x5 s0 0
set_option maxRecDepth 100000 in
set_option maxHeartbeats 4000000 in
theorem wX11_moved_76 {p : Program} {l : Launch} {e : Env} {s : State} {m : MethodId} {args : Array Value} {below : List Frame} {meth : Method} {c : Code} {D : va_G} {ca : Nat → ClassId} {H0 : Heap} {z : Nat} (K : ah_K p s m args meth c D ca "ShipsThatMeetModel" cX11_moved 6 (some .int))  (k34 : ah_h → Nat → Int32 → Int32 → Int32 → Int32 → Option (Int32 × ah_h)) (hk34 : ∀ (M : ah_h) (a0 : Nat) (x1 : Int32) (x2 : Int32) (x4 : Int32) (x5 : Int32)  (H : Heap) (locs : List Loc) (ls : Array Slot), ah_g H0 D ca M z H → ah_L H0 locs → lv_has ls 6 [(0, .ref a0), (1, .int x1), (2, .int x2), (4, .int x4), (5, .int x5)] → ∀ Z, k34 M a0 x1 x2 x4 x5 = some Z → W p l e { frames := 6, cells := 0, slots := 0, locals := 138 } s m args below meth c H locs 0 0 (ah_Q below args s H0 D ca 0 0 (some (.int Z.1)) Z.2 z) (F0 m 34 ls [])) : ∀ (M : ah_h) (a0 : Nat) (x1 : Int32) (x2 : Int32) (x5 : Int32) (s0 : Int32)  (H : Heap) (locs : List Loc) (ls : Array Slot), ah_g H0 D ca M z H → ah_L H0 locs → lv_has ls 6 [(0, .ref a0), (1, .int x1), (2, .int x2), (5, .int x5)] → ∀ Z, fX11_moved_76  k34  M a0 x1 x2 x5 s0 = some Z → W p l e { frames := 6, cells := 0, slots := 0, locals := 138 } s m args below meth c H locs 0 0 (ah_Q below args s H0 D ca 0 0 (some (.int Z.1)) Z.2 z) (F0 m 76 ls [.int s0]) := by
  intro M a0 x1 x2 x5 s0 H locs ls hG hL hl Z hf
  unfold fX11_moved_76 at hf
  refine lv_iconst (v := 0) K.1 K.2.1 dX11_moved_76 (by decide) ?_
  exact wX11_moved_77 K k34 hk34 M a0 x1 x2 x5 s0 0 _ _ _ hG hL (lv_sub hl [0, 1, 2, 3] rfl) _ hf
def fX11_moved_72  (k34 : ah_h → Nat → Int32 → Int32 → Int32 → Int32 → Option (Int32 × ah_h))  (M : ah_h) (a0 : Nat) (x1 : Int32) (x2 : Int32) (x5 : Int32) (s0 : Int32) : Option (Int32 × ah_h) := fX11_moved_77 k34 M a0 x1 x2 x5 s0 1
set_option maxRecDepth 100000 in
set_option maxHeartbeats 4000000 in
theorem wX11_moved_72 {p : Program} {l : Launch} {e : Env} {s : State} {m : MethodId} {args : Array Value} {below : List Frame} {meth : Method} {c : Code} {D : va_G} {ca : Nat → ClassId} {H0 : Heap} {z : Nat} (K : ah_K p s m args meth c D ca "ShipsThatMeetModel" cX11_moved 6 (some .int))  (k34 : ah_h → Nat → Int32 → Int32 → Int32 → Int32 → Option (Int32 × ah_h)) (hk34 : ∀ (M : ah_h) (a0 : Nat) (x1 : Int32) (x2 : Int32) (x4 : Int32) (x5 : Int32)  (H : Heap) (locs : List Loc) (ls : Array Slot), ah_g H0 D ca M z H → ah_L H0 locs → lv_has ls 6 [(0, .ref a0), (1, .int x1), (2, .int x2), (4, .int x4), (5, .int x5)] → ∀ Z, k34 M a0 x1 x2 x4 x5 = some Z → W p l e { frames := 6, cells := 0, slots := 0, locals := 138 } s m args below meth c H locs 0 0 (ah_Q below args s H0 D ca 0 0 (some (.int Z.1)) Z.2 z) (F0 m 34 ls [])) : ∀ (M : ah_h) (a0 : Nat) (x1 : Int32) (x2 : Int32) (x5 : Int32) (s0 : Int32)  (H : Heap) (locs : List Loc) (ls : Array Slot), ah_g H0 D ca M z H → ah_L H0 locs → lv_has ls 6 [(0, .ref a0), (1, .int x1), (2, .int x2), (5, .int x5)] → ∀ Z, fX11_moved_72  k34  M a0 x1 x2 x5 s0 = some Z → W p l e { frames := 6, cells := 0, slots := 0, locals := 138 } s m args below meth c H locs 0 0 (ah_Q below args s H0 D ca 0 0 (some (.int Z.1)) Z.2 z) (F0 m 72 ls [.int s0]) := by
  intro M a0 x1 x2 x5 s0 H locs ls hG hL hl Z hf
  unfold fX11_moved_72 at hf
  refine lv_iconst (v := 1) K.1 K.2.1 dX11_moved_72 (by decide) ?_
  refine lv_goto (tgt := 77) K.1 K.2.1 dX11_moved_73 (by decide) ?_
  exact wX11_moved_77 K k34 hk34 M a0 x1 x2 x5 s0 1 _ _ _ hG hL (lv_sub hl [0, 1, 2, 3] rfl) _ hf
def fX11_moved_34_b   (k34 : ah_h → Nat → Int32 → Int32 → Int32 → Int32 → Option (Int32 × ah_h))  (M : ah_h) (a0 : Nat) (x1 : Int32) (x2 : Int32) (x4 : Int32) (x5 : Int32) : Option (Int32 × ah_h) := (fX11_meetings M a0 x2).bind fun v1 => if v1 ≤ x5 then ((fX11_ends M a0).bind fun v4 => some (x4, v4)) else ((fX11_meetsTold M a0 x2 x5).bind fun v6 => if v6.1 = 0 then (fX11_moved_76 k34 v6.2 a0 x1 x2 x5 x4) else ((ah_gi v6.2 a0 11 12).bind fun v9 => if v9 = x1 then (fX11_moved_72 k34 v6.2 a0 x1 x2 x5 x4) else ((ah_gi v6.2 a0 11 13).bind fun v11 => if v11 = x1 then (fX11_moved_72 k34 v6.2 a0 x1 x2 x5 x4) else (fX11_moved_76 k34 v6.2 a0 x1 x2 x5 x4))))
def fX11_moved_34    : Nat → ah_h → Nat → Int32 → Int32 → Int32 → Int32 → Option (Int32 × ah_h)
  | 0 => fun _ _ _ _ _ _ => none
  | n + 1 => fun M a0 x1 x2 x4 x5 => fX11_moved_34_b   (fX11_moved_34    n)  M a0 x1 x2 x4 x5
set_option maxRecDepth 100000 in
set_option maxHeartbeats 4000000 in
theorem wX11_moved_34_b {p : Program} {l : Launch} {e : Env} {s : State} {m : MethodId} {args : Array Value} {below : List Frame} {meth : Method} {c : Code} {D : va_G} {ca : Nat → ClassId} {H0 : Heap} {z : Nat} (K : ah_K p s m args meth c D ca "ShipsThatMeetModel" cX11_moved 6 (some .int))   (k34 : ah_h → Nat → Int32 → Int32 → Int32 → Int32 → Option (Int32 × ah_h)) (hk34 : ∀ (M : ah_h) (a0 : Nat) (x1 : Int32) (x2 : Int32) (x4 : Int32) (x5 : Int32)  (H : Heap) (locs : List Loc) (ls : Array Slot), ah_g H0 D ca M z H → ah_L H0 locs → lv_has ls 6 [(0, .ref a0), (1, .int x1), (2, .int x2), (4, .int x4), (5, .int x5)] → ∀ Z, k34 M a0 x1 x2 x4 x5 = some Z → W p l e { frames := 6, cells := 0, slots := 0, locals := 138 } s m args below meth c H locs 0 0 (ah_Q below args s H0 D ca 0 0 (some (.int Z.1)) Z.2 z) (F0 m 34 ls [])) : ∀ (M : ah_h) (a0 : Nat) (x1 : Int32) (x2 : Int32) (x4 : Int32) (x5 : Int32)  (H : Heap) (locs : List Loc) (ls : Array Slot), ah_g H0 D ca M z H → ah_L H0 locs → lv_has ls 6 [(0, .ref a0), (1, .int x1), (2, .int x2), (4, .int x4), (5, .int x5)] → ∀ Z, fX11_moved_34_b   k34  M a0 x1 x2 x4 x5 = some Z → W p l e { frames := 6, cells := 0, slots := 0, locals := 138 } s m args below meth c H locs 0 0 (ah_Q below args s H0 D ca 0 0 (some (.int Z.1)) Z.2 z) (F0 m 34 ls []) := by
  intro M a0 x1 x2 x4 x5 H locs ls hG hL hl Z hf
  unfold fX11_moved_34_b at hf
  refine lv_iload K.1 K.2.1 dX11_moved_34 (lv_at hl 4 rfl) ?_
  refine lv_aload_n K.1 K.2.1 dX11_moved_36 rfl (lv_at hl 0 rfl) ?_
  refine lv_iload_n K.1 K.2.1 dX11_moved_37 rfl (lv_at hl 2 rfl) ?_
  obtain ⟨v1, ev1, hf⟩ := Option.bind_eq_some_iff.mp hf
  obtain ⟨q2, eq2⟩ := ah_this ev1
  refine ah_callV (As := [.int x2]) (rest := [.int x5]) K hG hL hl.1 eq2 rfl (ctX11_meetings l H0 D ca M z a0 x2 v1 ev1) hdX11_meetings q_1095 q_1097 q_54 q_1098 q_34 ⟨Nat.le_of_ble_eq_true rfl, Nat.le_of_ble_eq_true rfl⟩ rfl rfl (Nat.le_of_ble_eq_true rfl) ⟨Nat.le_refl _, Nat.le_refl _⟩ dX11_moved_38 (fun H locs hG hL => ?_)
  refine lv_icmp_ge (tgt := 86) K.1 K.2.1 dX11_moved_41 (by decide) (fun h3 => ?_) (fun h3 => ?_)
  · rw [if_pos h3] at hf
    refine lv_aload_n K.1 K.2.1 dX11_moved_86 rfl (lv_at hl 0 rfl) ?_
    obtain ⟨v4, ev4, hf⟩ := Option.bind_eq_some_iff.mp hf
    obtain ⟨q5, eq5⟩ := ah_this ev4
    refine ah_callV (As := []) (rest := []) K hG hL hl.1 eq5 rfl (ctX11_ends l H0 D ca M z a0 v4 ev4) hdX11_ends q_1111 q_1113 q_54 q_1114 q_38 ⟨Nat.le_of_ble_eq_true rfl, Nat.le_of_ble_eq_true rfl⟩ rfl rfl (Nat.le_of_ble_eq_true rfl) ⟨Nat.le_refl _, Nat.le_refl _⟩ dX11_moved_87 (fun H locs hG hL => ?_)
    refine lv_iload K.1 K.2.1 dX11_moved_90 (lv_at hl 3 rfl) ?_
    have hf := Option.some.inj hf
    subst hf
    exact ah_iret K hG hL (Nat.le_refl _) (Nat.le_refl _) dX11_moved_92
  · rw [if_neg h3] at hf
    refine lv_iload K.1 K.2.1 dX11_moved_44 (lv_at hl 3 rfl) ?_
    refine lv_aload_n K.1 K.2.1 dX11_moved_46 rfl (lv_at hl 0 rfl) ?_
    refine lv_iload_n K.1 K.2.1 dX11_moved_47 rfl (lv_at hl 2 rfl) ?_
    refine lv_iload K.1 K.2.1 dX11_moved_48 (lv_at hl 4 rfl) ?_
    obtain ⟨v6, ev6, hf⟩ := Option.bind_eq_some_iff.mp hf
    obtain ⟨q7, eq7⟩ := ah_this ev6
    refine ah_callV (As := [.int x2, .int x5]) (rest := [.int x4]) K hG hL hl.1 eq7 rfl (ctX11_meetsTold l H0 D ca M z a0 x2 x5 v6 ev6) hdX11_meetsTold q_1099 q_1101 q_54 q_1102 q_35 ⟨Nat.le_of_ble_eq_true rfl, Nat.le_of_ble_eq_true rfl⟩ rfl rfl (Nat.le_of_ble_eq_true rfl) ⟨Nat.le_refl _, Nat.le_refl _⟩ dX11_moved_50 (fun H locs hG hL => ?_)
    refine lv_if_eq (tgt := 76) K.1 K.2.1 dX11_moved_53 (by decide) (fun h8 => ?_) (fun h8 => ?_)
    · rw [if_pos h8] at hf
      exact wX11_moved_76 K k34 hk34 v6.2 a0 x1 x2 x5 x4 _ _ _ hG hL (lv_sub hl [0, 1, 2, 4] rfl) _ hf
    · rw [if_neg h8] at hf
      refine lv_aload_n K.1 K.2.1 dX11_moved_56 rfl (lv_at hl 0 rfl) ?_
      obtain ⟨v9, ev9, hf⟩ := Option.bind_eq_some_iff.mp hf
      refine ah_geti K hG ev9 ffX11_111_11 dX11_moved_57 ?_
      refine lv_iload_n K.1 K.2.1 dX11_moved_60 rfl (lv_at hl 1 rfl) ?_
      refine lv_icmp_eq (tgt := 72) K.1 K.2.1 dX11_moved_61 (by decide) (fun h10 => ?_) (fun h10 => ?_)
      · rw [if_pos h10] at hf
        exact wX11_moved_72 K k34 hk34 v6.2 a0 x1 x2 x5 x4 _ _ _ hG hL (lv_sub hl [0, 1, 2, 4] rfl) _ hf
      · rw [if_neg h10] at hf
        refine lv_aload_n K.1 K.2.1 dX11_moved_64 rfl (lv_at hl 0 rfl) ?_
        obtain ⟨v11, ev11, hf⟩ := Option.bind_eq_some_iff.mp hf
        refine ah_geti K hG ev11 ffX11_114_11 dX11_moved_65 ?_
        refine lv_iload_n K.1 K.2.1 dX11_moved_68 rfl (lv_at hl 1 rfl) ?_
        refine lv_icmp_ne (tgt := 76) K.1 K.2.1 dX11_moved_69 (by decide) (fun h12 => ?_) (fun h12 => ?_)
        · rw [if_neg h12] at hf
          exact wX11_moved_76 K k34 hk34 v6.2 a0 x1 x2 x5 x4 _ _ _ hG hL (lv_sub hl [0, 1, 2, 4] rfl) _ hf
        · rw [if_pos h12] at hf
          exact wX11_moved_72 K k34 hk34 v6.2 a0 x1 x2 x5 x4 _ _ _ hG hL (lv_sub hl [0, 1, 2, 4] rfl) _ hf
theorem wX11_moved_34 {p : Program} {l : Launch} {e : Env} {s : State} {m : MethodId} {args : Array Value} {below : List Frame} {meth : Method} {c : Code} {D : va_G} {ca : Nat → ClassId} {H0 : Heap} {z : Nat} (K : ah_K p s m args meth c D ca "ShipsThatMeetModel" cX11_moved 6 (some .int))   (n : Nat) : ∀ (M : ah_h) (a0 : Nat) (x1 : Int32) (x2 : Int32) (x4 : Int32) (x5 : Int32)  (H : Heap) (locs : List Loc) (ls : Array Slot), ah_g H0 D ca M z H → ah_L H0 locs → lv_has ls 6 [(0, .ref a0), (1, .int x1), (2, .int x2), (4, .int x4), (5, .int x5)] → ∀ Z, fX11_moved_34    n M a0 x1 x2 x4 x5 = some Z → W p l e { frames := 6, cells := 0, slots := 0, locals := 138 } s m args below meth c H locs 0 0 (ah_Q below args s H0 D ca 0 0 (some (.int Z.1)) Z.2 z) (F0 m 34 ls []) := by
  induction n with
  | zero => intro M a0 x1 x2 x4 x5 H locs ls hG hL hl Z hf; cases hf
  | succ n ih => exact wX11_moved_34_b K  _ ih
def fX11_moved_17    (M : ah_h) (a0 : Nat) (x1 : Int32) (x2 : Int32) (s0 : Int32) : Option (Int32 × ah_h) := if s0 = 0 then ((fX11_begins M a0).bind fun v2 => fX11_moved_34 ah_fu v2 a0 x1 x2 0 0) else (some (s0, M))
set_option maxRecDepth 100000 in
set_option maxHeartbeats 4000000 in
theorem wX11_moved_17 {p : Program} {l : Launch} {e : Env} {s : State} {m : MethodId} {args : Array Value} {below : List Frame} {meth : Method} {c : Code} {D : va_G} {ca : Nat → ClassId} {H0 : Heap} {z : Nat} (K : ah_K p s m args meth c D ca "ShipsThatMeetModel" cX11_moved 6 (some .int))   : ∀ (M : ah_h) (a0 : Nat) (x1 : Int32) (x2 : Int32) (s0 : Int32)  (H : Heap) (locs : List Loc) (ls : Array Slot), ah_g H0 D ca M z H → ah_L H0 locs → lv_has ls 6 [(0, .ref a0), (1, .int x1), (2, .int x2)] → ∀ Z, fX11_moved_17    M a0 x1 x2 s0 = some Z → W p l e { frames := 6, cells := 0, slots := 0, locals := 138 } s m args below meth c H locs 0 0 (ah_Q below args s H0 D ca 0 0 (some (.int Z.1)) Z.2 z) (F0 m 17 ls [.int s0]) := by
  intro M a0 x1 x2 s0 H locs ls hG hL hl Z hf
  unfold fX11_moved_17 at hf
  refine lv_istore_n (lv' := [(3, .int s0), (0, .ref a0), (1, .int x1), (2, .int x2)]) K.1 K.2.1 dX11_moved_17 rfl hl (by decide) rfl (fun ls hl => ?_)
  refine lv_iload_n K.1 K.2.1 dX11_moved_18 rfl (lv_at hl 0 rfl) ?_
  refine lv_if_eq (tgt := 24) K.1 K.2.1 dX11_moved_19 (by decide) (fun h1 => ?_) (fun h1 => ?_)
  · rw [if_pos h1] at hf
    refine lv_aload_n K.1 K.2.1 dX11_moved_24 rfl (lv_at hl 1 rfl) ?_
    obtain ⟨v2, ev2, hf⟩ := Option.bind_eq_some_iff.mp hf
    obtain ⟨q3, eq3⟩ := ah_this ev2
    refine ah_callV (As := []) (rest := []) K hG hL hl.1 eq3 rfl (ctX11_begins l H0 D ca M z a0 v2 ev2) hdX11_begins q_1091 q_1093 q_54 q_1094 q_33 ⟨Nat.le_of_ble_eq_true rfl, Nat.le_of_ble_eq_true rfl⟩ rfl rfl (Nat.le_of_ble_eq_true rfl) ⟨Nat.le_refl _, Nat.le_refl _⟩ dX11_moved_25 (fun H locs hG hL => ?_)
    refine lv_iconst (v := 0) K.1 K.2.1 dX11_moved_28 (by decide) ?_
    refine lv_istore (lv' := [(4, .int 0), (3, .int s0), (0, .ref a0), (1, .int x1), (2, .int x2)]) K.1 K.2.1 dX11_moved_29 hl (by decide) rfl (fun ls hl => ?_)
    refine lv_iconst (v := 0) K.1 K.2.1 dX11_moved_31 (by decide) ?_
    refine lv_istore (lv' := [(5, .int 0), (4, .int 0), (3, .int s0), (0, .ref a0), (1, .int x1), (2, .int x2)]) K.1 K.2.1 dX11_moved_32 hl (by decide) rfl (fun ls hl => ?_)
    exact wX11_moved_34 K  ah_fu v2 a0 x1 x2 0 0 _ _ _ hG hL (lv_sub hl [3, 4, 5, 1, 0] rfl) _ hf
  · rw [if_neg h1] at hf
    refine lv_iload_n K.1 K.2.1 dX11_moved_22 rfl (lv_at hl 0 rfl) ?_
    have hf := Option.some.inj hf
    subst hf
    exact ah_iret K hG hL (Nat.le_refl _) (Nat.le_refl _) dX11_moved_23
def fX11_moved (M : ah_h) (a0 : Nat) (x1 : Int32) (x2 : Int32) : Option (Int32 × ah_h) := (ah_ob M a0 11).bind fun _ => (fX11_isMan M a0 x1).bind fun v1 => if v1 = 0 then (fX11_moved_17 M a0 x1 x2 (-1)) else ((fX11_wrongMeetings M a0 x2).bind fun v4 => fX11_moved_17 M a0 x1 x2 v4)
set_option maxRecDepth 100000 in
set_option maxHeartbeats 4000000 in
theorem ctX11_moved (l : Launch) (H0 : Heap) (D : va_G) (ca : Nat → ClassId) (M : ah_h) (z : Nat) (a0 : Nat) (x1 : Int32) (x2 : Int32) (Z : Int32 × ah_h) (hf : fX11_moved M a0 x1 x2 = some Z) : ah_ct l H0 D ca yX11_moved cX11_moved 6 (some .int) 6 138 0 0 [.ref a0, .int x1, .int x2] M z (some (.int Z.1)) Z.2 z := by
  refine ah_of (by decide) (Nat.le_of_ble_eq_true rfl) ?_
  intro p e s m below meth c ls hin K hG hl
  have hL : ah_L H0 [] := ah_L.nil
  have hl : lv_has ls 6 [(0, .ref a0), (1, .int x1), (2, .int x2)] := hl
  unfold fX11_moved at hf
  obtain ⟨-, -, hf⟩ := Option.bind_eq_some_iff.mp hf
  refine lv_aload_n K.1 K.2.1 dX11_moved_0 rfl (lv_at hl 0 rfl) ?_
  refine lv_iload_n K.1 K.2.1 dX11_moved_1 rfl (lv_at hl 1 rfl) ?_
  obtain ⟨v1, ev1, hf⟩ := Option.bind_eq_some_iff.mp hf
  obtain ⟨q2, eq2⟩ := ah_this ev1
  refine ah_callV (As := [.int x1]) (rest := []) K hG hL hl.1 eq2 rfl (ctX11_isMan l H0 D ca M z a0 x1 v1 ev1) hdX11_isMan q_1066 q_1068 q_54 q_1069 q_30 ⟨Nat.le_of_ble_eq_true rfl, Nat.le_of_ble_eq_true rfl⟩ rfl rfl (Nat.le_of_ble_eq_true rfl) ⟨Nat.le_refl _, Nat.le_refl _⟩ dX11_moved_2 (fun H locs hG hL => ?_)
  refine lv_if_eq (tgt := 16) K.1 K.2.1 dX11_moved_5 (by decide) (fun h3 => ?_) (fun h3 => ?_)
  · rw [if_pos h3] at hf
    refine lv_iconst (v := (-1)) K.1 K.2.1 dX11_moved_16 (by decide) ?_
    exact wX11_moved_17 K  M a0 x1 x2 (-1) _ _ _ hG hL (lv_sub hl [0, 1, 2] rfl) _ hf
  · rw [if_neg h3] at hf
    refine lv_aload_n K.1 K.2.1 dX11_moved_8 rfl (lv_at hl 0 rfl) ?_
    refine lv_iload_n K.1 K.2.1 dX11_moved_9 rfl (lv_at hl 2 rfl) ?_
    obtain ⟨v4, ev4, hf⟩ := Option.bind_eq_some_iff.mp hf
    obtain ⟨q5, eq5⟩ := ah_this ev4
    refine ah_callV (As := [.int x2]) (rest := []) K hG hL hl.1 eq5 rfl (ctX11_wrongMeetings l H0 D ca M z a0 x2 v4 ev4) hdX11_wrongMeetings q_1087 q_1089 q_54 q_1090 q_32 ⟨Nat.le_of_ble_eq_true rfl, Nat.le_of_ble_eq_true rfl⟩ rfl rfl (Nat.le_of_ble_eq_true rfl) ⟨Nat.le_refl _, Nat.le_refl _⟩ dX11_moved_10 (fun H locs hG hL => ?_)
    refine lv_goto (tgt := 17) K.1 K.2.1 dX11_moved_13 (by decide) ?_
    exact wX11_moved_17 K  M a0 x1 x2 v4 _ _ _ hG hL (lv_sub hl [0, 1, 2] rfl) _ hf
def fX11_drawn (M : ah_h) (a0 : Nat) (x1 : Int32) : Option (Int32 × ah_h) := (ah_ob M a0 11).bind fun _ => (ah_gi M a0 11 23).bind fun v1 => (ah_pf M a0 11 23 (.int ((v1 * 1103515245) + 12345))).bind fun M2 => (ah_gi M2 a0 11 23).bind fun v3 => if x1 = 0 then none else some (((v3 &&& 2147483647) / 65536) - ((v3 &&& 2147483647) / 65536) / x1 * x1, M2)
set_option maxRecDepth 100000 in
set_option maxHeartbeats 4000000 in
theorem ctX11_drawn (l : Launch) (H0 : Heap) (D : va_G) (ca : Nat → ClassId) (M : ah_h) (z : Nat) (a0 : Nat) (x1 : Int32) (Z : Int32 × ah_h) (hf : fX11_drawn M a0 x1 = some Z) : ah_ct l H0 D ca yX11_drawn cX11_drawn 2 (some .int) 0 0 0 0 [.ref a0, .int x1] M z (some (.int Z.1)) Z.2 z := by
  refine ah_of (by decide) (Nat.le_of_ble_eq_true rfl) ?_
  intro p e s m below meth c ls hin K hG hl
  have hL : ah_L H0 [] := ah_L.nil
  have hl : lv_has ls 2 [(0, .ref a0), (1, .int x1)] := hl
  unfold fX11_drawn at hf
  obtain ⟨-, -, hf⟩ := Option.bind_eq_some_iff.mp hf
  refine lv_aload_n K.1 K.2.1 dX11_drawn_0 rfl (lv_at hl 0 rfl) ?_
  refine lv_aload_n K.1 K.2.1 dX11_drawn_1 rfl (lv_at hl 0 rfl) ?_
  obtain ⟨v1, ev1, hf⟩ := Option.bind_eq_some_iff.mp hf
  refine ah_geti K hG ev1 ffX11_226_11 dX11_drawn_2 ?_
  refine W.ldc (v := 1103515245) K.1 K.2.1 K.2.2.2.1 (K.2.2.2.2.1 _ q_1217) rfl dX11_drawn_5 ?_
  refine lv_imul K.1 K.2.1 dX11_drawn_7 ?_
  refine lv_sipush (v := 12345) K.1 K.2.1 dX11_drawn_8 (by decide) ?_
  refine lv_iadd K.1 K.2.1 dX11_drawn_11 ?_
  obtain ⟨M2, eM2, hf⟩ := Option.bind_eq_some_iff.mp hf
  refine ah_put K hG hL eM2 fwX11_226_11 rfl rfl dX11_drawn_12 (fun H locs hG hL => ?_)
  refine lv_aload_n K.1 K.2.1 dX11_drawn_15 rfl (lv_at hl 0 rfl) ?_
  obtain ⟨v3, ev3, hf⟩ := Option.bind_eq_some_iff.mp hf
  refine ah_geti K hG ev3 ffX11_226_11 dX11_drawn_16 ?_
  refine W.ldc (v := 2147483647) K.1 K.2.1 K.2.2.2.1 (K.2.2.2.2.1 _ q_1218) rfl dX11_drawn_19 ?_
  refine lv_iand K.1 K.2.1 dX11_drawn_21 ?_
  refine W.ldc (v := 65536) K.1 K.2.1 K.2.2.2.1 (K.2.2.2.2.1 _ q_1219) rfl dX11_drawn_22 ?_
  refine lv_idiv K.1 K.2.1 dX11_drawn_24 (by decide) ?_
  refine lv_iload_n K.1 K.2.1 dX11_drawn_25 rfl (lv_at hl 1 rfl) ?_
  by_cases h5 : x1 = 0
  · rw [if_pos h5] at hf; cases hf
  rw [if_neg h5] at hf
  refine lv_irem K.1 K.2.1 dX11_drawn_26 h5 ?_
  have hf := Option.some.inj hf
  subst hf
  exact ah_iret K hG hL (Nat.le_refl _) (Nat.le_refl _) dX11_drawn_27
def fX11_seeded_83  (k34 : ah_h → Nat → Int32 → Int32 → Int32 → Option (Int32 × ah_h))  (M : ah_h) (a0 : Nat) (x1 : Int32) (x2 : Int32) (x4 : Int32) : Option (Int32 × ah_h) := k34 M a0 x1 x2 (x4 + 1)
set_option maxRecDepth 100000 in
set_option maxHeartbeats 4000000 in
theorem wX11_seeded_83 {p : Program} {l : Launch} {e : Env} {s : State} {m : MethodId} {args : Array Value} {below : List Frame} {meth : Method} {c : Code} {D : va_G} {ca : Nat → ClassId} {H0 : Heap} {z : Nat} (K : ah_K p s m args meth c D ca "ShipsThatMeetModel" cX11_seeded 7 (some .int))  (k34 : ah_h → Nat → Int32 → Int32 → Int32 → Option (Int32 × ah_h)) (hk34 : ∀ (M : ah_h) (a0 : Nat) (x1 : Int32) (x2 : Int32) (x4 : Int32)  (H : Heap) (locs : List Loc) (ls : Array Slot), ah_g H0 D ca M z H → ah_L H0 locs → lv_has ls 7 [(0, .ref a0), (1, .int x1), (2, .int x2), (4, .int x4)] → ∀ Z, k34 M a0 x1 x2 x4 = some Z → W p l e { frames := 5, cells := 0, slots := 0, locals := 116 } s m args below meth c H locs 0 0 (ah_Q below args s H0 D ca 0 0 (some (.int Z.1)) Z.2 z) (F0 m 34 ls [])) : ∀ (M : ah_h) (a0 : Nat) (x1 : Int32) (x2 : Int32) (x4 : Int32)  (H : Heap) (locs : List Loc) (ls : Array Slot), ah_g H0 D ca M z H → ah_L H0 locs → lv_has ls 7 [(0, .ref a0), (1, .int x1), (2, .int x2), (4, .int x4)] → ∀ Z, fX11_seeded_83  k34  M a0 x1 x2 x4 = some Z → W p l e { frames := 5, cells := 0, slots := 0, locals := 116 } s m args below meth c H locs 0 0 (ah_Q below args s H0 D ca 0 0 (some (.int Z.1)) Z.2 z) (F0 m 83 ls []) := by
  intro M a0 x1 x2 x4 H locs ls hG hL hl Z hf
  unfold fX11_seeded_83 at hf
  refine lv_iinc (v := x4 + 1) (lv' := [(4, .int (x4 + 1)), (0, .ref a0), (1, .int x1), (2, .int x2)]) K.1 K.2.1 dX11_seeded_83 hl (k := 3) rfl rfl (by decide) rfl (fun ls hl => ?_)
  refine lv_goto (tgt := 34) K.1 K.2.1 dX11_seeded_86 (by decide) ?_
  exact hk34 M a0 x1 x2 (x4 + 1) _ _ _ hG hL (lv_sub hl [1, 2, 3, 0] rfl) _ hf
def fX11_seeded_34_b   (k34 : ah_h → Nat → Int32 → Int32 → Int32 → Option (Int32 × ah_h))  (M : ah_h) (a0 : Nat) (x1 : Int32) (x2 : Int32) (x4 : Int32) : Option (Int32 × ah_h) := if x2 ≤ x4 then ((fX11_get M a0 x1 0).bind fun v2 => (fX11_ends M a0).bind fun v4 => some (v2, v4)) else ((ah_gr M a0 11 0).bind fun v6 => (ah_ai M v6 0).bind fun v7 => (fX11_drawn M a0 v7).bind fun v8 => (ah_gr v8.2 a0 11 0).bind fun v10 => (ah_ai v8.2 v10 0).bind fun v11 => (fX11_drawn v8.2 a0 v11).bind fun v12 => (fX11_mayMeet v12.2 a0 v8.1 v12.1).bind fun v14 => if v14 = 0 then (fX11_seeded_83 k34 v12.2 a0 x1 x2 x4) else ((fX11_meets v12.2 a0 v8.1 v12.1).bind fun v17 => fX11_seeded_83 k34 v17 a0 x1 x2 x4))
def fX11_seeded_34    : Nat → ah_h → Nat → Int32 → Int32 → Int32 → Option (Int32 × ah_h)
  | 0 => fun _ _ _ _ _ => none
  | n + 1 => fun M a0 x1 x2 x4 => fX11_seeded_34_b   (fX11_seeded_34    n)  M a0 x1 x2 x4
set_option maxRecDepth 100000 in
set_option maxHeartbeats 4000000 in
theorem wX11_seeded_34_b {p : Program} {l : Launch} {e : Env} {s : State} {m : MethodId} {args : Array Value} {below : List Frame} {meth : Method} {c : Code} {D : va_G} {ca : Nat → ClassId} {H0 : Heap} {z : Nat} (K : ah_K p s m args meth c D ca "ShipsThatMeetModel" cX11_seeded 7 (some .int))   (k34 : ah_h → Nat → Int32 → Int32 → Int32 → Option (Int32 × ah_h)) (hk34 : ∀ (M : ah_h) (a0 : Nat) (x1 : Int32) (x2 : Int32) (x4 : Int32)  (H : Heap) (locs : List Loc) (ls : Array Slot), ah_g H0 D ca M z H → ah_L H0 locs → lv_has ls 7 [(0, .ref a0), (1, .int x1), (2, .int x2), (4, .int x4)] → ∀ Z, k34 M a0 x1 x2 x4 = some Z → W p l e { frames := 5, cells := 0, slots := 0, locals := 116 } s m args below meth c H locs 0 0 (ah_Q below args s H0 D ca 0 0 (some (.int Z.1)) Z.2 z) (F0 m 34 ls [])) : ∀ (M : ah_h) (a0 : Nat) (x1 : Int32) (x2 : Int32) (x4 : Int32)  (H : Heap) (locs : List Loc) (ls : Array Slot), ah_g H0 D ca M z H → ah_L H0 locs → lv_has ls 7 [(0, .ref a0), (1, .int x1), (2, .int x2), (4, .int x4)] → ∀ Z, fX11_seeded_34_b   k34  M a0 x1 x2 x4 = some Z → W p l e { frames := 5, cells := 0, slots := 0, locals := 116 } s m args below meth c H locs 0 0 (ah_Q below args s H0 D ca 0 0 (some (.int Z.1)) Z.2 z) (F0 m 34 ls []) := by
  intro M a0 x1 x2 x4 H locs ls hG hL hl Z hf
  unfold fX11_seeded_34_b at hf
  refine lv_iload K.1 K.2.1 dX11_seeded_34 (lv_at hl 3 rfl) ?_
  refine lv_iload_n K.1 K.2.1 dX11_seeded_36 rfl (lv_at hl 2 rfl) ?_
  refine lv_icmp_ge (tgt := 89) K.1 K.2.1 dX11_seeded_37 (by decide) (fun h1 => ?_) (fun h1 => ?_)
  · rw [if_pos h1] at hf
    refine lv_aload_n K.1 K.2.1 dX11_seeded_89 rfl (lv_at hl 0 rfl) ?_
    refine lv_iload_n K.1 K.2.1 dX11_seeded_90 rfl (lv_at hl 1 rfl) ?_
    refine lv_iconst (v := 0) K.1 K.2.1 dX11_seeded_91 (by decide) ?_
    obtain ⟨v2, ev2, hf⟩ := Option.bind_eq_some_iff.mp hf
    obtain ⟨q3, eq3⟩ := ah_this ev2
    refine ah_callV (As := [.int x1, .int 0]) (rest := []) K hG hL hl.1 eq3 rfl (ctX11_get l H0 D ca M z a0 x1 0 v2 ev2) hdX11_get q_1012 q_1014 q_54 q_1015 q_20 ⟨Nat.le_of_ble_eq_true rfl, Nat.le_of_ble_eq_true rfl⟩ rfl rfl (Nat.le_of_ble_eq_true rfl) ⟨Nat.le_refl _, Nat.le_refl _⟩ dX11_seeded_92 (fun H locs hG hL => ?_)
    refine lv_istore (lv' := [(4, .int v2), (0, .ref a0), (1, .int x1), (2, .int x2)]) K.1 K.2.1 dX11_seeded_95 hl (by decide) rfl (fun ls hl => ?_)
    refine lv_aload_n K.1 K.2.1 dX11_seeded_97 rfl (lv_at hl 1 rfl) ?_
    obtain ⟨v4, ev4, hf⟩ := Option.bind_eq_some_iff.mp hf
    obtain ⟨q5, eq5⟩ := ah_this ev4
    refine ah_callV (As := []) (rest := []) K hG hL hl.1 eq5 rfl (ctX11_ends l H0 D ca M z a0 v4 ev4) hdX11_ends q_1111 q_1113 q_54 q_1114 q_38 ⟨Nat.le_of_ble_eq_true rfl, Nat.le_of_ble_eq_true rfl⟩ rfl rfl (Nat.le_of_ble_eq_true rfl) ⟨Nat.le_refl _, Nat.le_refl _⟩ dX11_seeded_98 (fun H locs hG hL => ?_)
    refine lv_iload K.1 K.2.1 dX11_seeded_101 (lv_at hl 0 rfl) ?_
    have hf := Option.some.inj hf
    subst hf
    exact ah_iret K hG hL (Nat.le_refl _) (Nat.le_refl _) dX11_seeded_103
  · rw [if_neg h1] at hf
    refine lv_aload_n K.1 K.2.1 dX11_seeded_40 rfl (lv_at hl 0 rfl) ?_
    refine lv_aload_n K.1 K.2.1 dX11_seeded_41 rfl (lv_at hl 0 rfl) ?_
    obtain ⟨v6, ev6, hf⟩ := Option.bind_eq_some_iff.mp hf
    refine ah_getr K hG ev6 ffX11_9_11 dX11_seeded_42 ?_
    refine lv_iconst (v := 0) K.1 K.2.1 dX11_seeded_45 (by decide) ?_
    obtain ⟨v7, ev7, hf⟩ := Option.bind_eq_some_iff.mp hf
    refine ah_iald K hG ev7 dX11_seeded_46 ?_
    obtain ⟨v8, ev8, hf⟩ := Option.bind_eq_some_iff.mp hf
    obtain ⟨q9, eq9⟩ := ah_this ev8
    refine ah_callV (As := [.int v7]) (rest := []) K hG hL hl.1 eq9 rfl (ctX11_drawn l H0 D ca M z a0 v7 v8 ev8) hdX11_drawn q_1213 q_1215 q_54 q_1216 q_47 ⟨Nat.le_of_ble_eq_true rfl, Nat.le_of_ble_eq_true rfl⟩ rfl rfl (Nat.le_of_ble_eq_true rfl) ⟨Nat.le_refl _, Nat.le_refl _⟩ dX11_seeded_47 (fun H locs hG hL => ?_)
    refine lv_istore (lv' := [(5, .int v8.1), (0, .ref a0), (1, .int x1), (2, .int x2), (4, .int x4)]) K.1 K.2.1 dX11_seeded_50 hl (by decide) rfl (fun ls hl => ?_)
    refine lv_aload_n K.1 K.2.1 dX11_seeded_52 rfl (lv_at hl 1 rfl) ?_
    refine lv_aload_n K.1 K.2.1 dX11_seeded_53 rfl (lv_at hl 1 rfl) ?_
    obtain ⟨v10, ev10, hf⟩ := Option.bind_eq_some_iff.mp hf
    refine ah_getr K hG ev10 ffX11_9_11 dX11_seeded_54 ?_
    refine lv_iconst (v := 0) K.1 K.2.1 dX11_seeded_57 (by decide) ?_
    obtain ⟨v11, ev11, hf⟩ := Option.bind_eq_some_iff.mp hf
    refine ah_iald K hG ev11 dX11_seeded_58 ?_
    obtain ⟨v12, ev12, hf⟩ := Option.bind_eq_some_iff.mp hf
    obtain ⟨q13, eq13⟩ := ah_this ev12
    refine ah_callV (As := [.int v11]) (rest := []) K hG hL hl.1 eq13 rfl (ctX11_drawn l H0 D ca v8.2 z a0 v11 v12 ev12) hdX11_drawn q_1213 q_1215 q_54 q_1216 q_47 ⟨Nat.le_of_ble_eq_true rfl, Nat.le_of_ble_eq_true rfl⟩ rfl rfl (Nat.le_of_ble_eq_true rfl) ⟨Nat.le_refl _, Nat.le_refl _⟩ dX11_seeded_59 (fun H locs hG hL => ?_)
    refine lv_istore (lv' := [(6, .int v12.1), (5, .int v8.1), (0, .ref a0), (1, .int x1), (2, .int x2), (4, .int x4)]) K.1 K.2.1 dX11_seeded_62 hl (by decide) rfl (fun ls hl => ?_)
    refine lv_aload_n K.1 K.2.1 dX11_seeded_64 rfl (lv_at hl 2 rfl) ?_
    refine lv_iload K.1 K.2.1 dX11_seeded_65 (lv_at hl 1 rfl) ?_
    refine lv_iload K.1 K.2.1 dX11_seeded_67 (lv_at hl 0 rfl) ?_
    obtain ⟨v14, ev14, hf⟩ := Option.bind_eq_some_iff.mp hf
    obtain ⟨q15, eq15⟩ := ah_this ev14
    refine ah_callV (As := [.int v8.1, .int v12.1]) (rest := []) K hG hL hl.1 eq15 rfl (ctX11_mayMeet l H0 D ca v12.2 z a0 v8.1 v12.1 v14 ev14) hdX11_mayMeet q_1016 q_1018 q_54 q_1019 q_21 ⟨Nat.le_of_ble_eq_true rfl, Nat.le_of_ble_eq_true rfl⟩ rfl rfl (Nat.le_of_ble_eq_true rfl) ⟨Nat.le_refl _, Nat.le_refl _⟩ dX11_seeded_69 (fun H locs hG hL => ?_)
    refine lv_if_eq (tgt := 83) K.1 K.2.1 dX11_seeded_72 (by decide) (fun h16 => ?_) (fun h16 => ?_)
    · rw [if_pos h16] at hf
      exact wX11_seeded_83 K k34 hk34 v12.2 a0 x1 x2 x4 _ _ _ hG hL (lv_sub hl [2, 3, 4, 5] rfl) _ hf
    · rw [if_neg h16] at hf
      refine lv_aload_n K.1 K.2.1 dX11_seeded_75 rfl (lv_at hl 2 rfl) ?_
      refine lv_iload K.1 K.2.1 dX11_seeded_76 (lv_at hl 1 rfl) ?_
      refine lv_iload K.1 K.2.1 dX11_seeded_78 (lv_at hl 0 rfl) ?_
      obtain ⟨v17, ev17, hf⟩ := Option.bind_eq_some_iff.mp hf
      obtain ⟨q18, eq18⟩ := ah_this ev17
      refine ah_callV (As := [.int v8.1, .int v12.1]) (rest := []) K hG hL hl.1 eq18 rfl (ctX11_meets l H0 D ca v12.2 z a0 v8.1 v12.1 v17 ev17) hdX11_meets q_1020 q_1022 q_54 q_1023 q_22 ⟨Nat.le_of_ble_eq_true rfl, Nat.le_of_ble_eq_true rfl⟩ rfl rfl (Nat.le_of_ble_eq_true rfl) ⟨Nat.le_refl _, Nat.le_refl _⟩ dX11_seeded_80 (fun H locs hG hL => ?_)
      exact wX11_seeded_83 K k34 hk34 v17 a0 x1 x2 x4 _ _ _ hG hL (lv_sub hl [2, 3, 4, 5] rfl) _ hf
theorem wX11_seeded_34 {p : Program} {l : Launch} {e : Env} {s : State} {m : MethodId} {args : Array Value} {below : List Frame} {meth : Method} {c : Code} {D : va_G} {ca : Nat → ClassId} {H0 : Heap} {z : Nat} (K : ah_K p s m args meth c D ca "ShipsThatMeetModel" cX11_seeded 7 (some .int))   (n : Nat) : ∀ (M : ah_h) (a0 : Nat) (x1 : Int32) (x2 : Int32) (x4 : Int32)  (H : Heap) (locs : List Loc) (ls : Array Slot), ah_g H0 D ca M z H → ah_L H0 locs → lv_has ls 7 [(0, .ref a0), (1, .int x1), (2, .int x2), (4, .int x4)] → ∀ Z, fX11_seeded_34    n M a0 x1 x2 x4 = some Z → W p l e { frames := 5, cells := 0, slots := 0, locals := 116 } s m args below meth c H locs 0 0 (ah_Q below args s H0 D ca 0 0 (some (.int Z.1)) Z.2 z) (F0 m 34 ls []) := by
  induction n with
  | zero => intro M a0 x1 x2 x4 H locs ls hG hL hl Z hf; cases hf
  | succ n ih => exact wX11_seeded_34_b K  _ ih
def fX11_seeded (M : ah_h) (a0 : Nat) (x1 : Int32) (x2 : Int32) (x3 : Int32) : Option (Int32 × ah_h) := (ah_ob M a0 11).bind fun _ => (fX11_isMan M a0 x1).bind fun v1 => if v1 = 0 then (some ((-1), M)) else ((fX11_isIn M x2.toInt64 1 40).bind fun v4 => if v4 = 0 then (some ((-1), M)) else ((fX11_begins M a0).bind fun v6 => (ah_pf v6 a0 11 23 (.int x3)).bind fun M8 => fX11_seeded_34 ah_fu M8 a0 x1 x2 0))
set_option maxRecDepth 100000 in
set_option maxHeartbeats 4000000 in
theorem ctX11_seeded (l : Launch) (H0 : Heap) (D : va_G) (ca : Nat → ClassId) (M : ah_h) (z : Nat) (a0 : Nat) (x1 : Int32) (x2 : Int32) (x3 : Int32) (Z : Int32 × ah_h) (hf : fX11_seeded M a0 x1 x2 x3 = some Z) : ah_ct l H0 D ca yX11_seeded cX11_seeded 7 (some .int) 5 116 0 0 [.ref a0, .int x1, .int x2, .int x3] M z (some (.int Z.1)) Z.2 z := by
  refine ah_of (by decide) (Nat.le_of_ble_eq_true rfl) ?_
  intro p e s m below meth c ls hin K hG hl
  have hL : ah_L H0 [] := ah_L.nil
  have hl : lv_has ls 7 [(0, .ref a0), (1, .int x1), (2, .int x2), (3, .int x3)] := hl
  unfold fX11_seeded at hf
  obtain ⟨-, -, hf⟩ := Option.bind_eq_some_iff.mp hf
  refine lv_aload_n K.1 K.2.1 dX11_seeded_0 rfl (lv_at hl 0 rfl) ?_
  refine lv_iload_n K.1 K.2.1 dX11_seeded_1 rfl (lv_at hl 1 rfl) ?_
  obtain ⟨v1, ev1, hf⟩ := Option.bind_eq_some_iff.mp hf
  obtain ⟨q2, eq2⟩ := ah_this ev1
  refine ah_callV (As := [.int x1]) (rest := []) K hG hL hl.1 eq2 rfl (ctX11_isMan l H0 D ca M z a0 x1 v1 ev1) hdX11_isMan q_1066 q_1068 q_54 q_1069 q_30 ⟨Nat.le_of_ble_eq_true rfl, Nat.le_of_ble_eq_true rfl⟩ rfl rfl (Nat.le_of_ble_eq_true rfl) ⟨Nat.le_refl _, Nat.le_refl _⟩ dX11_seeded_2 (fun H locs hG hL => ?_)
  refine lv_if_eq (tgt := 20) K.1 K.2.1 dX11_seeded_5 (by decide) (fun h3 => ?_) (fun h3 => ?_)
  · rw [if_pos h3] at hf
    refine lv_iconst (v := (-1)) K.1 K.2.1 dX11_seeded_20 (by decide) ?_
    have hf := Option.some.inj hf
    subst hf
    exact ah_iret K hG hL (Nat.le_refl _) (Nat.le_refl _) dX11_seeded_21
  · rw [if_neg h3] at hf
    refine lv_iload_n K.1 K.2.1 dX11_seeded_8 rfl (lv_at hl 2 rfl) ?_
    refine lv_i2l (v := x2.toInt64) K.1 K.2.1 dX11_seeded_9 rfl ?_
    refine lv_lconst (v := 1) K.1 K.2.1 dX11_seeded_10 (by decide) ?_
    refine lv_ldc2 (v := 40) K.1 K.2.1 K.2.2.2.1 (K.2.2.2.2.1 _ q_1212) dX11_seeded_11 ?_
    obtain ⟨v4, ev4, hf⟩ := Option.bind_eq_some_iff.mp hf
    refine ah_callS (As := [.long x2.toInt64, .long 1, .long 40]) (rest := []) K hG hL hl.1 (ctX11_isIn l H0 D ca M z x2.toInt64 1 40 v4 ev4) hdX11_isIn q_972 q_973 q_54 q_974 ⟨Nat.le_of_ble_eq_true rfl, Nat.le_of_ble_eq_true rfl⟩ rfl rfl (Nat.le_of_ble_eq_true rfl) ⟨Nat.le_refl _, Nat.le_refl _⟩ dX11_seeded_14 (fun H locs hG hL => ?_)
    refine lv_if_ne (tgt := 22) K.1 K.2.1 dX11_seeded_17 (by decide) (fun h5 => ?_) (fun h5 => ?_)
    · rw [if_neg h5] at hf
      refine lv_aload_n K.1 K.2.1 dX11_seeded_22 rfl (lv_at hl 0 rfl) ?_
      obtain ⟨v6, ev6, hf⟩ := Option.bind_eq_some_iff.mp hf
      obtain ⟨q7, eq7⟩ := ah_this ev6
      refine ah_callV (As := []) (rest := []) K hG hL hl.1 eq7 rfl (ctX11_begins l H0 D ca M z a0 v6 ev6) hdX11_begins q_1091 q_1093 q_54 q_1094 q_33 ⟨Nat.le_of_ble_eq_true rfl, Nat.le_of_ble_eq_true rfl⟩ rfl rfl (Nat.le_of_ble_eq_true rfl) ⟨Nat.le_refl _, Nat.le_refl _⟩ dX11_seeded_23 (fun H locs hG hL => ?_)
      refine lv_aload_n K.1 K.2.1 dX11_seeded_26 rfl (lv_at hl 0 rfl) ?_
      refine lv_iload_n K.1 K.2.1 dX11_seeded_27 rfl (lv_at hl 3 rfl) ?_
      obtain ⟨M8, eM8, hf⟩ := Option.bind_eq_some_iff.mp hf
      refine ah_put K hG hL eM8 fwX11_226_11 rfl rfl dX11_seeded_28 (fun H locs hG hL => ?_)
      refine lv_iconst (v := 0) K.1 K.2.1 dX11_seeded_31 (by decide) ?_
      refine lv_istore (lv' := [(4, .int 0), (0, .ref a0), (1, .int x1), (2, .int x2), (3, .int x3)]) K.1 K.2.1 dX11_seeded_32 hl (by decide) rfl (fun ls hl => ?_)
      exact wX11_seeded_34 K  ah_fu M8 a0 x1 x2 0 _ _ _ hG hL (lv_sub hl [1, 2, 3, 0] rfl) _ hf
    · rw [if_pos h5] at hf
      refine lv_iconst (v := (-1)) K.1 K.2.1 dX11_seeded_20 (by decide) ?_
      have hf := Option.some.inj hf
      subst hf
      exact ah_iret K hG hL (Nat.le_refl _) (Nat.le_refl _) dX11_seeded_21
def fX11_wrongFour (M : ah_h) (a0 : Nat) (x1 : Int32) (x2 : Int32) : Option (Int32 × ah_h) := (ah_ob M a0 11).bind fun _ => (ah_gr M a0 11 7).bind fun v1 => (ah_ai M v1 ((100 * x1) + x2)).bind fun v2 => (ah_gr M a0 11 7).bind fun v3 => (ah_ai M v3 (((100 * x1) + x2) + 1)).bind fun v4 => (fX11_mayMeet M a0 v2 v4).bind fun v5 => if v5 = 0 then (some (x2, M)) else ((fX11_meets M a0 v2 v4).bind fun v8 => (ah_gi v8 a0 11 12).bind fun v10 => (ah_gr v8 a0 11 7).bind fun v11 => (ah_ai v8 v11 (((100 * x1) + x2) + 2)).bind fun v12 => if v10 = v12 then ((ah_gi v8 a0 11 13).bind fun v14 => (ah_gr v8 a0 11 7).bind fun v15 => (ah_ai v8 v15 (((100 * x1) + x2) + 3)).bind fun v16 => if v14 = v16 then (some ((-4), v8)) else (some (x2 + 3, v8))) else (some (x2 + 2, v8)))
set_option maxRecDepth 100000 in
set_option maxHeartbeats 4000000 in
theorem ctX11_wrongFour (l : Launch) (H0 : Heap) (D : va_G) (ca : Nat → ClassId) (M : ah_h) (z : Nat) (a0 : Nat) (x1 : Int32) (x2 : Int32) (Z : Int32 × ah_h) (hf : fX11_wrongFour M a0 x1 x2 = some Z) : ah_ct l H0 D ca yX11_wrongFour cX11_wrongFour 5 (some .int) 5 116 0 0 [.ref a0, .int x1, .int x2] M z (some (.int Z.1)) Z.2 z := by
  refine ah_of (by decide) (Nat.le_of_ble_eq_true rfl) ?_
  intro p e s m below meth c ls hin K hG hl
  have hL : ah_L H0 [] := ah_L.nil
  have hl : lv_has ls 5 [(0, .ref a0), (1, .int x1), (2, .int x2)] := hl
  unfold fX11_wrongFour at hf
  obtain ⟨-, -, hf⟩ := Option.bind_eq_some_iff.mp hf
  refine lv_aload_n K.1 K.2.1 dX11_wrongFour_0 rfl (lv_at hl 0 rfl) ?_
  obtain ⟨v1, ev1, hf⟩ := Option.bind_eq_some_iff.mp hf
  refine ah_getr K hG ev1 ffX11_31_11 dX11_wrongFour_1 ?_
  refine lv_bipush (v := 100) K.1 K.2.1 dX11_wrongFour_4 (by decide) ?_
  refine lv_iload_n K.1 K.2.1 dX11_wrongFour_6 rfl (lv_at hl 1 rfl) ?_
  refine lv_imul K.1 K.2.1 dX11_wrongFour_7 ?_
  refine lv_iload_n K.1 K.2.1 dX11_wrongFour_8 rfl (lv_at hl 2 rfl) ?_
  refine lv_iadd K.1 K.2.1 dX11_wrongFour_9 ?_
  obtain ⟨v2, ev2, hf⟩ := Option.bind_eq_some_iff.mp hf
  refine ah_iald K hG ev2 dX11_wrongFour_10 ?_
  refine lv_istore_n (lv' := [(3, .int v2), (0, .ref a0), (1, .int x1), (2, .int x2)]) K.1 K.2.1 dX11_wrongFour_11 rfl hl (by decide) rfl (fun ls hl => ?_)
  refine lv_aload_n K.1 K.2.1 dX11_wrongFour_12 rfl (lv_at hl 1 rfl) ?_
  obtain ⟨v3, ev3, hf⟩ := Option.bind_eq_some_iff.mp hf
  refine ah_getr K hG ev3 ffX11_31_11 dX11_wrongFour_13 ?_
  refine lv_bipush (v := 100) K.1 K.2.1 dX11_wrongFour_16 (by decide) ?_
  refine lv_iload_n K.1 K.2.1 dX11_wrongFour_18 rfl (lv_at hl 2 rfl) ?_
  refine lv_imul K.1 K.2.1 dX11_wrongFour_19 ?_
  refine lv_iload_n K.1 K.2.1 dX11_wrongFour_20 rfl (lv_at hl 3 rfl) ?_
  refine lv_iadd K.1 K.2.1 dX11_wrongFour_21 ?_
  refine lv_iconst (v := 1) K.1 K.2.1 dX11_wrongFour_22 (by decide) ?_
  refine lv_iadd K.1 K.2.1 dX11_wrongFour_23 ?_
  obtain ⟨v4, ev4, hf⟩ := Option.bind_eq_some_iff.mp hf
  refine ah_iald K hG ev4 dX11_wrongFour_24 ?_
  refine lv_istore (lv' := [(4, .int v4), (3, .int v2), (0, .ref a0), (1, .int x1), (2, .int x2)]) K.1 K.2.1 dX11_wrongFour_25 hl (by decide) rfl (fun ls hl => ?_)
  refine lv_aload_n K.1 K.2.1 dX11_wrongFour_27 rfl (lv_at hl 2 rfl) ?_
  refine lv_iload_n K.1 K.2.1 dX11_wrongFour_28 rfl (lv_at hl 1 rfl) ?_
  refine lv_iload K.1 K.2.1 dX11_wrongFour_29 (lv_at hl 0 rfl) ?_
  obtain ⟨v5, ev5, hf⟩ := Option.bind_eq_some_iff.mp hf
  obtain ⟨q6, eq6⟩ := ah_this ev5
  refine ah_callV (As := [.int v2, .int v4]) (rest := []) K hG hL hl.1 eq6 rfl (ctX11_mayMeet l H0 D ca M z a0 v2 v4 v5 ev5) hdX11_mayMeet q_1016 q_1018 q_54 q_1019 q_21 ⟨Nat.le_of_ble_eq_true rfl, Nat.le_of_ble_eq_true rfl⟩ rfl rfl (Nat.le_of_ble_eq_true rfl) ⟨Nat.le_refl _, Nat.le_refl _⟩ dX11_wrongFour_31 (fun H locs hG hL => ?_)
  refine lv_if_ne (tgt := 39) K.1 K.2.1 dX11_wrongFour_34 (by decide) (fun h7 => ?_) (fun h7 => ?_)
  · rw [if_neg h7] at hf
    refine lv_aload_n K.1 K.2.1 dX11_wrongFour_39 rfl (lv_at hl 2 rfl) ?_
    refine lv_iload_n K.1 K.2.1 dX11_wrongFour_40 rfl (lv_at hl 1 rfl) ?_
    refine lv_iload K.1 K.2.1 dX11_wrongFour_41 (lv_at hl 0 rfl) ?_
    obtain ⟨v8, ev8, hf⟩ := Option.bind_eq_some_iff.mp hf
    obtain ⟨q9, eq9⟩ := ah_this ev8
    refine ah_callV (As := [.int v2, .int v4]) (rest := []) K hG hL hl.1 eq9 rfl (ctX11_meets l H0 D ca M z a0 v2 v4 v8 ev8) hdX11_meets q_1020 q_1022 q_54 q_1023 q_22 ⟨Nat.le_of_ble_eq_true rfl, Nat.le_of_ble_eq_true rfl⟩ rfl rfl (Nat.le_of_ble_eq_true rfl) ⟨Nat.le_refl _, Nat.le_refl _⟩ dX11_wrongFour_43 (fun H locs hG hL => ?_)
    refine lv_aload_n K.1 K.2.1 dX11_wrongFour_46 rfl (lv_at hl 2 rfl) ?_
    obtain ⟨v10, ev10, hf⟩ := Option.bind_eq_some_iff.mp hf
    refine ah_geti K hG ev10 ffX11_111_11 dX11_wrongFour_47 ?_
    refine lv_aload_n K.1 K.2.1 dX11_wrongFour_50 rfl (lv_at hl 2 rfl) ?_
    obtain ⟨v11, ev11, hf⟩ := Option.bind_eq_some_iff.mp hf
    refine ah_getr K hG ev11 ffX11_31_11 dX11_wrongFour_51 ?_
    refine lv_bipush (v := 100) K.1 K.2.1 dX11_wrongFour_54 (by decide) ?_
    refine lv_iload_n K.1 K.2.1 dX11_wrongFour_56 rfl (lv_at hl 3 rfl) ?_
    refine lv_imul K.1 K.2.1 dX11_wrongFour_57 ?_
    refine lv_iload_n K.1 K.2.1 dX11_wrongFour_58 rfl (lv_at hl 4 rfl) ?_
    refine lv_iadd K.1 K.2.1 dX11_wrongFour_59 ?_
    refine lv_iconst (v := 2) K.1 K.2.1 dX11_wrongFour_60 (by decide) ?_
    refine lv_iadd K.1 K.2.1 dX11_wrongFour_61 ?_
    obtain ⟨v12, ev12, hf⟩ := Option.bind_eq_some_iff.mp hf
    refine ah_iald K hG ev12 dX11_wrongFour_62 ?_
    refine lv_icmp_eq (tgt := 72) K.1 K.2.1 dX11_wrongFour_63 (by decide) (fun h13 => ?_) (fun h13 => ?_)
    · rw [if_pos h13] at hf
      refine lv_aload_n K.1 K.2.1 dX11_wrongFour_72 rfl (lv_at hl 2 rfl) ?_
      obtain ⟨v14, ev14, hf⟩ := Option.bind_eq_some_iff.mp hf
      refine ah_geti K hG ev14 ffX11_114_11 dX11_wrongFour_73 ?_
      refine lv_aload_n K.1 K.2.1 dX11_wrongFour_76 rfl (lv_at hl 2 rfl) ?_
      obtain ⟨v15, ev15, hf⟩ := Option.bind_eq_some_iff.mp hf
      refine ah_getr K hG ev15 ffX11_31_11 dX11_wrongFour_77 ?_
      refine lv_bipush (v := 100) K.1 K.2.1 dX11_wrongFour_80 (by decide) ?_
      refine lv_iload_n K.1 K.2.1 dX11_wrongFour_82 rfl (lv_at hl 3 rfl) ?_
      refine lv_imul K.1 K.2.1 dX11_wrongFour_83 ?_
      refine lv_iload_n K.1 K.2.1 dX11_wrongFour_84 rfl (lv_at hl 4 rfl) ?_
      refine lv_iadd K.1 K.2.1 dX11_wrongFour_85 ?_
      refine lv_iconst (v := 3) K.1 K.2.1 dX11_wrongFour_86 (by decide) ?_
      refine lv_iadd K.1 K.2.1 dX11_wrongFour_87 ?_
      obtain ⟨v16, ev16, hf⟩ := Option.bind_eq_some_iff.mp hf
      refine ah_iald K hG ev16 dX11_wrongFour_88 ?_
      refine lv_icmp_eq (tgt := 98) K.1 K.2.1 dX11_wrongFour_89 (by decide) (fun h17 => ?_) (fun h17 => ?_)
      · rw [if_pos h17] at hf
        refine lv_bipush (v := (-4)) K.1 K.2.1 dX11_wrongFour_98 (by decide) ?_
        have hf := Option.some.inj hf
        subst hf
        exact ah_iret K hG hL (Nat.le_refl _) (Nat.le_refl _) dX11_wrongFour_100
      · rw [if_neg h17] at hf
        refine lv_iload_n K.1 K.2.1 dX11_wrongFour_92 rfl (lv_at hl 4 rfl) ?_
        refine lv_iconst (v := 3) K.1 K.2.1 dX11_wrongFour_93 (by decide) ?_
        refine lv_iadd K.1 K.2.1 dX11_wrongFour_94 ?_
        refine lv_goto (tgt := 100) K.1 K.2.1 dX11_wrongFour_95 (by decide) ?_
        have hf := Option.some.inj hf
        subst hf
        exact ah_iret K hG hL (Nat.le_refl _) (Nat.le_refl _) dX11_wrongFour_100
    · rw [if_neg h13] at hf
      refine lv_iload_n K.1 K.2.1 dX11_wrongFour_66 rfl (lv_at hl 4 rfl) ?_
      refine lv_iconst (v := 2) K.1 K.2.1 dX11_wrongFour_67 (by decide) ?_
      refine lv_iadd K.1 K.2.1 dX11_wrongFour_68 ?_
      refine lv_goto (tgt := 100) K.1 K.2.1 dX11_wrongFour_69 (by decide) ?_
      have hf := Option.some.inj hf
      subst hf
      exact ah_iret K hG hL (Nat.le_refl _) (Nat.le_refl _) dX11_wrongFour_100
  · rw [if_pos h7] at hf
    refine lv_iload_n K.1 K.2.1 dX11_wrongFour_37 rfl (lv_at hl 4 rfl) ?_
    have hf := Option.some.inj hf
    subst hf
    exact ah_iret K hG hL (Nat.le_refl _) (Nat.le_refl _) dX11_wrongFour_38
def fX11_judge_54    (M : ah_h) (a0 : Nat) (x1 : Int32) (x3 : Int32) (x4 : Int32) : Option (Int32 × ah_h) := (fX11_ends M a0).bind fun v1 => if 0 ≤ x3 then (some (x3, v1)) else ((ah_gr v1 a0 11 6).bind fun v4 => (ah_ai v1 v4 x1).bind fun v5 => if (v5 - v5 / 4 * 4) = 0 then (some (x3, v1)) else (some (x4, v1)))
set_option maxRecDepth 100000 in
set_option maxHeartbeats 4000000 in
theorem wX11_judge_54 {p : Program} {l : Launch} {e : Env} {s : State} {m : MethodId} {args : Array Value} {below : List Frame} {meth : Method} {c : Code} {D : va_G} {ca : Nat → ClassId} {H0 : Heap} {z : Nat} (K : ah_K p s m args meth c D ca "ShipsThatMeetModel" cX11_judge 5 (some .int))   : ∀ (M : ah_h) (a0 : Nat) (x1 : Int32) (x3 : Int32) (x4 : Int32)  (H : Heap) (locs : List Loc) (ls : Array Slot), ah_g H0 D ca M z H → ah_L H0 locs → lv_has ls 5 [(0, .ref a0), (1, .int x1), (3, .int x3), (4, .int x4)] → ∀ Z, fX11_judge_54    M a0 x1 x3 x4 = some Z → W p l e { frames := 6, cells := 0, slots := 0, locals := 140 } s m args below meth c H locs 0 0 (ah_Q below args s H0 D ca 0 0 (some (.int Z.1)) Z.2 z) (F0 m 54 ls []) := by
  intro M a0 x1 x3 x4 H locs ls hG hL hl Z hf
  unfold fX11_judge_54 at hf
  refine lv_aload_n K.1 K.2.1 dX11_judge_54 rfl (lv_at hl 0 rfl) ?_
  obtain ⟨v1, ev1, hf⟩ := Option.bind_eq_some_iff.mp hf
  obtain ⟨q2, eq2⟩ := ah_this ev1
  refine ah_callV (As := []) (rest := []) K hG hL hl.1 eq2 rfl (ctX11_ends l H0 D ca M z a0 v1 ev1) hdX11_ends q_1111 q_1113 q_54 q_1114 q_38 ⟨Nat.le_of_ble_eq_true rfl, Nat.le_of_ble_eq_true rfl⟩ rfl rfl (Nat.le_of_ble_eq_true rfl) ⟨Nat.le_refl _, Nat.le_refl _⟩ dX11_judge_55 (fun H locs hG hL => ?_)
  refine lv_iload_n K.1 K.2.1 dX11_judge_58 rfl (lv_at hl 2 rfl) ?_
  refine lv_if_ge (tgt := 73) K.1 K.2.1 dX11_judge_59 (by decide) (fun h3 => ?_) (fun h3 => ?_)
  · rw [if_pos h3] at hf
    refine lv_iload_n K.1 K.2.1 dX11_judge_73 rfl (lv_at hl 2 rfl) ?_
    refine lv_goto (tgt := 79) K.1 K.2.1 dX11_judge_74 (by decide) ?_
    have hf := Option.some.inj hf
    subst hf
    exact ah_iret K hG hL (Nat.le_refl _) (Nat.le_refl _) dX11_judge_79
  · rw [if_neg h3] at hf
    refine lv_aload_n K.1 K.2.1 dX11_judge_62 rfl (lv_at hl 0 rfl) ?_
    obtain ⟨v4, ev4, hf⟩ := Option.bind_eq_some_iff.mp hf
    refine ah_getr K hG ev4 ffX11_28_11 dX11_judge_63 ?_
    refine lv_iload_n K.1 K.2.1 dX11_judge_66 rfl (lv_at hl 1 rfl) ?_
    obtain ⟨v5, ev5, hf⟩ := Option.bind_eq_some_iff.mp hf
    refine ah_iald K hG ev5 dX11_judge_67 ?_
    refine lv_iconst (v := 4) K.1 K.2.1 dX11_judge_68 (by decide) ?_
    refine lv_irem K.1 K.2.1 dX11_judge_69 (by decide) ?_
    refine lv_if_ne (tgt := 77) K.1 K.2.1 dX11_judge_70 (by decide) (fun h7 => ?_) (fun h7 => ?_)
    · rw [if_neg h7] at hf
      refine lv_iload K.1 K.2.1 dX11_judge_77 (lv_at hl 3 rfl) ?_
      have hf := Option.some.inj hf
      subst hf
      exact ah_iret K hG hL (Nat.le_refl _) (Nat.le_refl _) dX11_judge_79
    · rw [if_pos h7] at hf
      refine lv_iload_n K.1 K.2.1 dX11_judge_73 rfl (lv_at hl 2 rfl) ?_
      refine lv_goto (tgt := 79) K.1 K.2.1 dX11_judge_74 (by decide) ?_
      have hf := Option.some.inj hf
      subst hf
      exact ah_iret K hG hL (Nat.le_refl _) (Nat.le_refl _) dX11_judge_79
def fX11_judge_23_b   (k23 : ah_h → Nat → Int32 → Int32 → Int32 → Option (Int32 × ah_h))  (M : ah_h) (a0 : Nat) (x1 : Int32) (x3 : Int32) (x4 : Int32) : Option (Int32 × ah_h) := (ah_gr M a0 11 6).bind fun v1 => (ah_ai M v1 x1).bind fun v2 => if v2 ≤ (x4 + 3) then (fX11_judge_54 M a0 x1 x3 x4) else (if 0 ≤ x3 then (fX11_judge_54 M a0 x1 x3 x4) else ((fX11_wrongFour M a0 x1 x4).bind fun v5 => k23 v5.2 a0 x1 v5.1 (x4 + 4)))
def fX11_judge_23    : Nat → ah_h → Nat → Int32 → Int32 → Int32 → Option (Int32 × ah_h)
  | 0 => fun _ _ _ _ _ => none
  | n + 1 => fun M a0 x1 x3 x4 => fX11_judge_23_b   (fX11_judge_23    n)  M a0 x1 x3 x4
set_option maxRecDepth 100000 in
set_option maxHeartbeats 4000000 in
theorem wX11_judge_23_b {p : Program} {l : Launch} {e : Env} {s : State} {m : MethodId} {args : Array Value} {below : List Frame} {meth : Method} {c : Code} {D : va_G} {ca : Nat → ClassId} {H0 : Heap} {z : Nat} (K : ah_K p s m args meth c D ca "ShipsThatMeetModel" cX11_judge 5 (some .int))   (k23 : ah_h → Nat → Int32 → Int32 → Int32 → Option (Int32 × ah_h)) (hk23 : ∀ (M : ah_h) (a0 : Nat) (x1 : Int32) (x3 : Int32) (x4 : Int32)  (H : Heap) (locs : List Loc) (ls : Array Slot), ah_g H0 D ca M z H → ah_L H0 locs → lv_has ls 5 [(0, .ref a0), (1, .int x1), (3, .int x3), (4, .int x4)] → ∀ Z, k23 M a0 x1 x3 x4 = some Z → W p l e { frames := 6, cells := 0, slots := 0, locals := 140 } s m args below meth c H locs 0 0 (ah_Q below args s H0 D ca 0 0 (some (.int Z.1)) Z.2 z) (F0 m 23 ls [])) : ∀ (M : ah_h) (a0 : Nat) (x1 : Int32) (x3 : Int32) (x4 : Int32)  (H : Heap) (locs : List Loc) (ls : Array Slot), ah_g H0 D ca M z H → ah_L H0 locs → lv_has ls 5 [(0, .ref a0), (1, .int x1), (3, .int x3), (4, .int x4)] → ∀ Z, fX11_judge_23_b   k23  M a0 x1 x3 x4 = some Z → W p l e { frames := 6, cells := 0, slots := 0, locals := 140 } s m args below meth c H locs 0 0 (ah_Q below args s H0 D ca 0 0 (some (.int Z.1)) Z.2 z) (F0 m 23 ls []) := by
  intro M a0 x1 x3 x4 H locs ls hG hL hl Z hf
  unfold fX11_judge_23_b at hf
  refine lv_iload K.1 K.2.1 dX11_judge_23 (lv_at hl 3 rfl) ?_
  refine lv_iconst (v := 3) K.1 K.2.1 dX11_judge_25 (by decide) ?_
  refine lv_iadd K.1 K.2.1 dX11_judge_26 ?_
  refine lv_aload_n K.1 K.2.1 dX11_judge_27 rfl (lv_at hl 0 rfl) ?_
  obtain ⟨v1, ev1, hf⟩ := Option.bind_eq_some_iff.mp hf
  refine ah_getr K hG ev1 ffX11_28_11 dX11_judge_28 ?_
  refine lv_iload_n K.1 K.2.1 dX11_judge_31 rfl (lv_at hl 1 rfl) ?_
  obtain ⟨v2, ev2, hf⟩ := Option.bind_eq_some_iff.mp hf
  refine ah_iald K hG ev2 dX11_judge_32 ?_
  refine lv_icmp_ge (tgt := 54) K.1 K.2.1 dX11_judge_33 (by decide) (fun h3 => ?_) (fun h3 => ?_)
  · rw [if_pos h3] at hf
    exact wX11_judge_54 K  M a0 x1 x3 x4 _ _ _ hG hL (lv_sub hl [0, 1, 2, 3] rfl) _ hf
  · rw [if_neg h3] at hf
    refine lv_iload_n K.1 K.2.1 dX11_judge_36 rfl (lv_at hl 2 rfl) ?_
    refine lv_if_ge (tgt := 54) K.1 K.2.1 dX11_judge_37 (by decide) (fun h4 => ?_) (fun h4 => ?_)
    · rw [if_pos h4] at hf
      exact wX11_judge_54 K  M a0 x1 x3 x4 _ _ _ hG hL (lv_sub hl [0, 1, 2, 3] rfl) _ hf
    · rw [if_neg h4] at hf
      refine lv_aload_n K.1 K.2.1 dX11_judge_40 rfl (lv_at hl 0 rfl) ?_
      refine lv_iload_n K.1 K.2.1 dX11_judge_41 rfl (lv_at hl 1 rfl) ?_
      refine lv_iload K.1 K.2.1 dX11_judge_42 (lv_at hl 3 rfl) ?_
      obtain ⟨v5, ev5, hf⟩ := Option.bind_eq_some_iff.mp hf
      obtain ⟨q6, eq6⟩ := ah_this ev5
      refine ah_callV (As := [.int x1, .int x4]) (rest := []) K hG hL hl.1 eq6 rfl (ctX11_wrongFour l H0 D ca M z a0 x1 x4 v5 ev5) hdX11_wrongFour q_1224 q_1226 q_54 q_1227 q_48 ⟨Nat.le_of_ble_eq_true rfl, Nat.le_of_ble_eq_true rfl⟩ rfl rfl (Nat.le_of_ble_eq_true rfl) ⟨Nat.le_refl _, Nat.le_refl _⟩ dX11_judge_44 (fun H locs hG hL => ?_)
      refine lv_istore_n (lv' := [(3, .int v5.1), (0, .ref a0), (1, .int x1), (4, .int x4)]) K.1 K.2.1 dX11_judge_47 rfl hl (by decide) rfl (fun ls hl => ?_)
      refine lv_iinc (v := x4 + 4) (lv' := [(4, .int (x4 + 4)), (3, .int v5.1), (0, .ref a0), (1, .int x1)]) K.1 K.2.1 dX11_judge_48 hl (k := 3) rfl rfl (by decide) rfl (fun ls hl => ?_)
      refine lv_goto (tgt := 23) K.1 K.2.1 dX11_judge_51 (by decide) ?_
      exact hk23 v5.2 a0 x1 v5.1 (x4 + 4) _ _ _ hG hL (lv_sub hl [2, 3, 1, 0] rfl) _ hf
theorem wX11_judge_23 {p : Program} {l : Launch} {e : Env} {s : State} {m : MethodId} {args : Array Value} {below : List Frame} {meth : Method} {c : Code} {D : va_G} {ca : Nat → ClassId} {H0 : Heap} {z : Nat} (K : ah_K p s m args meth c D ca "ShipsThatMeetModel" cX11_judge 5 (some .int))   (n : Nat) : ∀ (M : ah_h) (a0 : Nat) (x1 : Int32) (x3 : Int32) (x4 : Int32)  (H : Heap) (locs : List Loc) (ls : Array Slot), ah_g H0 D ca M z H → ah_L H0 locs → lv_has ls 5 [(0, .ref a0), (1, .int x1), (3, .int x3), (4, .int x4)] → ∀ Z, fX11_judge_23    n M a0 x1 x3 x4 = some Z → W p l e { frames := 6, cells := 0, slots := 0, locals := 140 } s m args below meth c H locs 0 0 (ah_Q below args s H0 D ca 0 0 (some (.int Z.1)) Z.2 z) (F0 m 23 ls []) := by
  induction n with
  | zero => intro M a0 x1 x3 x4 H locs ls hG hL hl Z hf; cases hf
  | succ n ih => exact wX11_judge_23_b K  _ ih
def fX11_judge (M : ah_h) (a0 : Nat) (x1 : Int32) : Option (Int32 × ah_h) := (ah_ob M a0 11).bind fun _ => (fX11_wrongRow M a0 x1 (-1)).bind fun v1 => if v1 = 0 then ((fX11_begins M a0).bind fun v4 => fX11_judge_23 ah_fu v4 a0 x1 (-4) 0) else (some (v1, M))
set_option maxRecDepth 100000 in
set_option maxHeartbeats 4000000 in
theorem ctX11_judge (l : Launch) (H0 : Heap) (D : va_G) (ca : Nat → ClassId) (M : ah_h) (z : Nat) (a0 : Nat) (x1 : Int32) (Z : Int32 × ah_h) (hf : fX11_judge M a0 x1 = some Z) : ah_ct l H0 D ca yX11_judge cX11_judge 5 (some .int) 6 140 0 0 [.ref a0, .int x1] M z (some (.int Z.1)) Z.2 z := by
  refine ah_of (by decide) (Nat.le_of_ble_eq_true rfl) ?_
  intro p e s m below meth c ls hin K hG hl
  have hL : ah_L H0 [] := ah_L.nil
  have hl : lv_has ls 5 [(0, .ref a0), (1, .int x1)] := hl
  unfold fX11_judge at hf
  obtain ⟨-, -, hf⟩ := Option.bind_eq_some_iff.mp hf
  refine lv_aload_n K.1 K.2.1 dX11_judge_0 rfl (lv_at hl 0 rfl) ?_
  refine lv_iload_n K.1 K.2.1 dX11_judge_1 rfl (lv_at hl 1 rfl) ?_
  refine lv_iconst (v := (-1)) K.1 K.2.1 dX11_judge_2 (by decide) ?_
  obtain ⟨v1, ev1, hf⟩ := Option.bind_eq_some_iff.mp hf
  obtain ⟨q2, eq2⟩ := ah_this ev1
  refine ah_callV (As := [.int x1, .int (-1)]) (rest := []) K hG hL hl.1 eq2 rfl (ctX11_wrongRow l H0 D ca M z a0 x1 (-1) v1 ev1) hdX11_wrongRow q_964 q_966 q_54 q_967 q_11 ⟨Nat.le_of_ble_eq_true rfl, Nat.le_of_ble_eq_true rfl⟩ rfl rfl (Nat.le_of_ble_eq_true rfl) ⟨Nat.le_refl _, Nat.le_refl _⟩ dX11_judge_3 (fun H locs hG hL => ?_)
  refine lv_istore_n (lv' := [(2, .int v1), (0, .ref a0), (1, .int x1)]) K.1 K.2.1 dX11_judge_6 rfl hl (by decide) rfl (fun ls hl => ?_)
  refine lv_iload_n K.1 K.2.1 dX11_judge_7 rfl (lv_at hl 0 rfl) ?_
  refine lv_if_eq (tgt := 13) K.1 K.2.1 dX11_judge_8 (by decide) (fun h3 => ?_) (fun h3 => ?_)
  · rw [if_pos h3] at hf
    refine lv_aload_n K.1 K.2.1 dX11_judge_13 rfl (lv_at hl 1 rfl) ?_
    obtain ⟨v4, ev4, hf⟩ := Option.bind_eq_some_iff.mp hf
    obtain ⟨q5, eq5⟩ := ah_this ev4
    refine ah_callV (As := []) (rest := []) K hG hL hl.1 eq5 rfl (ctX11_begins l H0 D ca M z a0 v4 ev4) hdX11_begins q_1091 q_1093 q_54 q_1094 q_33 ⟨Nat.le_of_ble_eq_true rfl, Nat.le_of_ble_eq_true rfl⟩ rfl rfl (Nat.le_of_ble_eq_true rfl) ⟨Nat.le_refl _, Nat.le_refl _⟩ dX11_judge_14 (fun H locs hG hL => ?_)
    refine lv_bipush (v := (-4)) K.1 K.2.1 dX11_judge_17 (by decide) ?_
    refine lv_istore_n (lv' := [(3, .int (-4)), (2, .int v1), (0, .ref a0), (1, .int x1)]) K.1 K.2.1 dX11_judge_19 rfl hl (by decide) rfl (fun ls hl => ?_)
    refine lv_iconst (v := 0) K.1 K.2.1 dX11_judge_20 (by decide) ?_
    refine lv_istore (lv' := [(4, .int 0), (3, .int (-4)), (2, .int v1), (0, .ref a0), (1, .int x1)]) K.1 K.2.1 dX11_judge_21 hl (by decide) rfl (fun ls hl => ?_)
    exact wX11_judge_23 K  ah_fu v4 a0 x1 (-4) 0 _ _ _ hG hL (lv_sub hl [3, 4, 1, 0] rfl) _ hf
  · rw [if_neg h3] at hf
    refine lv_iload_n K.1 K.2.1 dX11_judge_11 rfl (lv_at hl 0 rfl) ?_
    have hf := Option.some.inj hf
    subst hf
    exact ah_iret K hG hL (Nat.le_refl _) (Nat.le_refl _) dX11_judge_12
def fX11_image (M : ah_h) (a0 : Nat) : Option (Int32 × ah_h) := (ah_ob M a0 11).bind fun _ => (ah_gr M a0 11 0).bind fun v1 => (ah_gr M a0 11 1).bind fun v2 => (fX11_copies M v1 v2).bind fun v3 => (ah_pf v3 a0 11 10 (.int 1)).bind fun M4 => (ah_gr M4 a0 11 0).bind fun v5 => (ah_ai M4 v5 2).bind fun v6 => some (v6, M4)
set_option maxRecDepth 100000 in
set_option maxHeartbeats 4000000 in
theorem ctX11_image (l : Launch) (H0 : Heap) (D : va_G) (ca : Nat → ClassId) (M : ah_h) (z : Nat) (a0 : Nat) (Z : Int32 × ah_h) (hf : fX11_image M a0 = some Z) : ah_ct l H0 D ca yX11_image cX11_image 1 (some .int) 1 22 0 0 [.ref a0] M z (some (.int Z.1)) Z.2 z := by
  refine ah_of (by decide) (Nat.le_of_ble_eq_true rfl) ?_
  intro p e s m below meth c ls hin K hG hl
  have hL : ah_L H0 [] := ah_L.nil
  have hl : lv_has ls 1 [(0, .ref a0)] := hl
  unfold fX11_image at hf
  obtain ⟨-, -, hf⟩ := Option.bind_eq_some_iff.mp hf
  refine lv_aload_n K.1 K.2.1 dX11_image_0 rfl (lv_at hl 0 rfl) ?_
  obtain ⟨v1, ev1, hf⟩ := Option.bind_eq_some_iff.mp hf
  refine ah_getr K hG ev1 ffX11_9_11 dX11_image_1 ?_
  refine lv_aload_n K.1 K.2.1 dX11_image_4 rfl (lv_at hl 0 rfl) ?_
  obtain ⟨v2, ev2, hf⟩ := Option.bind_eq_some_iff.mp hf
  refine ah_getr K hG ev2 ffX11_13_11 dX11_image_5 ?_
  obtain ⟨v3, ev3, hf⟩ := Option.bind_eq_some_iff.mp hf
  refine ah_callS (As := [.ref v1, .ref v2]) (rest := []) K hG hL hl.1 (ctX11_copies l H0 D ca M z v1 v2 v3 ev3) hdX11_copies q_989 q_990 q_54 q_991 ⟨Nat.le_of_ble_eq_true rfl, Nat.le_of_ble_eq_true rfl⟩ rfl rfl (Nat.le_of_ble_eq_true rfl) ⟨Nat.le_refl _, Nat.le_refl _⟩ dX11_image_8 (fun H locs hG hL => ?_)
  refine lv_aload_n K.1 K.2.1 dX11_image_11 rfl (lv_at hl 0 rfl) ?_
  refine lv_iconst (v := 1) K.1 K.2.1 dX11_image_12 (by decide) ?_
  obtain ⟨M4, eM4, hf⟩ := Option.bind_eq_some_iff.mp hf
  refine ah_put K hG hL eM4 fwX11_240_11 rfl rfl dX11_image_13 (fun H locs hG hL => ?_)
  refine lv_aload_n K.1 K.2.1 dX11_image_16 rfl (lv_at hl 0 rfl) ?_
  obtain ⟨v5, ev5, hf⟩ := Option.bind_eq_some_iff.mp hf
  refine ah_getr K hG ev5 ffX11_9_11 dX11_image_17 ?_
  refine lv_iconst (v := 2) K.1 K.2.1 dX11_image_20 (by decide) ?_
  obtain ⟨v6, ev6, hf⟩ := Option.bind_eq_some_iff.mp hf
  refine ah_iald K hG ev6 dX11_image_21 ?_
  have hf := Option.some.inj hf
  subst hf
  exact ah_iret K hG hL (Nat.le_refl _) (Nat.le_refl _) dX11_image_22
def fX11_restore (M : ah_h) (a0 : Nat) : Option (Int32 × ah_h) := (ah_ob M a0 11).bind fun _ => (ah_gi M a0 11 10).bind fun v1 => if v1 = 0 then (some ((-3), M)) else ((ah_gr M a0 11 1).bind fun v3 => (ah_gr M a0 11 0).bind fun v4 => (fX11_copies M v3 v4).bind fun v5 => (ah_gr v5 a0 11 0).bind fun v6 => (ah_ai v5 v6 2).bind fun v7 => some (v7, v5))
set_option maxRecDepth 100000 in
set_option maxHeartbeats 4000000 in
theorem ctX11_restore (l : Launch) (H0 : Heap) (D : va_G) (ca : Nat → ClassId) (M : ah_h) (z : Nat) (a0 : Nat) (Z : Int32 × ah_h) (hf : fX11_restore M a0 = some Z) : ah_ct l H0 D ca yX11_restore cX11_restore 1 (some .int) 1 22 0 0 [.ref a0] M z (some (.int Z.1)) Z.2 z := by
  refine ah_of (by decide) (Nat.le_of_ble_eq_true rfl) ?_
  intro p e s m below meth c ls hin K hG hl
  have hL : ah_L H0 [] := ah_L.nil
  have hl : lv_has ls 1 [(0, .ref a0)] := hl
  unfold fX11_restore at hf
  obtain ⟨-, -, hf⟩ := Option.bind_eq_some_iff.mp hf
  refine lv_aload_n K.1 K.2.1 dX11_restore_0 rfl (lv_at hl 0 rfl) ?_
  obtain ⟨v1, ev1, hf⟩ := Option.bind_eq_some_iff.mp hf
  refine ah_geti K hG ev1 ffX11_240_11 dX11_restore_1 ?_
  refine lv_if_ne (tgt := 10) K.1 K.2.1 dX11_restore_4 (by decide) (fun h2 => ?_) (fun h2 => ?_)
  · rw [if_neg h2] at hf
    refine lv_aload_n K.1 K.2.1 dX11_restore_10 rfl (lv_at hl 0 rfl) ?_
    obtain ⟨v3, ev3, hf⟩ := Option.bind_eq_some_iff.mp hf
    refine ah_getr K hG ev3 ffX11_13_11 dX11_restore_11 ?_
    refine lv_aload_n K.1 K.2.1 dX11_restore_14 rfl (lv_at hl 0 rfl) ?_
    obtain ⟨v4, ev4, hf⟩ := Option.bind_eq_some_iff.mp hf
    refine ah_getr K hG ev4 ffX11_9_11 dX11_restore_15 ?_
    obtain ⟨v5, ev5, hf⟩ := Option.bind_eq_some_iff.mp hf
    refine ah_callS (As := [.ref v3, .ref v4]) (rest := []) K hG hL hl.1 (ctX11_copies l H0 D ca M z v3 v4 v5 ev5) hdX11_copies q_989 q_990 q_54 q_991 ⟨Nat.le_of_ble_eq_true rfl, Nat.le_of_ble_eq_true rfl⟩ rfl rfl (Nat.le_of_ble_eq_true rfl) ⟨Nat.le_refl _, Nat.le_refl _⟩ dX11_restore_18 (fun H locs hG hL => ?_)
    refine lv_aload_n K.1 K.2.1 dX11_restore_21 rfl (lv_at hl 0 rfl) ?_
    obtain ⟨v6, ev6, hf⟩ := Option.bind_eq_some_iff.mp hf
    refine ah_getr K hG ev6 ffX11_9_11 dX11_restore_22 ?_
    refine lv_iconst (v := 2) K.1 K.2.1 dX11_restore_25 (by decide) ?_
    obtain ⟨v7, ev7, hf⟩ := Option.bind_eq_some_iff.mp hf
    refine ah_iald K hG ev7 dX11_restore_26 ?_
    have hf := Option.some.inj hf
    subst hf
    exact ah_iret K hG hL (Nat.le_refl _) (Nat.le_refl _) dX11_restore_27
  · rw [if_pos h2] at hf
    refine lv_bipush (v := (-3)) K.1 K.2.1 dX11_restore_7 (by decide) ?_
    have hf := Option.some.inj hf
    subst hf
    exact ah_iret K hG hL (Nat.le_refl _) (Nat.le_refl _) dX11_restore_9
def fX11_count_97  (k45 : Nat → Int32 → Int32 → Int32 → Option (Int32)) (M : ah_h) (a0 : Nat) (x1 : Int32) (x3 : Int32) (s0 : Int32) : Option (Int32) := k45 a0 x1 s0 (x3 + 1)
set_option maxRecDepth 100000 in
set_option maxHeartbeats 4000000 in
theorem wX11_count_97 {p : Program} {l : Launch} {e : Env} {s : State} {m : MethodId} {args : Array Value} {below : List Frame} {meth : Method} {c : Code} {D : va_G} {ca : Nat → ClassId} {H0 : Heap} {M : ah_h} {z : Nat} (K : ah_K p s m args meth c D ca "ShipsThatMeetModel" cX11_count 5 (some .int))  (k45 : Nat → Int32 → Int32 → Int32 → Option (Int32)) (hk45 : ∀ (a0 : Nat) (x1 : Int32) (x2 : Int32) (x3 : Int32)  (H : Heap) (locs : List Loc) (ls : Array Slot), ah_g H0 D ca M z H → ah_L H0 locs → lv_has ls 5 [(0, .ref a0), (1, .int x1), (2, .int x2), (3, .int x3)] → ∀ Z, k45 a0 x1 x2 x3 = some Z → W p l e { frames := 2, cells := 0, slots := 0, locals := 45 } s m args below meth c H locs 0 0 (ah_Q below args s H0 D ca 0 0 (some (.int Z)) M z) (F0 m 45 ls [])) : ∀ (a0 : Nat) (x1 : Int32) (x3 : Int32) (s0 : Int32)  (H : Heap) (locs : List Loc) (ls : Array Slot), ah_g H0 D ca M z H → ah_L H0 locs → lv_has ls 5 [(0, .ref a0), (1, .int x1), (3, .int x3)] → ∀ Z, fX11_count_97  k45 M a0 x1 x3 s0 = some Z → W p l e { frames := 2, cells := 0, slots := 0, locals := 45 } s m args below meth c H locs 0 0 (ah_Q below args s H0 D ca 0 0 (some (.int Z)) M z) (F0 m 97 ls [.int s0]) := by
  intro a0 x1 x3 s0 H locs ls hG hL hl Z hf
  unfold fX11_count_97 at hf
  refine lv_istore_n (lv' := [(2, .int s0), (0, .ref a0), (1, .int x1), (3, .int x3)]) K.1 K.2.1 dX11_count_97 rfl hl (by decide) rfl (fun ls hl => ?_)
  refine lv_iinc (v := x3 + 1) (lv' := [(3, .int (x3 + 1)), (2, .int s0), (0, .ref a0), (1, .int x1)]) K.1 K.2.1 dX11_count_98 hl (k := 3) rfl rfl (by decide) rfl (fun ls hl => ?_)
  refine lv_goto (tgt := 45) K.1 K.2.1 dX11_count_101 (by decide) ?_
  exact hk45 a0 x1 s0 (x3 + 1) _ _ _ hG hL (lv_sub hl [2, 3, 1, 0] rfl) _ hf
def fX11_count_81  (k45 : Nat → Int32 → Int32 → Int32 → Option (Int32)) (M : ah_h) (a0 : Nat) (x1 : Int32) (x3 : Int32) (s0 : Int32) (s1 : Int32) : Option (Int32) := fX11_count_97 k45 M a0 x1 x3 (s0 + s1)
set_option maxRecDepth 100000 in
set_option maxHeartbeats 4000000 in
theorem wX11_count_81 {p : Program} {l : Launch} {e : Env} {s : State} {m : MethodId} {args : Array Value} {below : List Frame} {meth : Method} {c : Code} {D : va_G} {ca : Nat → ClassId} {H0 : Heap} {M : ah_h} {z : Nat} (K : ah_K p s m args meth c D ca "ShipsThatMeetModel" cX11_count 5 (some .int))  (k45 : Nat → Int32 → Int32 → Int32 → Option (Int32)) (hk45 : ∀ (a0 : Nat) (x1 : Int32) (x2 : Int32) (x3 : Int32)  (H : Heap) (locs : List Loc) (ls : Array Slot), ah_g H0 D ca M z H → ah_L H0 locs → lv_has ls 5 [(0, .ref a0), (1, .int x1), (2, .int x2), (3, .int x3)] → ∀ Z, k45 a0 x1 x2 x3 = some Z → W p l e { frames := 2, cells := 0, slots := 0, locals := 45 } s m args below meth c H locs 0 0 (ah_Q below args s H0 D ca 0 0 (some (.int Z)) M z) (F0 m 45 ls [])) : ∀ (a0 : Nat) (x1 : Int32) (x3 : Int32) (s0 : Int32) (s1 : Int32)  (H : Heap) (locs : List Loc) (ls : Array Slot), ah_g H0 D ca M z H → ah_L H0 locs → lv_has ls 5 [(0, .ref a0), (1, .int x1), (3, .int x3)] → ∀ Z, fX11_count_81  k45 M a0 x1 x3 s0 s1 = some Z → W p l e { frames := 2, cells := 0, slots := 0, locals := 45 } s m args below meth c H locs 0 0 (ah_Q below args s H0 D ca 0 0 (some (.int Z)) M z) (F0 m 81 ls [.int s1, .int s0]) := by
  intro a0 x1 x3 s0 s1 H locs ls hG hL hl Z hf
  unfold fX11_count_81 at hf
  refine lv_iadd K.1 K.2.1 dX11_count_81 ?_
  refine lv_goto (tgt := 97) K.1 K.2.1 dX11_count_82 (by decide) ?_
  exact wX11_count_97 K k45 hk45 a0 x1 x3 (s0 + s1) _ _ _ hG hL (lv_sub hl [0, 1, 2] rfl) _ hf
def fX11_count_45_b   (k45 : Nat → Int32 → Int32 → Int32 → Option (Int32)) (M : ah_h) (a0 : Nat) (x1 : Int32) (x2 : Int32) (x3 : Int32) : Option (Int32) := (ah_gr M a0 11 0).bind fun v1 => (ah_ai M v1 0).bind fun v2 => if v2 ≤ x3 then (some x2) else ((fX11_aboard M a0 x3).bind fun v4 => (fX11_bits M v4).bind fun v6 => if x1 = 3 then (if v6 = 0 then (fX11_count_81 k45 M a0 x1 x3 x2 1) else (fX11_count_81 k45 M a0 x1 x3 x2 0)) else (if v6 ≤ x2 then (fX11_count_97 k45 M a0 x1 x3 x2) else (fX11_count_97 k45 M a0 x1 x3 v6)))
def fX11_count_45   (M : ah_h) : Nat → Nat → Int32 → Int32 → Int32 → Option (Int32)
  | 0 => fun _ _ _ _ => none
  | n + 1 => fun a0 x1 x2 x3 => fX11_count_45_b   (fX11_count_45   M n) M a0 x1 x2 x3
set_option maxRecDepth 100000 in
set_option maxHeartbeats 4000000 in
theorem wX11_count_45_b {p : Program} {l : Launch} {e : Env} {s : State} {m : MethodId} {args : Array Value} {below : List Frame} {meth : Method} {c : Code} {D : va_G} {ca : Nat → ClassId} {H0 : Heap} {M : ah_h} {z : Nat} (K : ah_K p s m args meth c D ca "ShipsThatMeetModel" cX11_count 5 (some .int))   (k45 : Nat → Int32 → Int32 → Int32 → Option (Int32)) (hk45 : ∀ (a0 : Nat) (x1 : Int32) (x2 : Int32) (x3 : Int32)  (H : Heap) (locs : List Loc) (ls : Array Slot), ah_g H0 D ca M z H → ah_L H0 locs → lv_has ls 5 [(0, .ref a0), (1, .int x1), (2, .int x2), (3, .int x3)] → ∀ Z, k45 a0 x1 x2 x3 = some Z → W p l e { frames := 2, cells := 0, slots := 0, locals := 45 } s m args below meth c H locs 0 0 (ah_Q below args s H0 D ca 0 0 (some (.int Z)) M z) (F0 m 45 ls [])) : ∀ (a0 : Nat) (x1 : Int32) (x2 : Int32) (x3 : Int32)  (H : Heap) (locs : List Loc) (ls : Array Slot), ah_g H0 D ca M z H → ah_L H0 locs → lv_has ls 5 [(0, .ref a0), (1, .int x1), (2, .int x2), (3, .int x3)] → ∀ Z, fX11_count_45_b   k45 M a0 x1 x2 x3 = some Z → W p l e { frames := 2, cells := 0, slots := 0, locals := 45 } s m args below meth c H locs 0 0 (ah_Q below args s H0 D ca 0 0 (some (.int Z)) M z) (F0 m 45 ls []) := by
  intro a0 x1 x2 x3 H locs ls hG hL hl Z hf
  unfold fX11_count_45_b at hf
  refine lv_iload_n K.1 K.2.1 dX11_count_45 rfl (lv_at hl 3 rfl) ?_
  refine lv_aload_n K.1 K.2.1 dX11_count_46 rfl (lv_at hl 0 rfl) ?_
  obtain ⟨v1, ev1, hf⟩ := Option.bind_eq_some_iff.mp hf
  refine ah_getr K hG ev1 ffX11_9_11 dX11_count_47 ?_
  refine lv_iconst (v := 0) K.1 K.2.1 dX11_count_50 (by decide) ?_
  obtain ⟨v2, ev2, hf⟩ := Option.bind_eq_some_iff.mp hf
  refine ah_iald K hG ev2 dX11_count_51 ?_
  refine lv_icmp_ge (tgt := 104) K.1 K.2.1 dX11_count_52 (by decide) (fun h3 => ?_) (fun h3 => ?_)
  · rw [if_pos h3] at hf
    refine lv_iload_n K.1 K.2.1 dX11_count_104 rfl (lv_at hl 2 rfl) ?_
    have hf := Option.some.inj hf
    subst hf
    exact ah_iret K hG hL (Nat.le_refl _) (Nat.le_refl _) dX11_count_105
  · rw [if_neg h3] at hf
    refine lv_aload_n K.1 K.2.1 dX11_count_55 rfl (lv_at hl 0 rfl) ?_
    refine lv_iload_n K.1 K.2.1 dX11_count_56 rfl (lv_at hl 3 rfl) ?_
    obtain ⟨v4, ev4, hf⟩ := Option.bind_eq_some_iff.mp hf
    obtain ⟨q5, eq5⟩ := ah_this ev4
    refine ah_callV (As := [.int x3]) (rest := []) K hG hL hl.1 eq5 rfl (ctX11_aboard l H0 D ca M z a0 x3 v4 ev4) hdX11_aboard q_1008 q_1010 q_54 q_1011 q_19 ⟨Nat.le_of_ble_eq_true rfl, Nat.le_of_ble_eq_true rfl⟩ rfl rfl (Nat.le_of_ble_eq_true rfl) ⟨Nat.le_refl _, Nat.le_refl _⟩ dX11_count_57 (fun H locs hG hL => ?_)
    obtain ⟨v6, ev6, hf⟩ := Option.bind_eq_some_iff.mp hf
    refine ah_callS (As := [.int v4]) (rest := []) K hG hL hl.1 (ctX11_bits l H0 D ca M z v4 v6 ev6) hdX11_bits q_1036 q_1037 q_54 q_1038 ⟨Nat.le_of_ble_eq_true rfl, Nat.le_of_ble_eq_true rfl⟩ rfl rfl (Nat.le_of_ble_eq_true rfl) ⟨Nat.le_refl _, Nat.le_refl _⟩ dX11_count_60 (fun H locs hG hL => ?_)
    refine lv_istore (lv' := [(4, .int v6), (0, .ref a0), (1, .int x1), (2, .int x2), (3, .int x3)]) K.1 K.2.1 dX11_count_63 hl (by decide) rfl (fun ls hl => ?_)
    refine lv_iload_n K.1 K.2.1 dX11_count_65 rfl (lv_at hl 2 rfl) ?_
    refine lv_iconst (v := 3) K.1 K.2.1 dX11_count_66 (by decide) ?_
    refine lv_icmp_ne (tgt := 85) K.1 K.2.1 dX11_count_67 (by decide) (fun h7 => ?_) (fun h7 => ?_)
    · rw [if_neg h7] at hf
      refine lv_iload K.1 K.2.1 dX11_count_85 (lv_at hl 0 rfl) ?_
      refine lv_iload_n K.1 K.2.1 dX11_count_87 rfl (lv_at hl 3 rfl) ?_
      refine lv_icmp_le (tgt := 96) K.1 K.2.1 dX11_count_88 (by decide) (fun h8 => ?_) (fun h8 => ?_)
      · rw [if_pos h8] at hf
        refine lv_iload_n K.1 K.2.1 dX11_count_96 rfl (lv_at hl 3 rfl) ?_
        exact wX11_count_97 K k45 hk45 a0 x1 x3 x2 _ _ _ hG hL (lv_sub hl [1, 2, 4] rfl) _ hf
      · rw [if_neg h8] at hf
        refine lv_iload K.1 K.2.1 dX11_count_91 (lv_at hl 0 rfl) ?_
        refine lv_goto (tgt := 97) K.1 K.2.1 dX11_count_93 (by decide) ?_
        exact wX11_count_97 K k45 hk45 a0 x1 x3 v6 _ _ _ hG hL (lv_sub hl [1, 2, 4] rfl) _ hf
    · rw [if_pos h7] at hf
      refine lv_iload_n K.1 K.2.1 dX11_count_70 rfl (lv_at hl 3 rfl) ?_
      refine lv_iload K.1 K.2.1 dX11_count_71 (lv_at hl 0 rfl) ?_
      refine lv_if_ne (tgt := 80) K.1 K.2.1 dX11_count_73 (by decide) (fun h9 => ?_) (fun h9 => ?_)
      · rw [if_neg h9] at hf
        refine lv_iconst (v := 0) K.1 K.2.1 dX11_count_80 (by decide) ?_
        exact wX11_count_81 K k45 hk45 a0 x1 x3 x2 0 _ _ _ hG hL (lv_sub hl [1, 2, 4] rfl) _ hf
      · rw [if_pos h9] at hf
        refine lv_iconst (v := 1) K.1 K.2.1 dX11_count_76 (by decide) ?_
        refine lv_goto (tgt := 81) K.1 K.2.1 dX11_count_77 (by decide) ?_
        exact wX11_count_81 K k45 hk45 a0 x1 x3 x2 1 _ _ _ hG hL (lv_sub hl [1, 2, 4] rfl) _ hf
theorem wX11_count_45 {p : Program} {l : Launch} {e : Env} {s : State} {m : MethodId} {args : Array Value} {below : List Frame} {meth : Method} {c : Code} {D : va_G} {ca : Nat → ClassId} {H0 : Heap} {M : ah_h} {z : Nat} (K : ah_K p s m args meth c D ca "ShipsThatMeetModel" cX11_count 5 (some .int))   (n : Nat) : ∀ (a0 : Nat) (x1 : Int32) (x2 : Int32) (x3 : Int32)  (H : Heap) (locs : List Loc) (ls : Array Slot), ah_g H0 D ca M z H → ah_L H0 locs → lv_has ls 5 [(0, .ref a0), (1, .int x1), (2, .int x2), (3, .int x3)] → ∀ Z, fX11_count_45   M n a0 x1 x2 x3 = some Z → W p l e { frames := 2, cells := 0, slots := 0, locals := 45 } s m args below meth c H locs 0 0 (ah_Q below args s H0 D ca 0 0 (some (.int Z)) M z) (F0 m 45 ls []) := by
  induction n with
  | zero => intro a0 x1 x2 x3 H locs ls hG hL hl Z hf; cases hf
  | succ n ih => exact wX11_count_45_b K  _ ih
def fX11_count (M : ah_h) (a0 : Nat) (x1 : Int32) : Option (Int32) := (ah_ob M a0 11).bind fun _ => if x1 = 0 then ((ah_gr M a0 11 0).bind fun v2 => (ah_ai M v2 x1).bind fun v3 => some v3) else if x1 = 1 then ((ah_gr M a0 11 0).bind fun v5 => (ah_ai M v5 x1).bind fun v6 => some v6) else if x1 = 2 then ((ah_gr M a0 11 0).bind fun v8 => (ah_ai M v8 x1).bind fun v9 => some v9) else if x1 = 3 then (fX11_count_45 M ah_fu a0 x1 0 0) else if x1 = 4 then (fX11_count_45 M ah_fu a0 x1 0 0) else (some (-1))
set_option maxRecDepth 100000 in
set_option maxHeartbeats 4000000 in
theorem ctX11_count (l : Launch) (H0 : Heap) (D : va_G) (ca : Nat → ClassId) (M : ah_h) (z : Nat) (a0 : Nat) (x1 : Int32) (Z : Int32) (hf : fX11_count M a0 x1 = some Z) : ah_ct l H0 D ca yX11_count cX11_count 5 (some .int) 2 45 0 0 [.ref a0, .int x1] M z (some (.int Z)) M z := by
  refine ah_of (by decide) (Nat.le_of_ble_eq_true rfl) ?_
  intro p e s m below meth c ls hin K hG hl
  have hL : ah_L H0 [] := ah_L.nil
  have hl : lv_has ls 5 [(0, .ref a0), (1, .int x1)] := hl
  unfold fX11_count at hf
  obtain ⟨-, -, hf⟩ := Option.bind_eq_some_iff.mp hf
  refine lv_iconst (v := 0) K.1 K.2.1 dX11_count_0 (by decide) ?_
  refine lv_istore_n (lv' := [(2, .int 0), (0, .ref a0), (1, .int x1)]) K.1 K.2.1 dX11_count_1 rfl hl (by decide) rfl (fun ls hl => ?_)
  refine lv_iload_n K.1 K.2.1 dX11_count_2 rfl (lv_at hl 2 rfl) ?_
  by_cases h1 : x1 = 0
  · rw [if_pos h1] at hf
    refine lv_tableIn (off := 33) (tgt := 36) K.1 K.2.1 dX11_count_3 (by rw [h1]; decide) (by rw [h1]; decide) (by rw [h1]; rfl) (by decide) ?_
    refine lv_aload_n K.1 K.2.1 dX11_count_36 rfl (lv_at hl 1 rfl) ?_
    obtain ⟨v2, ev2, hf⟩ := Option.bind_eq_some_iff.mp hf
    refine ah_getr K hG ev2 ffX11_9_11 dX11_count_37 ?_
    refine lv_iload_n K.1 K.2.1 dX11_count_40 rfl (lv_at hl 2 rfl) ?_
    obtain ⟨v3, ev3, hf⟩ := Option.bind_eq_some_iff.mp hf
    refine ah_iald K hG ev3 dX11_count_41 ?_
    have hf := Option.some.inj hf
    subst hf
    exact ah_iret K hG hL (Nat.le_refl _) (Nat.le_refl _) dX11_count_42
  rw [if_neg h1] at hf
  by_cases h4 : x1 = 1
  · rw [if_pos h4] at hf
    refine lv_tableIn (off := 33) (tgt := 36) K.1 K.2.1 dX11_count_3 (by rw [h4]; decide) (by rw [h4]; decide) (by rw [h4]; rfl) (by decide) ?_
    refine lv_aload_n K.1 K.2.1 dX11_count_36 rfl (lv_at hl 1 rfl) ?_
    obtain ⟨v5, ev5, hf⟩ := Option.bind_eq_some_iff.mp hf
    refine ah_getr K hG ev5 ffX11_9_11 dX11_count_37 ?_
    refine lv_iload_n K.1 K.2.1 dX11_count_40 rfl (lv_at hl 2 rfl) ?_
    obtain ⟨v6, ev6, hf⟩ := Option.bind_eq_some_iff.mp hf
    refine ah_iald K hG ev6 dX11_count_41 ?_
    have hf := Option.some.inj hf
    subst hf
    exact ah_iret K hG hL (Nat.le_refl _) (Nat.le_refl _) dX11_count_42
  rw [if_neg h4] at hf
  by_cases h7 : x1 = 2
  · rw [if_pos h7] at hf
    refine lv_tableIn (off := 33) (tgt := 36) K.1 K.2.1 dX11_count_3 (by rw [h7]; decide) (by rw [h7]; decide) (by rw [h7]; rfl) (by decide) ?_
    refine lv_aload_n K.1 K.2.1 dX11_count_36 rfl (lv_at hl 1 rfl) ?_
    obtain ⟨v8, ev8, hf⟩ := Option.bind_eq_some_iff.mp hf
    refine ah_getr K hG ev8 ffX11_9_11 dX11_count_37 ?_
    refine lv_iload_n K.1 K.2.1 dX11_count_40 rfl (lv_at hl 2 rfl) ?_
    obtain ⟨v9, ev9, hf⟩ := Option.bind_eq_some_iff.mp hf
    refine ah_iald K hG ev9 dX11_count_41 ?_
    have hf := Option.some.inj hf
    subst hf
    exact ah_iret K hG hL (Nat.le_refl _) (Nat.le_refl _) dX11_count_42
  rw [if_neg h7] at hf
  by_cases h10 : x1 = 3
  · rw [if_pos h10] at hf
    refine lv_tableIn (off := 40) (tgt := 43) K.1 K.2.1 dX11_count_3 (by rw [h10]; decide) (by rw [h10]; decide) (by rw [h10]; rfl) (by decide) ?_
    refine lv_iconst (v := 0) K.1 K.2.1 dX11_count_43 (by decide) ?_
    refine lv_istore_n (lv' := [(3, .int 0), (2, .int 0), (0, .ref a0), (1, .int x1)]) K.1 K.2.1 dX11_count_44 rfl hl (by decide) rfl (fun ls hl => ?_)
    exact wX11_count_45 K  ah_fu a0 x1 0 0 _ _ _ hG hL (lv_sub hl [2, 3, 1, 0] rfl) _ hf
  rw [if_neg h10] at hf
  by_cases h11 : x1 = 4
  · rw [if_pos h11] at hf
    refine lv_tableIn (off := 40) (tgt := 43) K.1 K.2.1 dX11_count_3 (by rw [h11]; decide) (by rw [h11]; decide) (by rw [h11]; rfl) (by decide) ?_
    refine lv_iconst (v := 0) K.1 K.2.1 dX11_count_43 (by decide) ?_
    refine lv_istore_n (lv' := [(3, .int 0), (2, .int 0), (0, .ref a0), (1, .int x1)]) K.1 K.2.1 dX11_count_44 rfl hl (by decide) rfl (fun ls hl => ?_)
    exact wX11_count_45 K  ah_fu a0 x1 0 0 _ _ _ hG hL (lv_sub hl [2, 3, 1, 0] rfl) _ hf
  rw [if_neg h11] at hf
  have th1 := lv_neT (a := 0) h1 (by decide)
  have th4 := lv_neT (a := 1) h4 (by decide)
  have th7 := lv_neT (a := 2) h7 (by decide)
  have th10 := lv_neT (a := 3) h10 (by decide)
  have th11 := lv_neT (a := 4) h11 (by decide)
  refine lv_tableOut (tgt := 106) K.1 K.2.1 dX11_count_3 (by omega) (by decide) ?_
  refine lv_iconst (v := (-1)) K.1 K.2.1 dX11_count_106 (by decide) ?_
  have hf := Option.some.inj hf
  subst hf
  exact ah_iret K hG hL (Nat.le_refl _) (Nat.le_refl _) dX11_count_107
