-- X11_common X11_comesBy X10_firstOfWay X11_likely X11_fewestBy X11_fewest X11_crews X10_fewestMeetings X10_fewest X10_crews
def fX11_common_s (self : Int64 → Int64 → Option (Int64)) (M : ah_h) (x0 : Int64) (x2 : Int64) : Option (Int64) := if (lg_cmp x2 0) = 0 then (some x0) else (if x2 = 0 then none else (self  x2 (x0 - x0 / x2 * x2)).bind fun v3 => some v3)
def fX11_common_r (M : ah_h) : Nat → Int64 → Int64 → Option (Int64)
  | 0 => fun _ _ => none
  | n + 1 => fun x0 x2 => fX11_common_s (fX11_common_r M n) M x0 x2
def fX11_common (M : ah_h) (x0 : Int64) (x2 : Int64) : Option (Int64) := fX11_common_r M 200 x0 x2
set_option maxRecDepth 100000 in
set_option maxHeartbeats 4000000 in
theorem ctX11_common_r (l : Launch) (H0 : Heap) (D : va_G) (ca : Nat → ClassId) (M : ah_h) (z : Nat) (n9 : Nat) : ∀ (x0 : Int64) (x2 : Int64) (Z : Int64), fX11_common_r M n9 x0 x2 = some Z → ah_ct l H0 D ca yX11_common cX11_common 4 (some .long) (n9 + 0) (n9 * 23 + 0) 0 0 [.long x0, .long x2] M z (some (.long Z)) M z := by
  induction n9 with
  | zero => intro x0 x2 Z hf; cases hf
  | succ n9 hself =>
    intro x0 x2 Z hf
    refine ah_of (by decide) (Nat.le_of_ble_eq_true rfl) ?_
    intro p e s m below meth c ls hin K hG hl
    have hL : ah_L H0 [] := ah_L.nil
    have hl : lv_has ls 4 [(0, .long x0), (2, .long x2)] := hl
    have hf : fX11_common_s (fX11_common_r M n9) M x0 x2 = some Z := hf
    generalize fX11_common_r M n9 = self at hself hf
    unfold fX11_common_s at hf
    refine lv_lload_n K.1 K.2.1 dX11_common_0 rfl (lv_at hl 1 rfl) ?_
    refine lv_lconst (v := 0) K.1 K.2.1 dX11_common_1 (by decide) ?_
    refine W.lcmp K.1 K.2.1 dX11_common_2 ?_
    refine lv_if_ne (tgt := 10) K.1 K.2.1 dX11_common_3 (by decide) (fun h1 => ?_) (fun h1 => ?_)
    · rw [if_neg h1] at hf
      refine lv_lload_n K.1 K.2.1 dX11_common_10 rfl (lv_at hl 1 rfl) ?_
      refine lv_lload_n K.1 K.2.1 dX11_common_11 rfl (lv_at hl 0 rfl) ?_
      refine lv_lload_n K.1 K.2.1 dX11_common_12 rfl (lv_at hl 1 rfl) ?_
      by_cases h2 : x2 = 0
      · rw [if_pos h2] at hf; cases hf
      rw [if_neg h2] at hf
      refine lv_lrem K.1 K.2.1 dX11_common_13 h2 ?_
      obtain ⟨v3, ev3, hf⟩ := Option.bind_eq_some_iff.mp hf
      refine ah_callS (As := [.long x2, .long (x0 - x0 / x2 * x2)]) (rest := []) K hG hL hl.1 (hself x2 (x0 - x0 / x2 * x2) _ ev3) hdX11_common q_1132 q_1133 q_54 q_1134 ⟨by show _ ≤ n9 + 1 + 0; omega, by show _ ≤ (n9 + 1) * 23 + 0; omega⟩ rfl rfl (Nat.le_of_ble_eq_true rfl) ⟨Nat.le_refl _, Nat.le_refl _⟩ dX11_common_14 (fun H locs hG hL => ?_)
      have hf := Option.some.inj hf
      subst hf
      exact ah_lret K hG hL (Nat.le_refl _) (Nat.le_refl _) dX11_common_17
    · rw [if_pos h1] at hf
      refine lv_lload_n K.1 K.2.1 dX11_common_6 rfl (lv_at hl 0 rfl) ?_
      refine lv_goto (tgt := 17) K.1 K.2.1 dX11_common_7 (by decide) ?_
      have hf := Option.some.inj hf
      subst hf
      exact ah_lret K hG hL (Nat.le_refl _) (Nat.le_refl _) dX11_common_17
theorem ctX11_common (l : Launch) (H0 : Heap) (D : va_G) (ca : Nat → ClassId) (M : ah_h) (z : Nat) (x0 : Int64) (x2 : Int64) (Z : Int64) (hf : fX11_common M x0 x2 = some Z) : ah_ct l H0 D ca yX11_common cX11_common 4 (some .long) 200 4600 0 0 [.long x0, .long x2] M z (some (.long Z)) M z := ctX11_common_r l H0 D ca M z 200 x0 x2 Z hf
def fX11_comesBy_119 (self : ah_h → Nat → Int32 → Int32 → Option (Int32 × ah_h)) (k19 : ah_h → Nat → Int32 → Int32 → Int32 → Int32 → Option (Int32 × ah_h))  (M : ah_h) (a0 : Nat) (x1 : Int32) (x2 : Int32) (x3 : Int32) (x4 : Int32) : Option (Int32 × ah_h) := k19 M a0 x1 x2 x3 (x4 + 1)
set_option maxRecDepth 100000 in
set_option maxHeartbeats 4000000 in
theorem wX11_comesBy_119 {p : Program} {l : Launch} {e : Env} {s : State} {m : MethodId} {args : Array Value} {below : List Frame} {meth : Method} {c : Code} {D : va_G} {ca : Nat → ClassId} {H0 : Heap} {z : Nat} (K : ah_K p s m args meth c D ca "ShipsThatMeetModel" cX11_comesBy 6 (some .boolean))  {n9 : Nat} (self : ah_h → Nat → Int32 → Int32 → Option (Int32 × ah_h)) (hself : ∀ (M : ah_h) (z : Nat) (a0 : Nat) (x1 : Int32) (x2 : Int32) (Z : Int32 × ah_h), self M a0 x1 x2 = some Z → ah_ct l H0 D ca yX11_comesBy cX11_comesBy 6 (some .boolean) (n9 + 5) (n9 * 25 + 116) 0 0 [.ref a0, .int x1, .int x2] M z (some (.int Z.1)) Z.2 z) (k19 : ah_h → Nat → Int32 → Int32 → Int32 → Int32 → Option (Int32 × ah_h)) (hk19 : ∀ (M : ah_h) (a0 : Nat) (x1 : Int32) (x2 : Int32) (x3 : Int32) (x4 : Int32)  (H : Heap) (locs : List Loc) (ls : Array Slot), ah_g H0 D ca M z H → ah_L H0 locs → lv_has ls 6 [(0, .ref a0), (1, .int x1), (2, .int x2), (3, .int x3), (4, .int x4)] → ∀ Z, k19 M a0 x1 x2 x3 x4 = some Z → W p l e { frames := n9 + 1 + 5, cells := 0, slots := 0, locals := (n9 + 1) * 25 + 116 } s m args below meth c H locs 0 0 (ah_Q below args s H0 D ca 0 0 (some (.int Z.1)) Z.2 z) (F0 m 19 ls [])) : ∀ (M : ah_h) (a0 : Nat) (x1 : Int32) (x2 : Int32) (x3 : Int32) (x4 : Int32)  (H : Heap) (locs : List Loc) (ls : Array Slot), ah_g H0 D ca M z H → ah_L H0 locs → lv_has ls 6 [(0, .ref a0), (1, .int x1), (2, .int x2), (3, .int x3), (4, .int x4)] → ∀ Z, fX11_comesBy_119 self k19  M a0 x1 x2 x3 x4 = some Z → W p l e { frames := n9 + 1 + 5, cells := 0, slots := 0, locals := (n9 + 1) * 25 + 116 } s m args below meth c H locs 0 0 (ah_Q below args s H0 D ca 0 0 (some (.int Z.1)) Z.2 z) (F0 m 119 ls []) := by
  intro M a0 x1 x2 x3 x4 H locs ls hG hL hl Z hf
  unfold fX11_comesBy_119 at hf
  refine lv_iinc (v := x4 + 1) (lv' := [(4, .int (x4 + 1)), (0, .ref a0), (1, .int x1), (2, .int x2), (3, .int x3)]) K.1 K.2.1 dX11_comesBy_119 hl (k := 4) rfl rfl (by decide) rfl (fun ls hl => ?_)
  refine lv_goto (tgt := 19) K.1 K.2.1 dX11_comesBy_122 (by decide) ?_
  exact hk19 M a0 x1 x2 x3 (x4 + 1) _ _ _ hG hL (lv_sub hl [1, 2, 3, 4, 0] rfl) _ hf
def fX11_comesBy_113 (self : ah_h → Nat → Int32 → Int32 → Option (Int32 × ah_h)) (k19 : ah_h → Nat → Int32 → Int32 → Int32 → Int32 → Option (Int32 × ah_h)) (k40 : ah_h → Nat → Int32 → Int32 → Int32 → Int32 → Int32 → Option (Int32 × ah_h))  (M : ah_h) (a0 : Nat) (x1 : Int32) (x2 : Int32) (x3 : Int32) (x4 : Int32) (x5 : Int32) : Option (Int32 × ah_h) := k40 M a0 x1 x2 x3 x4 (x5 + 1)
set_option maxRecDepth 100000 in
set_option maxHeartbeats 4000000 in
theorem wX11_comesBy_113 {p : Program} {l : Launch} {e : Env} {s : State} {m : MethodId} {args : Array Value} {below : List Frame} {meth : Method} {c : Code} {D : va_G} {ca : Nat → ClassId} {H0 : Heap} {z : Nat} (K : ah_K p s m args meth c D ca "ShipsThatMeetModel" cX11_comesBy 6 (some .boolean))  {n9 : Nat} (self : ah_h → Nat → Int32 → Int32 → Option (Int32 × ah_h)) (hself : ∀ (M : ah_h) (z : Nat) (a0 : Nat) (x1 : Int32) (x2 : Int32) (Z : Int32 × ah_h), self M a0 x1 x2 = some Z → ah_ct l H0 D ca yX11_comesBy cX11_comesBy 6 (some .boolean) (n9 + 5) (n9 * 25 + 116) 0 0 [.ref a0, .int x1, .int x2] M z (some (.int Z.1)) Z.2 z) (k19 : ah_h → Nat → Int32 → Int32 → Int32 → Int32 → Option (Int32 × ah_h)) (hk19 : ∀ (M : ah_h) (a0 : Nat) (x1 : Int32) (x2 : Int32) (x3 : Int32) (x4 : Int32)  (H : Heap) (locs : List Loc) (ls : Array Slot), ah_g H0 D ca M z H → ah_L H0 locs → lv_has ls 6 [(0, .ref a0), (1, .int x1), (2, .int x2), (3, .int x3), (4, .int x4)] → ∀ Z, k19 M a0 x1 x2 x3 x4 = some Z → W p l e { frames := n9 + 1 + 5, cells := 0, slots := 0, locals := (n9 + 1) * 25 + 116 } s m args below meth c H locs 0 0 (ah_Q below args s H0 D ca 0 0 (some (.int Z.1)) Z.2 z) (F0 m 19 ls [])) (k40 : ah_h → Nat → Int32 → Int32 → Int32 → Int32 → Int32 → Option (Int32 × ah_h)) (hk40 : ∀ (M : ah_h) (a0 : Nat) (x1 : Int32) (x2 : Int32) (x3 : Int32) (x4 : Int32) (x5 : Int32)  (H : Heap) (locs : List Loc) (ls : Array Slot), ah_g H0 D ca M z H → ah_L H0 locs → lv_has ls 6 [(0, .ref a0), (1, .int x1), (2, .int x2), (3, .int x3), (4, .int x4), (5, .int x5)] → ∀ Z, k40 M a0 x1 x2 x3 x4 x5 = some Z → W p l e { frames := n9 + 1 + 5, cells := 0, slots := 0, locals := (n9 + 1) * 25 + 116 } s m args below meth c H locs 0 0 (ah_Q below args s H0 D ca 0 0 (some (.int Z.1)) Z.2 z) (F0 m 40 ls [])) : ∀ (M : ah_h) (a0 : Nat) (x1 : Int32) (x2 : Int32) (x3 : Int32) (x4 : Int32) (x5 : Int32)  (H : Heap) (locs : List Loc) (ls : Array Slot), ah_g H0 D ca M z H → ah_L H0 locs → lv_has ls 6 [(0, .ref a0), (1, .int x1), (2, .int x2), (3, .int x3), (4, .int x4), (5, .int x5)] → ∀ Z, fX11_comesBy_113 self k19 k40  M a0 x1 x2 x3 x4 x5 = some Z → W p l e { frames := n9 + 1 + 5, cells := 0, slots := 0, locals := (n9 + 1) * 25 + 116 } s m args below meth c H locs 0 0 (ah_Q below args s H0 D ca 0 0 (some (.int Z.1)) Z.2 z) (F0 m 113 ls []) := by
  intro M a0 x1 x2 x3 x4 x5 H locs ls hG hL hl Z hf
  unfold fX11_comesBy_113 at hf
  refine lv_iinc (v := x5 + 1) (lv' := [(5, .int (x5 + 1)), (0, .ref a0), (1, .int x1), (2, .int x2), (3, .int x3), (4, .int x4)]) K.1 K.2.1 dX11_comesBy_113 hl (k := 5) rfl rfl (by decide) rfl (fun ls hl => ?_)
  refine lv_goto (tgt := 40) K.1 K.2.1 dX11_comesBy_116 (by decide) ?_
  exact hk40 M a0 x1 x2 x3 x4 (x5 + 1) _ _ _ hG hL (lv_sub hl [1, 2, 3, 4, 5, 0] rfl) _ hf
def fX11_comesBy_40_b (self : ah_h → Nat → Int32 → Int32 → Option (Int32 × ah_h)) (k19 : ah_h → Nat → Int32 → Int32 → Int32 → Int32 → Option (Int32 × ah_h)) (k40 : ah_h → Nat → Int32 → Int32 → Int32 → Int32 → Int32 → Option (Int32 × ah_h))  (M : ah_h) (a0 : Nat) (x1 : Int32) (x2 : Int32) (x3 : Int32) (x4 : Int32) (x5 : Int32) : Option (Int32 × ah_h) := (ah_gr M a0 11 0).bind fun v1 => (ah_ai M v1 0).bind fun v2 => if v2 ≤ x5 then (fX11_comesBy_119 self k19 M a0 x1 x2 x3 x4) else (if x3 = 0 then ((fX11_mayMeet M a0 x4 x5).bind fun v5 => if v5 = 0 then (fX11_comesBy_113 self k19 k40 M a0 x1 x2 x3 x4 x5) else ((fX11_meets M a0 x4 x5).bind fun v8 => (ah_ob v8 a0 11).bind fun q11 => (self v8 a0 (x1 + 1) (x2 - 1)).bind fun v10 => (fX11_back v10.2 a0 x1).bind fun v12 => if v10.1 = 0 then (fX11_comesBy_113 self k19 k40 v12 a0 x1 x2 v10.1 x4 x5) else (if x1 = 0 then ((ah_pf v12 a0 11 21 (.int ((10 * x4) + x5))).bind fun M16 => fX11_comesBy_113 self k19 k40 M16 a0 x1 x2 v10.1 x4 x5) else (fX11_comesBy_113 self k19 k40 v12 a0 x1 x2 v10.1 x4 x5)))) else (fX11_comesBy_119 self k19 M a0 x1 x2 x3 x4))
def fX11_comesBy_40 (self : ah_h → Nat → Int32 → Int32 → Option (Int32 × ah_h)) (k19 : ah_h → Nat → Int32 → Int32 → Int32 → Int32 → Option (Int32 × ah_h))  : Nat → ah_h → Nat → Int32 → Int32 → Int32 → Int32 → Int32 → Option (Int32 × ah_h)
  | 0 => fun _ _ _ _ _ _ _ => none
  | n + 1 => fun M a0 x1 x2 x3 x4 x5 => fX11_comesBy_40_b self k19 (fX11_comesBy_40 self k19  n)  M a0 x1 x2 x3 x4 x5
set_option maxRecDepth 100000 in
set_option maxHeartbeats 4000000 in
theorem wX11_comesBy_40_b {p : Program} {l : Launch} {e : Env} {s : State} {m : MethodId} {args : Array Value} {below : List Frame} {meth : Method} {c : Code} {D : va_G} {ca : Nat → ClassId} {H0 : Heap} {z : Nat} (K : ah_K p s m args meth c D ca "ShipsThatMeetModel" cX11_comesBy 6 (some .boolean))  {n9 : Nat} (self : ah_h → Nat → Int32 → Int32 → Option (Int32 × ah_h)) (hself : ∀ (M : ah_h) (z : Nat) (a0 : Nat) (x1 : Int32) (x2 : Int32) (Z : Int32 × ah_h), self M a0 x1 x2 = some Z → ah_ct l H0 D ca yX11_comesBy cX11_comesBy 6 (some .boolean) (n9 + 5) (n9 * 25 + 116) 0 0 [.ref a0, .int x1, .int x2] M z (some (.int Z.1)) Z.2 z) (k19 : ah_h → Nat → Int32 → Int32 → Int32 → Int32 → Option (Int32 × ah_h)) (hk19 : ∀ (M : ah_h) (a0 : Nat) (x1 : Int32) (x2 : Int32) (x3 : Int32) (x4 : Int32)  (H : Heap) (locs : List Loc) (ls : Array Slot), ah_g H0 D ca M z H → ah_L H0 locs → lv_has ls 6 [(0, .ref a0), (1, .int x1), (2, .int x2), (3, .int x3), (4, .int x4)] → ∀ Z, k19 M a0 x1 x2 x3 x4 = some Z → W p l e { frames := n9 + 1 + 5, cells := 0, slots := 0, locals := (n9 + 1) * 25 + 116 } s m args below meth c H locs 0 0 (ah_Q below args s H0 D ca 0 0 (some (.int Z.1)) Z.2 z) (F0 m 19 ls [])) (k40 : ah_h → Nat → Int32 → Int32 → Int32 → Int32 → Int32 → Option (Int32 × ah_h)) (hk40 : ∀ (M : ah_h) (a0 : Nat) (x1 : Int32) (x2 : Int32) (x3 : Int32) (x4 : Int32) (x5 : Int32)  (H : Heap) (locs : List Loc) (ls : Array Slot), ah_g H0 D ca M z H → ah_L H0 locs → lv_has ls 6 [(0, .ref a0), (1, .int x1), (2, .int x2), (3, .int x3), (4, .int x4), (5, .int x5)] → ∀ Z, k40 M a0 x1 x2 x3 x4 x5 = some Z → W p l e { frames := n9 + 1 + 5, cells := 0, slots := 0, locals := (n9 + 1) * 25 + 116 } s m args below meth c H locs 0 0 (ah_Q below args s H0 D ca 0 0 (some (.int Z.1)) Z.2 z) (F0 m 40 ls [])) : ∀ (M : ah_h) (a0 : Nat) (x1 : Int32) (x2 : Int32) (x3 : Int32) (x4 : Int32) (x5 : Int32)  (H : Heap) (locs : List Loc) (ls : Array Slot), ah_g H0 D ca M z H → ah_L H0 locs → lv_has ls 6 [(0, .ref a0), (1, .int x1), (2, .int x2), (3, .int x3), (4, .int x4), (5, .int x5)] → ∀ Z, fX11_comesBy_40_b self k19 k40  M a0 x1 x2 x3 x4 x5 = some Z → W p l e { frames := n9 + 1 + 5, cells := 0, slots := 0, locals := (n9 + 1) * 25 + 116 } s m args below meth c H locs 0 0 (ah_Q below args s H0 D ca 0 0 (some (.int Z.1)) Z.2 z) (F0 m 40 ls []) := by
  intro M a0 x1 x2 x3 x4 x5 H locs ls hG hL hl Z hf
  unfold fX11_comesBy_40_b at hf
  refine lv_iload K.1 K.2.1 dX11_comesBy_40 (lv_at hl 5 rfl) ?_
  refine lv_aload_n K.1 K.2.1 dX11_comesBy_42 rfl (lv_at hl 0 rfl) ?_
  obtain ⟨v1, ev1, hf⟩ := Option.bind_eq_some_iff.mp hf
  refine ah_getr K hG ev1 ffX11_9_11 dX11_comesBy_43 ?_
  refine lv_iconst (v := 0) K.1 K.2.1 dX11_comesBy_46 (by decide) ?_
  obtain ⟨v2, ev2, hf⟩ := Option.bind_eq_some_iff.mp hf
  refine ah_iald K hG ev2 dX11_comesBy_47 ?_
  refine lv_icmp_ge (tgt := 119) K.1 K.2.1 dX11_comesBy_48 (by decide) (fun h3 => ?_) (fun h3 => ?_)
  · rw [if_pos h3] at hf
    exact wX11_comesBy_119 K self hself k19 hk19 M a0 x1 x2 x3 x4 _ _ _ hG hL (lv_sub hl [0, 1, 2, 3, 4] rfl) _ hf
  · rw [if_neg h3] at hf
    refine lv_iload_n K.1 K.2.1 dX11_comesBy_51 rfl (lv_at hl 3 rfl) ?_
    refine lv_if_ne (tgt := 119) K.1 K.2.1 dX11_comesBy_52 (by decide) (fun h4 => ?_) (fun h4 => ?_)
    · rw [if_neg h4] at hf
      exact wX11_comesBy_119 K self hself k19 hk19 M a0 x1 x2 x3 x4 _ _ _ hG hL (lv_sub hl [0, 1, 2, 3, 4] rfl) _ hf
    · rw [if_pos h4] at hf
      refine lv_aload_n K.1 K.2.1 dX11_comesBy_55 rfl (lv_at hl 0 rfl) ?_
      refine lv_iload K.1 K.2.1 dX11_comesBy_56 (lv_at hl 4 rfl) ?_
      refine lv_iload K.1 K.2.1 dX11_comesBy_58 (lv_at hl 5 rfl) ?_
      obtain ⟨v5, ev5, hf⟩ := Option.bind_eq_some_iff.mp hf
      obtain ⟨q6, eq6⟩ := ah_this ev5
      refine ah_callV (As := [.int x4, .int x5]) (rest := []) K hG hL hl.1 eq6 rfl (ctX11_mayMeet l H0 D ca M z a0 x4 x5 v5 ev5) hdX11_mayMeet q_1016 q_1018 q_54 q_1019 q_21 ⟨by show _ ≤ n9 + 1 + 5; omega, by show _ ≤ (n9 + 1) * 25 + 116; omega⟩ rfl rfl (Nat.le_of_ble_eq_true rfl) ⟨Nat.le_refl _, Nat.le_refl _⟩ dX11_comesBy_60 (fun H locs hG hL => ?_)
      refine lv_if_ne (tgt := 69) K.1 K.2.1 dX11_comesBy_63 (by decide) (fun h7 => ?_) (fun h7 => ?_)
      · rw [if_neg h7] at hf
        refine lv_aload_n K.1 K.2.1 dX11_comesBy_69 rfl (lv_at hl 0 rfl) ?_
        refine lv_iload K.1 K.2.1 dX11_comesBy_70 (lv_at hl 4 rfl) ?_
        refine lv_iload K.1 K.2.1 dX11_comesBy_72 (lv_at hl 5 rfl) ?_
        obtain ⟨v8, ev8, hf⟩ := Option.bind_eq_some_iff.mp hf
        obtain ⟨q9, eq9⟩ := ah_this ev8
        refine ah_callV (As := [.int x4, .int x5]) (rest := []) K hG hL hl.1 eq9 rfl (ctX11_meets l H0 D ca M z a0 x4 x5 v8 ev8) hdX11_meets q_1020 q_1022 q_54 q_1023 q_22 ⟨by show _ ≤ n9 + 1 + 5; omega, by show _ ≤ (n9 + 1) * 25 + 116; omega⟩ rfl rfl (Nat.le_of_ble_eq_true rfl) ⟨Nat.le_refl _, Nat.le_refl _⟩ dX11_comesBy_74 (fun H locs hG hL => ?_)
        refine lv_aload_n K.1 K.2.1 dX11_comesBy_77 rfl (lv_at hl 0 rfl) ?_
        refine lv_iload_n K.1 K.2.1 dX11_comesBy_78 rfl (lv_at hl 1 rfl) ?_
        refine lv_iconst (v := 1) K.1 K.2.1 dX11_comesBy_79 (by decide) ?_
        refine lv_iadd K.1 K.2.1 dX11_comesBy_80 ?_
        refine lv_iload_n K.1 K.2.1 dX11_comesBy_81 rfl (lv_at hl 2 rfl) ?_
        refine lv_iconst (v := 1) K.1 K.2.1 dX11_comesBy_82 (by decide) ?_
        refine lv_isub K.1 K.2.1 dX11_comesBy_83 ?_
        obtain ⟨q11, eq11, hf⟩ := Option.bind_eq_some_iff.mp hf
        obtain ⟨v10, ev10, hf⟩ := Option.bind_eq_some_iff.mp hf
        refine ah_callV (As := [.int (x1 + 1), .int (x2 - 1)]) (rest := []) K hG hL hl.1 (ah_ob_some eq11) rfl (hself v8 z a0 (x1 + 1) (x2 - 1) _ ev10) hdX11_comesBy q_1143 q_1145 q_54 q_1146 q_41 ⟨by show _ ≤ n9 + 1 + 5; omega, by show _ ≤ (n9 + 1) * 25 + 116; omega⟩ rfl rfl (Nat.le_of_ble_eq_true rfl) ⟨Nat.le_refl _, Nat.le_refl _⟩ dX11_comesBy_84 (fun H locs hG hL => ?_)
        refine lv_istore_n (lv' := [(3, .int v10.1), (0, .ref a0), (1, .int x1), (2, .int x2), (4, .int x4), (5, .int x5)]) K.1 K.2.1 dX11_comesBy_87 rfl hl (by decide) rfl (fun ls hl => ?_)
        refine lv_aload_n K.1 K.2.1 dX11_comesBy_88 rfl (lv_at hl 1 rfl) ?_
        refine lv_iload_n K.1 K.2.1 dX11_comesBy_89 rfl (lv_at hl 2 rfl) ?_
        obtain ⟨v12, ev12, hf⟩ := Option.bind_eq_some_iff.mp hf
        obtain ⟨q13, eq13⟩ := ah_this ev12
        refine ah_callV (As := [.int x1]) (rest := []) K hG hL hl.1 eq13 rfl (ctX11_back l H0 D ca v10.2 z a0 x1 v12 ev12) hdX11_back q_1155 q_1157 q_54 q_1158 q_44 ⟨by show _ ≤ n9 + 1 + 5; omega, by show _ ≤ (n9 + 1) * 25 + 116; omega⟩ rfl rfl (Nat.le_of_ble_eq_true rfl) ⟨Nat.le_refl _, Nat.le_refl _⟩ dX11_comesBy_90 (fun H locs hG hL => ?_)
        refine lv_iload_n K.1 K.2.1 dX11_comesBy_93 rfl (lv_at hl 0 rfl) ?_
        refine lv_if_eq (tgt := 113) K.1 K.2.1 dX11_comesBy_94 (by decide) (fun h14 => ?_) (fun h14 => ?_)
        · rw [if_pos h14] at hf
          exact wX11_comesBy_113 K self hself k19 hk19 k40 hk40 v12 a0 x1 x2 v10.1 x4 x5 _ _ _ hG hL (lv_sub hl [1, 2, 3, 0, 4, 5] rfl) _ hf
        · rw [if_neg h14] at hf
          refine lv_iload_n K.1 K.2.1 dX11_comesBy_97 rfl (lv_at hl 2 rfl) ?_
          refine lv_if_ne (tgt := 113) K.1 K.2.1 dX11_comesBy_98 (by decide) (fun h15 => ?_) (fun h15 => ?_)
          · rw [if_neg h15] at hf
            exact wX11_comesBy_113 K self hself k19 hk19 k40 hk40 v12 a0 x1 x2 v10.1 x4 x5 _ _ _ hG hL (lv_sub hl [1, 2, 3, 0, 4, 5] rfl) _ hf
          · rw [if_pos h15] at hf
            refine lv_aload_n K.1 K.2.1 dX11_comesBy_101 rfl (lv_at hl 1 rfl) ?_
            refine lv_bipush (v := 10) K.1 K.2.1 dX11_comesBy_102 (by decide) ?_
            refine lv_iload K.1 K.2.1 dX11_comesBy_104 (lv_at hl 4 rfl) ?_
            refine lv_imul K.1 K.2.1 dX11_comesBy_106 ?_
            refine lv_iload K.1 K.2.1 dX11_comesBy_107 (lv_at hl 5 rfl) ?_
            refine lv_iadd K.1 K.2.1 dX11_comesBy_109 ?_
            obtain ⟨M16, eM16, hf⟩ := Option.bind_eq_some_iff.mp hf
            refine ah_put K hG hL eM16 fwX11_212_11 rfl rfl dX11_comesBy_110 (fun H locs hG hL => ?_)
            exact wX11_comesBy_113 K self hself k19 hk19 k40 hk40 M16 a0 x1 x2 v10.1 x4 x5 _ _ _ hG hL (lv_sub hl [1, 2, 3, 0, 4, 5] rfl) _ hf
      · rw [if_pos h7] at hf
        refine lv_goto (tgt := 113) K.1 K.2.1 dX11_comesBy_66 (by decide) ?_
        exact wX11_comesBy_113 K self hself k19 hk19 k40 hk40 M a0 x1 x2 x3 x4 x5 _ _ _ hG hL (lv_sub hl [0, 1, 2, 3, 4, 5] rfl) _ hf
theorem wX11_comesBy_40 {p : Program} {l : Launch} {e : Env} {s : State} {m : MethodId} {args : Array Value} {below : List Frame} {meth : Method} {c : Code} {D : va_G} {ca : Nat → ClassId} {H0 : Heap} {z : Nat} (K : ah_K p s m args meth c D ca "ShipsThatMeetModel" cX11_comesBy 6 (some .boolean))  {n9 : Nat} (self : ah_h → Nat → Int32 → Int32 → Option (Int32 × ah_h)) (hself : ∀ (M : ah_h) (z : Nat) (a0 : Nat) (x1 : Int32) (x2 : Int32) (Z : Int32 × ah_h), self M a0 x1 x2 = some Z → ah_ct l H0 D ca yX11_comesBy cX11_comesBy 6 (some .boolean) (n9 + 5) (n9 * 25 + 116) 0 0 [.ref a0, .int x1, .int x2] M z (some (.int Z.1)) Z.2 z) (k19 : ah_h → Nat → Int32 → Int32 → Int32 → Int32 → Option (Int32 × ah_h)) (hk19 : ∀ (M : ah_h) (a0 : Nat) (x1 : Int32) (x2 : Int32) (x3 : Int32) (x4 : Int32)  (H : Heap) (locs : List Loc) (ls : Array Slot), ah_g H0 D ca M z H → ah_L H0 locs → lv_has ls 6 [(0, .ref a0), (1, .int x1), (2, .int x2), (3, .int x3), (4, .int x4)] → ∀ Z, k19 M a0 x1 x2 x3 x4 = some Z → W p l e { frames := n9 + 1 + 5, cells := 0, slots := 0, locals := (n9 + 1) * 25 + 116 } s m args below meth c H locs 0 0 (ah_Q below args s H0 D ca 0 0 (some (.int Z.1)) Z.2 z) (F0 m 19 ls [])) (n : Nat) : ∀ (M : ah_h) (a0 : Nat) (x1 : Int32) (x2 : Int32) (x3 : Int32) (x4 : Int32) (x5 : Int32)  (H : Heap) (locs : List Loc) (ls : Array Slot), ah_g H0 D ca M z H → ah_L H0 locs → lv_has ls 6 [(0, .ref a0), (1, .int x1), (2, .int x2), (3, .int x3), (4, .int x4), (5, .int x5)] → ∀ Z, fX11_comesBy_40 self k19  n M a0 x1 x2 x3 x4 x5 = some Z → W p l e { frames := n9 + 1 + 5, cells := 0, slots := 0, locals := (n9 + 1) * 25 + 116 } s m args below meth c H locs 0 0 (ah_Q below args s H0 D ca 0 0 (some (.int Z.1)) Z.2 z) (F0 m 40 ls []) := by
  induction n with
  | zero => intro M a0 x1 x2 x3 x4 x5 H locs ls hG hL hl Z hf; cases hf
  | succ n ih => exact wX11_comesBy_40_b K self hself k19 hk19 _ ih
def fX11_comesBy_19_b (self : ah_h → Nat → Int32 → Int32 → Option (Int32 × ah_h))  (k19 : ah_h → Nat → Int32 → Int32 → Int32 → Int32 → Option (Int32 × ah_h))  (M : ah_h) (a0 : Nat) (x1 : Int32) (x2 : Int32) (x3 : Int32) (x4 : Int32) : Option (Int32 × ah_h) := (ah_gr M a0 11 0).bind fun v1 => (ah_ai M v1 0).bind fun v2 => if v2 ≤ x4 then (if x3 = 0 ∨ x3 = 1 then some (x3, M) else none) else (if x3 = 0 then (fX11_comesBy_40 self k19 ah_fu M a0 x1 x2 x3 x4 (x4 + 1)) else (if x3 = 0 ∨ x3 = 1 then some (x3, M) else none))
def fX11_comesBy_19 (self : ah_h → Nat → Int32 → Int32 → Option (Int32 × ah_h))   : Nat → ah_h → Nat → Int32 → Int32 → Int32 → Int32 → Option (Int32 × ah_h)
  | 0 => fun _ _ _ _ _ _ => none
  | n + 1 => fun M a0 x1 x2 x3 x4 => fX11_comesBy_19_b self  (fX11_comesBy_19 self   n)  M a0 x1 x2 x3 x4
set_option maxRecDepth 100000 in
set_option maxHeartbeats 4000000 in
theorem wX11_comesBy_19_b {p : Program} {l : Launch} {e : Env} {s : State} {m : MethodId} {args : Array Value} {below : List Frame} {meth : Method} {c : Code} {D : va_G} {ca : Nat → ClassId} {H0 : Heap} {z : Nat} (K : ah_K p s m args meth c D ca "ShipsThatMeetModel" cX11_comesBy 6 (some .boolean))  {n9 : Nat} (self : ah_h → Nat → Int32 → Int32 → Option (Int32 × ah_h)) (hself : ∀ (M : ah_h) (z : Nat) (a0 : Nat) (x1 : Int32) (x2 : Int32) (Z : Int32 × ah_h), self M a0 x1 x2 = some Z → ah_ct l H0 D ca yX11_comesBy cX11_comesBy 6 (some .boolean) (n9 + 5) (n9 * 25 + 116) 0 0 [.ref a0, .int x1, .int x2] M z (some (.int Z.1)) Z.2 z)  (k19 : ah_h → Nat → Int32 → Int32 → Int32 → Int32 → Option (Int32 × ah_h)) (hk19 : ∀ (M : ah_h) (a0 : Nat) (x1 : Int32) (x2 : Int32) (x3 : Int32) (x4 : Int32)  (H : Heap) (locs : List Loc) (ls : Array Slot), ah_g H0 D ca M z H → ah_L H0 locs → lv_has ls 6 [(0, .ref a0), (1, .int x1), (2, .int x2), (3, .int x3), (4, .int x4)] → ∀ Z, k19 M a0 x1 x2 x3 x4 = some Z → W p l e { frames := n9 + 1 + 5, cells := 0, slots := 0, locals := (n9 + 1) * 25 + 116 } s m args below meth c H locs 0 0 (ah_Q below args s H0 D ca 0 0 (some (.int Z.1)) Z.2 z) (F0 m 19 ls [])) : ∀ (M : ah_h) (a0 : Nat) (x1 : Int32) (x2 : Int32) (x3 : Int32) (x4 : Int32)  (H : Heap) (locs : List Loc) (ls : Array Slot), ah_g H0 D ca M z H → ah_L H0 locs → lv_has ls 6 [(0, .ref a0), (1, .int x1), (2, .int x2), (3, .int x3), (4, .int x4)] → ∀ Z, fX11_comesBy_19_b self  k19  M a0 x1 x2 x3 x4 = some Z → W p l e { frames := n9 + 1 + 5, cells := 0, slots := 0, locals := (n9 + 1) * 25 + 116 } s m args below meth c H locs 0 0 (ah_Q below args s H0 D ca 0 0 (some (.int Z.1)) Z.2 z) (F0 m 19 ls []) := by
  intro M a0 x1 x2 x3 x4 H locs ls hG hL hl Z hf
  unfold fX11_comesBy_19_b at hf
  refine lv_iload K.1 K.2.1 dX11_comesBy_19 (lv_at hl 4 rfl) ?_
  refine lv_aload_n K.1 K.2.1 dX11_comesBy_21 rfl (lv_at hl 0 rfl) ?_
  obtain ⟨v1, ev1, hf⟩ := Option.bind_eq_some_iff.mp hf
  refine ah_getr K hG ev1 ffX11_9_11 dX11_comesBy_22 ?_
  refine lv_iconst (v := 0) K.1 K.2.1 dX11_comesBy_25 (by decide) ?_
  obtain ⟨v2, ev2, hf⟩ := Option.bind_eq_some_iff.mp hf
  refine ah_iald K hG ev2 dX11_comesBy_26 ?_
  refine lv_icmp_ge (tgt := 125) K.1 K.2.1 dX11_comesBy_27 (by decide) (fun h3 => ?_) (fun h3 => ?_)
  · rw [if_pos h3] at hf
    refine lv_iload_n K.1 K.2.1 dX11_comesBy_125 rfl (lv_at hl 3 rfl) ?_
    by_cases h4 : x3 = 0 ∨ x3 = 1
    case neg => rw [if_neg h4] at hf; cases hf
    rw [if_pos h4] at hf
    have hf := Option.some.inj hf
    subst hf
    exact ah_zret K hG hL h4 (Nat.le_refl _) (Nat.le_refl _) dX11_comesBy_126
  · rw [if_neg h3] at hf
    refine lv_iload_n K.1 K.2.1 dX11_comesBy_30 rfl (lv_at hl 3 rfl) ?_
    refine lv_if_ne (tgt := 125) K.1 K.2.1 dX11_comesBy_31 (by decide) (fun h5 => ?_) (fun h5 => ?_)
    · rw [if_neg h5] at hf
      refine lv_iload_n K.1 K.2.1 dX11_comesBy_125 rfl (lv_at hl 3 rfl) ?_
      by_cases h6 : x3 = 0 ∨ x3 = 1
      case neg => rw [if_neg h6] at hf; cases hf
      rw [if_pos h6] at hf
      have hf := Option.some.inj hf
      subst hf
      exact ah_zret K hG hL h6 (Nat.le_refl _) (Nat.le_refl _) dX11_comesBy_126
    · rw [if_pos h5] at hf
      refine lv_iload K.1 K.2.1 dX11_comesBy_34 (lv_at hl 4 rfl) ?_
      refine lv_iconst (v := 1) K.1 K.2.1 dX11_comesBy_36 (by decide) ?_
      refine lv_iadd K.1 K.2.1 dX11_comesBy_37 ?_
      refine lv_istore (lv' := [(5, .int (x4 + 1)), (0, .ref a0), (1, .int x1), (2, .int x2), (3, .int x3), (4, .int x4)]) K.1 K.2.1 dX11_comesBy_38 hl (by decide) rfl (fun ls hl => ?_)
      exact wX11_comesBy_40 K self hself k19 hk19 ah_fu M a0 x1 x2 x3 x4 (x4 + 1) _ _ _ hG hL (lv_sub hl [1, 2, 3, 4, 5, 0] rfl) _ hf
theorem wX11_comesBy_19 {p : Program} {l : Launch} {e : Env} {s : State} {m : MethodId} {args : Array Value} {below : List Frame} {meth : Method} {c : Code} {D : va_G} {ca : Nat → ClassId} {H0 : Heap} {z : Nat} (K : ah_K p s m args meth c D ca "ShipsThatMeetModel" cX11_comesBy 6 (some .boolean))  {n9 : Nat} (self : ah_h → Nat → Int32 → Int32 → Option (Int32 × ah_h)) (hself : ∀ (M : ah_h) (z : Nat) (a0 : Nat) (x1 : Int32) (x2 : Int32) (Z : Int32 × ah_h), self M a0 x1 x2 = some Z → ah_ct l H0 D ca yX11_comesBy cX11_comesBy 6 (some .boolean) (n9 + 5) (n9 * 25 + 116) 0 0 [.ref a0, .int x1, .int x2] M z (some (.int Z.1)) Z.2 z)  (n : Nat) : ∀ (M : ah_h) (a0 : Nat) (x1 : Int32) (x2 : Int32) (x3 : Int32) (x4 : Int32)  (H : Heap) (locs : List Loc) (ls : Array Slot), ah_g H0 D ca M z H → ah_L H0 locs → lv_has ls 6 [(0, .ref a0), (1, .int x1), (2, .int x2), (3, .int x3), (4, .int x4)] → ∀ Z, fX11_comesBy_19 self   n M a0 x1 x2 x3 x4 = some Z → W p l e { frames := n9 + 1 + 5, cells := 0, slots := 0, locals := (n9 + 1) * 25 + 116 } s m args below meth c H locs 0 0 (ah_Q below args s H0 D ca 0 0 (some (.int Z.1)) Z.2 z) (F0 m 19 ls []) := by
  induction n with
  | zero => intro M a0 x1 x2 x3 x4 H locs ls hG hL hl Z hf; cases hf
  | succ n ih => exact wX11_comesBy_19_b K self hself  _ ih
def fX11_comesBy_s (self : ah_h → Nat → Int32 → Int32 → Option (Int32 × ah_h)) (M : ah_h) (a0 : Nat) (x1 : Int32) (x2 : Int32) : Option (Int32 × ah_h) := (ah_ob M a0 11).bind fun _ => if x2 = 0 then ((fX11_isWanted M a0).bind fun v4 => if v4 = 0 ∨ v4 = 1 then some (v4, M) else none) else ((fX11_keeps M a0 x1).bind fun v2 => fX11_comesBy_19 self ah_fu v2 a0 x1 x2 0 0)
def fX11_comesBy_r  : Nat → ah_h → Nat → Int32 → Int32 → Option (Int32 × ah_h)
  | 0 => fun _ _ _ _ => none
  | n + 1 => fun M a0 x1 x2 => fX11_comesBy_s (fX11_comesBy_r  n) M a0 x1 x2
def fX11_comesBy (M : ah_h) (a0 : Nat) (x1 : Int32) (x2 : Int32) : Option (Int32 × ah_h) := fX11_comesBy_r 6 M a0 x1 x2
set_option maxRecDepth 100000 in
set_option maxHeartbeats 4000000 in
theorem ctX11_comesBy_r (l : Launch) (H0 : Heap) (D : va_G) (ca : Nat → ClassId) (n9 : Nat) : ∀ (M : ah_h) (z : Nat) (a0 : Nat) (x1 : Int32) (x2 : Int32) (Z : Int32 × ah_h), fX11_comesBy_r n9 M a0 x1 x2 = some Z → ah_ct l H0 D ca yX11_comesBy cX11_comesBy 6 (some .boolean) (n9 + 5) (n9 * 25 + 116) 0 0 [.ref a0, .int x1, .int x2] M z (some (.int Z.1)) Z.2 z := by
  induction n9 with
  | zero => intro M z a0 x1 x2 Z hf; cases hf
  | succ n9 hself =>
    intro M z a0 x1 x2 Z hf
    refine ah_of (by decide) (Nat.le_of_ble_eq_true rfl) ?_
    intro p e s m below meth c ls hin K hG hl
    have hL : ah_L H0 [] := ah_L.nil
    have hl : lv_has ls 6 [(0, .ref a0), (1, .int x1), (2, .int x2)] := hl
    have hf : fX11_comesBy_s (fX11_comesBy_r  n9) M a0 x1 x2 = some Z := hf
    generalize fX11_comesBy_r  n9 = self at hself hf
    unfold fX11_comesBy_s at hf
    obtain ⟨-, -, hf⟩ := Option.bind_eq_some_iff.mp hf
    refine lv_iload_n K.1 K.2.1 dX11_comesBy_0 rfl (lv_at hl 2 rfl) ?_
    refine lv_if_ne (tgt := 9) K.1 K.2.1 dX11_comesBy_1 (by decide) (fun h1 => ?_) (fun h1 => ?_)
    · rw [if_neg h1] at hf
      refine lv_aload_n K.1 K.2.1 dX11_comesBy_9 rfl (lv_at hl 0 rfl) ?_
      refine lv_iload_n K.1 K.2.1 dX11_comesBy_10 rfl (lv_at hl 1 rfl) ?_
      obtain ⟨v2, ev2, hf⟩ := Option.bind_eq_some_iff.mp hf
      obtain ⟨q3, eq3⟩ := ah_this ev2
      refine ah_callV (As := [.int x1]) (rest := []) K hG hL hl.1 eq3 rfl (ctX11_keeps l H0 D ca M z a0 x1 v2 ev2) hdX11_keeps q_1151 q_1153 q_54 q_1154 q_43 ⟨by show _ ≤ n9 + 1 + 5; omega, by show _ ≤ (n9 + 1) * 25 + 116; omega⟩ rfl rfl (Nat.le_of_ble_eq_true rfl) ⟨Nat.le_refl _, Nat.le_refl _⟩ dX11_comesBy_11 (fun H locs hG hL => ?_)
      refine lv_iconst (v := 0) K.1 K.2.1 dX11_comesBy_14 (by decide) ?_
      refine lv_istore_n (lv' := [(3, .int 0), (0, .ref a0), (1, .int x1), (2, .int x2)]) K.1 K.2.1 dX11_comesBy_15 rfl hl (by decide) rfl (fun ls hl => ?_)
      refine lv_iconst (v := 0) K.1 K.2.1 dX11_comesBy_16 (by decide) ?_
      refine lv_istore (lv' := [(4, .int 0), (3, .int 0), (0, .ref a0), (1, .int x1), (2, .int x2)]) K.1 K.2.1 dX11_comesBy_17 hl (by decide) rfl (fun ls hl => ?_)
      exact wX11_comesBy_19 K self hself  ah_fu v2 a0 x1 x2 0 0 _ _ _ hG hL (lv_sub hl [2, 3, 4, 1, 0] rfl) _ hf
    · rw [if_pos h1] at hf
      refine lv_aload_n K.1 K.2.1 dX11_comesBy_4 rfl (lv_at hl 0 rfl) ?_
      obtain ⟨v4, ev4, hf⟩ := Option.bind_eq_some_iff.mp hf
      obtain ⟨q5, eq5⟩ := ah_this ev4
      refine ah_callV (As := []) (rest := []) K hG hL hl.1 eq5 rfl (ctX11_isWanted l H0 D ca M z a0 v4 ev4) hdX11_isWanted q_1147 q_1149 q_54 q_1150 q_42 ⟨by show _ ≤ n9 + 1 + 5; omega, by show _ ≤ (n9 + 1) * 25 + 116; omega⟩ rfl rfl (Nat.le_of_ble_eq_true rfl) ⟨Nat.le_refl _, Nat.le_refl _⟩ dX11_comesBy_5 (fun H locs hG hL => ?_)
      by_cases h6 : v4 = 0 ∨ v4 = 1
      case neg => rw [if_neg h6] at hf; cases hf
      rw [if_pos h6] at hf
      have hf := Option.some.inj hf
      subst hf
      exact ah_zret K hG hL h6 (Nat.le_refl _) (Nat.le_refl _) dX11_comesBy_8
theorem ctX11_comesBy (l : Launch) (H0 : Heap) (D : va_G) (ca : Nat → ClassId) (M : ah_h) (z : Nat) (a0 : Nat) (x1 : Int32) (x2 : Int32) (Z : Int32 × ah_h) (hf : fX11_comesBy M a0 x1 x2 = some Z) : ah_ct l H0 D ca yX11_comesBy cX11_comesBy 6 (some .boolean) 11 266 0 0 [.ref a0, .int x1, .int x2] M z (some (.int Z.1)) Z.2 z := ctX11_comesBy_r l H0 D ca 6 M z a0 x1 x2 Z hf
def fX10_firstOfWay_183 (self : ah_h → Nat → Nat → Nat → Int32 → Option (Int32 × ah_h)) (k53 : ah_h → Nat → Nat → Nat → Int32 → Nat → Int32 → Option (Int32 × ah_h)) (k68 : ah_h → Nat → Nat → Nat → Int32 → Nat → Int32 → Int32 → Option (Int32 × ah_h))  (M : ah_h) (a0 : Nat) (a1 : Nat) (a2 : Nat) (x3 : Int32) (a4 : Nat) (x5 : Int32) (x6 : Int32) : Option (Int32 × ah_h) := k68 M a0 a1 a2 x3 a4 x5 (x6 + 1)
set_option maxRecDepth 100000 in
set_option maxHeartbeats 4000000 in
theorem wX10_firstOfWay_183 {p : Program} {l : Launch} {e : Env} {s : State} {m : MethodId} {args : Array Value} {below : List Frame} {meth : Method} {c : Code} {D : va_G} {ca : Nat → ClassId} {H0 : Heap} {z : Nat} (K : ah_K p s m args meth c D ca "ShipsThatMeet" cX10_firstOfWay 10 (some .int))  {n9 : Nat} (self : ah_h → Nat → Nat → Nat → Int32 → Option (Int32 × ah_h)) (hself : ∀ (M : ah_h) (z : Nat) (x0 : Nat) (x1 : Nat) (x2 : Nat) (x3 : Int32) (Z : Int32 × ah_h), self M x0 x1 x2 x3 = some Z → ah_ct l H0 D ca yX10_firstOfWay cX10_firstOfWay 10 (some .int) (n9 + 5) (n9 * 29 + 121) 0 0 [.ref x0, .ref x1, .ref x2, .int x3] M z (some (.int Z.1)) Z.2 z) (k53 : ah_h → Nat → Nat → Nat → Int32 → Nat → Int32 → Option (Int32 × ah_h)) (hk53 : ∀ (M : ah_h) (a0 : Nat) (a1 : Nat) (a2 : Nat) (x3 : Int32) (a4 : Nat) (x5 : Int32)  (H : Heap) (locs : List Loc) (ls : Array Slot), ah_g H0 D ca M z H → ah_L H0 locs → lv_has ls 10 [(0, .ref a0), (1, .ref a1), (2, .ref a2), (3, .int x3), (4, .ref a4), (5, .int x5)] → ∀ Z, k53 M a0 a1 a2 x3 a4 x5 = some Z → W p l e { frames := n9 + 1 + 5, cells := 0, slots := 0, locals := (n9 + 1) * 29 + 121 } s m args below meth c H locs 0 0 (ah_Q below args s H0 D ca 0 0 (some (.int Z.1)) Z.2 z) (F0 m 53 ls [])) (k68 : ah_h → Nat → Nat → Nat → Int32 → Nat → Int32 → Int32 → Option (Int32 × ah_h)) (hk68 : ∀ (M : ah_h) (a0 : Nat) (a1 : Nat) (a2 : Nat) (x3 : Int32) (a4 : Nat) (x5 : Int32) (x6 : Int32)  (H : Heap) (locs : List Loc) (ls : Array Slot), ah_g H0 D ca M z H → ah_L H0 locs → lv_has ls 10 [(0, .ref a0), (1, .ref a1), (2, .ref a2), (3, .int x3), (4, .ref a4), (5, .int x5), (6, .int x6)] → ∀ Z, k68 M a0 a1 a2 x3 a4 x5 x6 = some Z → W p l e { frames := n9 + 1 + 5, cells := 0, slots := 0, locals := (n9 + 1) * 29 + 121 } s m args below meth c H locs 0 0 (ah_Q below args s H0 D ca 0 0 (some (.int Z.1)) Z.2 z) (F0 m 68 ls [])) : ∀ (M : ah_h) (a0 : Nat) (a1 : Nat) (a2 : Nat) (x3 : Int32) (a4 : Nat) (x5 : Int32) (x6 : Int32)  (H : Heap) (locs : List Loc) (ls : Array Slot), ah_g H0 D ca M z H → ah_L H0 locs → lv_has ls 10 [(0, .ref a0), (1, .ref a1), (2, .ref a2), (3, .int x3), (4, .ref a4), (5, .int x5), (6, .int x6)] → ∀ Z, fX10_firstOfWay_183 self k53 k68  M a0 a1 a2 x3 a4 x5 x6 = some Z → W p l e { frames := n9 + 1 + 5, cells := 0, slots := 0, locals := (n9 + 1) * 29 + 121 } s m args below meth c H locs 0 0 (ah_Q below args s H0 D ca 0 0 (some (.int Z.1)) Z.2 z) (F0 m 183 ls []) := by
  intro M a0 a1 a2 x3 a4 x5 x6 H locs ls hG hL hl Z hf
  unfold fX10_firstOfWay_183 at hf
  refine lv_iinc (v := x6 + 1) (lv' := [(6, .int (x6 + 1)), (0, .ref a0), (1, .ref a1), (2, .ref a2), (3, .int x3), (4, .ref a4), (5, .int x5)]) K.1 K.2.1 dX10_firstOfWay_183 hl (k := 6) rfl rfl (by decide) rfl (fun ls hl => ?_)
  refine lv_goto (tgt := 68) K.1 K.2.1 dX10_firstOfWay_186 (by decide) ?_
  exact hk68 M a0 a1 a2 x3 a4 x5 (x6 + 1) _ _ _ hG hL (lv_sub hl [1, 2, 3, 4, 5, 6, 0] rfl) _ hf
def fX10_firstOfWay_68_b (self : ah_h → Nat → Nat → Nat → Int32 → Option (Int32 × ah_h)) (k53 : ah_h → Nat → Nat → Nat → Int32 → Nat → Int32 → Option (Int32 × ah_h)) (k68 : ah_h → Nat → Nat → Nat → Int32 → Nat → Int32 → Int32 → Option (Int32 × ah_h))  (M : ah_h) (a0 : Nat) (a1 : Nat) (a2 : Nat) (x3 : Int32) (a4 : Nat) (x5 : Int32) (x6 : Int32) : Option (Int32 × ah_h) := (ah_gi M a0 2 0).bind fun v1 => if v1 ≤ x6 then (k53 M a0 a1 a2 x3 a4 (x5 + 1)) else ((ah_ai M a4 x5).bind fun v3 => if v3 < 0 then (fX10_firstOfWay_183 self k53 k68 M a0 a1 a2 x3 a4 x5 x6) else ((ah_ai M a4 x6).bind fun v5 => if v5 < 0 then (fX10_firstOfWay_183 self k53 k68 M a0 a1 a2 x3 a4 x5 x6) else ((ah_gr M a0 2 8).bind fun v7 => (ah_ai M a4 x5).bind fun v8 => (ah_ai M v7 v8).bind fun v9 => (ah_gr M a0 2 8).bind fun v10 => (ah_ai M a4 x6).bind fun v11 => (ah_ai M v10 v11).bind fun v12 => (ah_ai M a4 x5).bind fun v13 => (ah_ai M a4 x6).bind fun v14 => (fX2_exchange M a0 x5 x6 v13 v14).bind fun v15 => (self v15 a0 a1 a2 (x3 - 1)).bind fun v17 => (ah_ai v17.2 a4 x5).bind fun v19 => (ah_ai v17.2 a4 x6).bind fun v20 => (fX2_takeBack v17.2 a0 x5 x6 v19 v20 v9 v12).bind fun v21 => if v17.1 = (-4) then (fX10_firstOfWay_183 self k53 k68 v21 a0 a1 a2 x3 a4 x5 x6) else ((fX10_nameOfMeeting v21 x5 x6).bind fun v24 => some (v24, v21)))))
def fX10_firstOfWay_68 (self : ah_h → Nat → Nat → Nat → Int32 → Option (Int32 × ah_h)) (k53 : ah_h → Nat → Nat → Nat → Int32 → Nat → Int32 → Option (Int32 × ah_h))  : Nat → ah_h → Nat → Nat → Nat → Int32 → Nat → Int32 → Int32 → Option (Int32 × ah_h)
  | 0 => fun _ _ _ _ _ _ _ _ => none
  | n + 1 => fun M a0 a1 a2 x3 a4 x5 x6 => fX10_firstOfWay_68_b self k53 (fX10_firstOfWay_68 self k53  n)  M a0 a1 a2 x3 a4 x5 x6
set_option maxRecDepth 100000 in
set_option maxHeartbeats 4000000 in
theorem wX10_firstOfWay_68_b {p : Program} {l : Launch} {e : Env} {s : State} {m : MethodId} {args : Array Value} {below : List Frame} {meth : Method} {c : Code} {D : va_G} {ca : Nat → ClassId} {H0 : Heap} {z : Nat} (K : ah_K p s m args meth c D ca "ShipsThatMeet" cX10_firstOfWay 10 (some .int))  {n9 : Nat} (self : ah_h → Nat → Nat → Nat → Int32 → Option (Int32 × ah_h)) (hself : ∀ (M : ah_h) (z : Nat) (x0 : Nat) (x1 : Nat) (x2 : Nat) (x3 : Int32) (Z : Int32 × ah_h), self M x0 x1 x2 x3 = some Z → ah_ct l H0 D ca yX10_firstOfWay cX10_firstOfWay 10 (some .int) (n9 + 5) (n9 * 29 + 121) 0 0 [.ref x0, .ref x1, .ref x2, .int x3] M z (some (.int Z.1)) Z.2 z) (k53 : ah_h → Nat → Nat → Nat → Int32 → Nat → Int32 → Option (Int32 × ah_h)) (hk53 : ∀ (M : ah_h) (a0 : Nat) (a1 : Nat) (a2 : Nat) (x3 : Int32) (a4 : Nat) (x5 : Int32)  (H : Heap) (locs : List Loc) (ls : Array Slot), ah_g H0 D ca M z H → ah_L H0 locs → lv_has ls 10 [(0, .ref a0), (1, .ref a1), (2, .ref a2), (3, .int x3), (4, .ref a4), (5, .int x5)] → ∀ Z, k53 M a0 a1 a2 x3 a4 x5 = some Z → W p l e { frames := n9 + 1 + 5, cells := 0, slots := 0, locals := (n9 + 1) * 29 + 121 } s m args below meth c H locs 0 0 (ah_Q below args s H0 D ca 0 0 (some (.int Z.1)) Z.2 z) (F0 m 53 ls [])) (k68 : ah_h → Nat → Nat → Nat → Int32 → Nat → Int32 → Int32 → Option (Int32 × ah_h)) (hk68 : ∀ (M : ah_h) (a0 : Nat) (a1 : Nat) (a2 : Nat) (x3 : Int32) (a4 : Nat) (x5 : Int32) (x6 : Int32)  (H : Heap) (locs : List Loc) (ls : Array Slot), ah_g H0 D ca M z H → ah_L H0 locs → lv_has ls 10 [(0, .ref a0), (1, .ref a1), (2, .ref a2), (3, .int x3), (4, .ref a4), (5, .int x5), (6, .int x6)] → ∀ Z, k68 M a0 a1 a2 x3 a4 x5 x6 = some Z → W p l e { frames := n9 + 1 + 5, cells := 0, slots := 0, locals := (n9 + 1) * 29 + 121 } s m args below meth c H locs 0 0 (ah_Q below args s H0 D ca 0 0 (some (.int Z.1)) Z.2 z) (F0 m 68 ls [])) : ∀ (M : ah_h) (a0 : Nat) (a1 : Nat) (a2 : Nat) (x3 : Int32) (a4 : Nat) (x5 : Int32) (x6 : Int32)  (H : Heap) (locs : List Loc) (ls : Array Slot), ah_g H0 D ca M z H → ah_L H0 locs → lv_has ls 10 [(0, .ref a0), (1, .ref a1), (2, .ref a2), (3, .int x3), (4, .ref a4), (5, .int x5), (6, .int x6)] → ∀ Z, fX10_firstOfWay_68_b self k53 k68  M a0 a1 a2 x3 a4 x5 x6 = some Z → W p l e { frames := n9 + 1 + 5, cells := 0, slots := 0, locals := (n9 + 1) * 29 + 121 } s m args below meth c H locs 0 0 (ah_Q below args s H0 D ca 0 0 (some (.int Z.1)) Z.2 z) (F0 m 68 ls []) := by
  intro M a0 a1 a2 x3 a4 x5 x6 H locs ls hG hL hl Z hf
  unfold fX10_firstOfWay_68_b at hf
  refine lv_iload K.1 K.2.1 dX10_firstOfWay_68 (lv_at hl 6 rfl) ?_
  refine lv_aload_n K.1 K.2.1 dX10_firstOfWay_70 rfl (lv_at hl 0 rfl) ?_
  obtain ⟨v1, ev1, hf⟩ := Option.bind_eq_some_iff.mp hf
  refine ah_geti K hG ev1 ffX10_188_2 dX10_firstOfWay_71 ?_
  refine lv_icmp_ge (tgt := 189) K.1 K.2.1 dX10_firstOfWay_74 (by decide) (fun h2 => ?_) (fun h2 => ?_)
  · rw [if_pos h2] at hf
    refine lv_iinc (v := x5 + 1) (lv' := [(5, .int (x5 + 1)), (0, .ref a0), (1, .ref a1), (2, .ref a2), (3, .int x3), (4, .ref a4), (6, .int x6)]) K.1 K.2.1 dX10_firstOfWay_189 hl (k := 5) rfl rfl (by decide) rfl (fun ls hl => ?_)
    refine lv_goto (tgt := 53) K.1 K.2.1 dX10_firstOfWay_192 (by decide) ?_
    exact hk53 M a0 a1 a2 x3 a4 (x5 + 1) _ _ _ hG hL (lv_sub hl [1, 2, 3, 4, 5, 0] rfl) _ hf
  · rw [if_neg h2] at hf
    refine lv_aload K.1 K.2.1 dX10_firstOfWay_77 (lv_at hl 4 rfl) ?_
    refine lv_iload K.1 K.2.1 dX10_firstOfWay_79 (lv_at hl 5 rfl) ?_
    obtain ⟨v3, ev3, hf⟩ := Option.bind_eq_some_iff.mp hf
    refine ah_iald K hG ev3 dX10_firstOfWay_81 ?_
    refine lv_if_lt (tgt := 183) K.1 K.2.1 dX10_firstOfWay_82 (by decide) (fun h4 => ?_) (fun h4 => ?_)
    · rw [if_pos h4] at hf
      exact wX10_firstOfWay_183 K self hself k53 hk53 k68 hk68 M a0 a1 a2 x3 a4 x5 x6 _ _ _ hG hL (lv_sub hl [0, 1, 2, 3, 4, 5, 6] rfl) _ hf
    · rw [if_neg h4] at hf
      refine lv_aload K.1 K.2.1 dX10_firstOfWay_85 (lv_at hl 4 rfl) ?_
      refine lv_iload K.1 K.2.1 dX10_firstOfWay_87 (lv_at hl 6 rfl) ?_
      obtain ⟨v5, ev5, hf⟩ := Option.bind_eq_some_iff.mp hf
      refine ah_iald K hG ev5 dX10_firstOfWay_89 ?_
      refine lv_if_lt (tgt := 183) K.1 K.2.1 dX10_firstOfWay_90 (by decide) (fun h6 => ?_) (fun h6 => ?_)
      · rw [if_pos h6] at hf
        exact wX10_firstOfWay_183 K self hself k53 hk53 k68 hk68 M a0 a1 a2 x3 a4 x5 x6 _ _ _ hG hL (lv_sub hl [0, 1, 2, 3, 4, 5, 6] rfl) _ hf
      · rw [if_neg h6] at hf
        refine lv_aload_n K.1 K.2.1 dX10_firstOfWay_93 rfl (lv_at hl 0 rfl) ?_
        obtain ⟨v7, ev7, hf⟩ := Option.bind_eq_some_iff.mp hf
        refine ah_getr K hG ev7 ffX10_111_2 dX10_firstOfWay_94 ?_
        refine lv_aload K.1 K.2.1 dX10_firstOfWay_97 (lv_at hl 4 rfl) ?_
        refine lv_iload K.1 K.2.1 dX10_firstOfWay_99 (lv_at hl 5 rfl) ?_
        obtain ⟨v8, ev8, hf⟩ := Option.bind_eq_some_iff.mp hf
        refine ah_iald K hG ev8 dX10_firstOfWay_101 ?_
        obtain ⟨v9, ev9, hf⟩ := Option.bind_eq_some_iff.mp hf
        refine ah_iald K hG ev9 dX10_firstOfWay_102 ?_
        refine lv_istore (lv' := [(7, .int v9), (0, .ref a0), (1, .ref a1), (2, .ref a2), (3, .int x3), (4, .ref a4), (5, .int x5), (6, .int x6)]) K.1 K.2.1 dX10_firstOfWay_103 hl (by decide) rfl (fun ls hl => ?_)
        refine lv_aload_n K.1 K.2.1 dX10_firstOfWay_105 rfl (lv_at hl 1 rfl) ?_
        obtain ⟨v10, ev10, hf⟩ := Option.bind_eq_some_iff.mp hf
        refine ah_getr K hG ev10 ffX10_111_2 dX10_firstOfWay_106 ?_
        refine lv_aload K.1 K.2.1 dX10_firstOfWay_109 (lv_at hl 5 rfl) ?_
        refine lv_iload K.1 K.2.1 dX10_firstOfWay_111 (lv_at hl 7 rfl) ?_
        obtain ⟨v11, ev11, hf⟩ := Option.bind_eq_some_iff.mp hf
        refine ah_iald K hG ev11 dX10_firstOfWay_113 ?_
        obtain ⟨v12, ev12, hf⟩ := Option.bind_eq_some_iff.mp hf
        refine ah_iald K hG ev12 dX10_firstOfWay_114 ?_
        refine lv_istore (lv' := [(8, .int v12), (7, .int v9), (0, .ref a0), (1, .ref a1), (2, .ref a2), (3, .int x3), (4, .ref a4), (5, .int x5), (6, .int x6)]) K.1 K.2.1 dX10_firstOfWay_115 hl (by decide) rfl (fun ls hl => ?_)
        refine lv_aload_n K.1 K.2.1 dX10_firstOfWay_117 rfl (lv_at hl 2 rfl) ?_
        refine lv_iload K.1 K.2.1 dX10_firstOfWay_118 (lv_at hl 7 rfl) ?_
        refine lv_iload K.1 K.2.1 dX10_firstOfWay_120 (lv_at hl 8 rfl) ?_
        refine lv_aload K.1 K.2.1 dX10_firstOfWay_122 (lv_at hl 6 rfl) ?_
        refine lv_iload K.1 K.2.1 dX10_firstOfWay_124 (lv_at hl 7 rfl) ?_
        obtain ⟨v13, ev13, hf⟩ := Option.bind_eq_some_iff.mp hf
        refine ah_iald K hG ev13 dX10_firstOfWay_126 ?_
        refine lv_aload K.1 K.2.1 dX10_firstOfWay_127 (lv_at hl 6 rfl) ?_
        refine lv_iload K.1 K.2.1 dX10_firstOfWay_129 (lv_at hl 8 rfl) ?_
        obtain ⟨v14, ev14, hf⟩ := Option.bind_eq_some_iff.mp hf
        refine ah_iald K hG ev14 dX10_firstOfWay_131 ?_
        obtain ⟨v15, ev15, hf⟩ := Option.bind_eq_some_iff.mp hf
        obtain ⟨q16, eq16⟩ := ah_this ev15
        refine ah_callV (As := [.int x5, .int x6, .int v13, .int v14]) (rest := []) K hG hL hl.1 eq16 rfl (ctX2_exchange l H0 D ca M z a0 x5 x6 v13 v14 v15 ev15) hdX2_exchange q_562 q_413 q_51 q_415 q_414 ⟨by show _ ≤ n9 + 1 + 5; omega, by show _ ≤ (n9 + 1) * 29 + 121; omega⟩ rfl rfl (Nat.le_of_ble_eq_true rfl) ⟨Nat.le_refl _, Nat.le_refl _⟩ dX10_firstOfWay_132 (fun H locs hG hL => ?_)
        refine lv_aload_n K.1 K.2.1 dX10_firstOfWay_135 rfl (lv_at hl 2 rfl) ?_
        refine lv_aload_n K.1 K.2.1 dX10_firstOfWay_136 rfl (lv_at hl 3 rfl) ?_
        refine lv_aload_n K.1 K.2.1 dX10_firstOfWay_137 rfl (lv_at hl 4 rfl) ?_
        refine lv_iload_n K.1 K.2.1 dX10_firstOfWay_138 rfl (lv_at hl 5 rfl) ?_
        refine lv_iconst (v := 1) K.1 K.2.1 dX10_firstOfWay_139 (by decide) ?_
        refine lv_isub K.1 K.2.1 dX10_firstOfWay_140 ?_
        obtain ⟨v17, ev17, hf⟩ := Option.bind_eq_some_iff.mp hf
        refine ah_callS (As := [.ref a0, .ref a1, .ref a2, .int (x3 - 1)]) (rest := []) K hG hL hl.1 (hself v15 z a0 a1 a2 (x3 - 1) _ ev17) hdX10_firstOfWay q_533 q_534 q_50 q_535 ⟨by show _ ≤ n9 + 1 + 5; omega, by show _ ≤ (n9 + 1) * 29 + 121; omega⟩ rfl rfl (Nat.le_of_ble_eq_true rfl) ⟨Nat.le_refl _, Nat.le_refl _⟩ dX10_firstOfWay_141 (fun H locs hG hL => ?_)
        refine lv_istore (lv' := [(9, .int v17.1), (8, .int v12), (7, .int v9), (0, .ref a0), (1, .ref a1), (2, .ref a2), (3, .int x3), (4, .ref a4), (5, .int x5), (6, .int x6)]) K.1 K.2.1 dX10_firstOfWay_144 hl (by decide) rfl (fun ls hl => ?_)
        refine lv_aload_n K.1 K.2.1 dX10_firstOfWay_146 rfl (lv_at hl 3 rfl) ?_
        refine lv_iload K.1 K.2.1 dX10_firstOfWay_147 (lv_at hl 8 rfl) ?_
        refine lv_iload K.1 K.2.1 dX10_firstOfWay_149 (lv_at hl 9 rfl) ?_
        refine lv_aload K.1 K.2.1 dX10_firstOfWay_151 (lv_at hl 7 rfl) ?_
        refine lv_iload K.1 K.2.1 dX10_firstOfWay_153 (lv_at hl 8 rfl) ?_
        obtain ⟨v19, ev19, hf⟩ := Option.bind_eq_some_iff.mp hf
        refine ah_iald K hG ev19 dX10_firstOfWay_155 ?_
        refine lv_aload K.1 K.2.1 dX10_firstOfWay_156 (lv_at hl 7 rfl) ?_
        refine lv_iload K.1 K.2.1 dX10_firstOfWay_158 (lv_at hl 9 rfl) ?_
        obtain ⟨v20, ev20, hf⟩ := Option.bind_eq_some_iff.mp hf
        refine ah_iald K hG ev20 dX10_firstOfWay_160 ?_
        refine lv_iload K.1 K.2.1 dX10_firstOfWay_161 (lv_at hl 2 rfl) ?_
        refine lv_iload K.1 K.2.1 dX10_firstOfWay_163 (lv_at hl 1 rfl) ?_
        obtain ⟨v21, ev21, hf⟩ := Option.bind_eq_some_iff.mp hf
        obtain ⟨q22, eq22⟩ := ah_this ev21
        refine ah_callV (As := [.int x5, .int x6, .int v19, .int v20, .int v9, .int v12]) (rest := []) K hG hL hl.1 eq22 rfl (ctX2_takeBack l H0 D ca v17.2 z a0 x5 x6 v19 v20 v9 v12 v21 ev21) hdX2_takeBack q_563 q_542 q_51 q_544 q_543 ⟨by show _ ≤ n9 + 1 + 5; omega, by show _ ≤ (n9 + 1) * 29 + 121; omega⟩ rfl rfl (Nat.le_of_ble_eq_true rfl) ⟨Nat.le_refl _, Nat.le_refl _⟩ dX10_firstOfWay_165 (fun H locs hG hL => ?_)
        refine lv_iload K.1 K.2.1 dX10_firstOfWay_168 (lv_at hl 0 rfl) ?_
        refine lv_bipush (v := (-4)) K.1 K.2.1 dX10_firstOfWay_170 (by decide) ?_
        refine lv_icmp_eq (tgt := 183) K.1 K.2.1 dX10_firstOfWay_172 (by decide) (fun h23 => ?_) (fun h23 => ?_)
        · rw [if_pos h23] at hf
          exact wX10_firstOfWay_183 K self hself k53 hk53 k68 hk68 v21 a0 a1 a2 x3 a4 x5 x6 _ _ _ hG hL (lv_sub hl [3, 4, 5, 6, 7, 8, 9] rfl) _ hf
        · rw [if_neg h23] at hf
          refine lv_iload K.1 K.2.1 dX10_firstOfWay_175 (lv_at hl 8 rfl) ?_
          refine lv_iload K.1 K.2.1 dX10_firstOfWay_177 (lv_at hl 9 rfl) ?_
          obtain ⟨v24, ev24, hf⟩ := Option.bind_eq_some_iff.mp hf
          refine ah_callS (As := [.int x5, .int x6]) (rest := []) K hG hL hl.1 (ctX10_nameOfMeeting l H0 D ca v21 z x5 x6 v24 ev24) hdX10_nameOfMeeting q_564 q_546 q_50 q_547 ⟨by show _ ≤ n9 + 1 + 5; omega, by show _ ≤ (n9 + 1) * 29 + 121; omega⟩ rfl rfl (Nat.le_of_ble_eq_true rfl) ⟨Nat.le_refl _, Nat.le_refl _⟩ dX10_firstOfWay_179 (fun H locs hG hL => ?_)
          have hf := Option.some.inj hf
          subst hf
          exact ah_iret K hG hL (Nat.le_refl _) (Nat.le_refl _) dX10_firstOfWay_182
theorem wX10_firstOfWay_68 {p : Program} {l : Launch} {e : Env} {s : State} {m : MethodId} {args : Array Value} {below : List Frame} {meth : Method} {c : Code} {D : va_G} {ca : Nat → ClassId} {H0 : Heap} {z : Nat} (K : ah_K p s m args meth c D ca "ShipsThatMeet" cX10_firstOfWay 10 (some .int))  {n9 : Nat} (self : ah_h → Nat → Nat → Nat → Int32 → Option (Int32 × ah_h)) (hself : ∀ (M : ah_h) (z : Nat) (x0 : Nat) (x1 : Nat) (x2 : Nat) (x3 : Int32) (Z : Int32 × ah_h), self M x0 x1 x2 x3 = some Z → ah_ct l H0 D ca yX10_firstOfWay cX10_firstOfWay 10 (some .int) (n9 + 5) (n9 * 29 + 121) 0 0 [.ref x0, .ref x1, .ref x2, .int x3] M z (some (.int Z.1)) Z.2 z) (k53 : ah_h → Nat → Nat → Nat → Int32 → Nat → Int32 → Option (Int32 × ah_h)) (hk53 : ∀ (M : ah_h) (a0 : Nat) (a1 : Nat) (a2 : Nat) (x3 : Int32) (a4 : Nat) (x5 : Int32)  (H : Heap) (locs : List Loc) (ls : Array Slot), ah_g H0 D ca M z H → ah_L H0 locs → lv_has ls 10 [(0, .ref a0), (1, .ref a1), (2, .ref a2), (3, .int x3), (4, .ref a4), (5, .int x5)] → ∀ Z, k53 M a0 a1 a2 x3 a4 x5 = some Z → W p l e { frames := n9 + 1 + 5, cells := 0, slots := 0, locals := (n9 + 1) * 29 + 121 } s m args below meth c H locs 0 0 (ah_Q below args s H0 D ca 0 0 (some (.int Z.1)) Z.2 z) (F0 m 53 ls [])) (n : Nat) : ∀ (M : ah_h) (a0 : Nat) (a1 : Nat) (a2 : Nat) (x3 : Int32) (a4 : Nat) (x5 : Int32) (x6 : Int32)  (H : Heap) (locs : List Loc) (ls : Array Slot), ah_g H0 D ca M z H → ah_L H0 locs → lv_has ls 10 [(0, .ref a0), (1, .ref a1), (2, .ref a2), (3, .int x3), (4, .ref a4), (5, .int x5), (6, .int x6)] → ∀ Z, fX10_firstOfWay_68 self k53  n M a0 a1 a2 x3 a4 x5 x6 = some Z → W p l e { frames := n9 + 1 + 5, cells := 0, slots := 0, locals := (n9 + 1) * 29 + 121 } s m args below meth c H locs 0 0 (ah_Q below args s H0 D ca 0 0 (some (.int Z.1)) Z.2 z) (F0 m 68 ls []) := by
  induction n with
  | zero => intro M a0 a1 a2 x3 a4 x5 x6 H locs ls hG hL hl Z hf; cases hf
  | succ n ih => exact wX10_firstOfWay_68_b K self hself k53 hk53 _ ih
def fX10_firstOfWay_53_b (self : ah_h → Nat → Nat → Nat → Int32 → Option (Int32 × ah_h))  (k53 : ah_h → Nat → Nat → Nat → Int32 → Nat → Int32 → Option (Int32 × ah_h))  (M : ah_h) (a0 : Nat) (a1 : Nat) (a2 : Nat) (x3 : Int32) (a4 : Nat) (x5 : Int32) : Option (Int32 × ah_h) := (ah_gi M a0 2 0).bind fun v1 => if v1 ≤ x5 then (some ((-4), M)) else (fX10_firstOfWay_68 self k53 ah_fu M a0 a1 a2 x3 a4 x5 (x5 + 1))
def fX10_firstOfWay_53 (self : ah_h → Nat → Nat → Nat → Int32 → Option (Int32 × ah_h))   : Nat → ah_h → Nat → Nat → Nat → Int32 → Nat → Int32 → Option (Int32 × ah_h)
  | 0 => fun _ _ _ _ _ _ _ => none
  | n + 1 => fun M a0 a1 a2 x3 a4 x5 => fX10_firstOfWay_53_b self  (fX10_firstOfWay_53 self   n)  M a0 a1 a2 x3 a4 x5
set_option maxRecDepth 100000 in
set_option maxHeartbeats 4000000 in
theorem wX10_firstOfWay_53_b {p : Program} {l : Launch} {e : Env} {s : State} {m : MethodId} {args : Array Value} {below : List Frame} {meth : Method} {c : Code} {D : va_G} {ca : Nat → ClassId} {H0 : Heap} {z : Nat} (K : ah_K p s m args meth c D ca "ShipsThatMeet" cX10_firstOfWay 10 (some .int))  {n9 : Nat} (self : ah_h → Nat → Nat → Nat → Int32 → Option (Int32 × ah_h)) (hself : ∀ (M : ah_h) (z : Nat) (x0 : Nat) (x1 : Nat) (x2 : Nat) (x3 : Int32) (Z : Int32 × ah_h), self M x0 x1 x2 x3 = some Z → ah_ct l H0 D ca yX10_firstOfWay cX10_firstOfWay 10 (some .int) (n9 + 5) (n9 * 29 + 121) 0 0 [.ref x0, .ref x1, .ref x2, .int x3] M z (some (.int Z.1)) Z.2 z)  (k53 : ah_h → Nat → Nat → Nat → Int32 → Nat → Int32 → Option (Int32 × ah_h)) (hk53 : ∀ (M : ah_h) (a0 : Nat) (a1 : Nat) (a2 : Nat) (x3 : Int32) (a4 : Nat) (x5 : Int32)  (H : Heap) (locs : List Loc) (ls : Array Slot), ah_g H0 D ca M z H → ah_L H0 locs → lv_has ls 10 [(0, .ref a0), (1, .ref a1), (2, .ref a2), (3, .int x3), (4, .ref a4), (5, .int x5)] → ∀ Z, k53 M a0 a1 a2 x3 a4 x5 = some Z → W p l e { frames := n9 + 1 + 5, cells := 0, slots := 0, locals := (n9 + 1) * 29 + 121 } s m args below meth c H locs 0 0 (ah_Q below args s H0 D ca 0 0 (some (.int Z.1)) Z.2 z) (F0 m 53 ls [])) : ∀ (M : ah_h) (a0 : Nat) (a1 : Nat) (a2 : Nat) (x3 : Int32) (a4 : Nat) (x5 : Int32)  (H : Heap) (locs : List Loc) (ls : Array Slot), ah_g H0 D ca M z H → ah_L H0 locs → lv_has ls 10 [(0, .ref a0), (1, .ref a1), (2, .ref a2), (3, .int x3), (4, .ref a4), (5, .int x5)] → ∀ Z, fX10_firstOfWay_53_b self  k53  M a0 a1 a2 x3 a4 x5 = some Z → W p l e { frames := n9 + 1 + 5, cells := 0, slots := 0, locals := (n9 + 1) * 29 + 121 } s m args below meth c H locs 0 0 (ah_Q below args s H0 D ca 0 0 (some (.int Z.1)) Z.2 z) (F0 m 53 ls []) := by
  intro M a0 a1 a2 x3 a4 x5 H locs ls hG hL hl Z hf
  unfold fX10_firstOfWay_53_b at hf
  refine lv_iload K.1 K.2.1 dX10_firstOfWay_53 (lv_at hl 5 rfl) ?_
  refine lv_aload_n K.1 K.2.1 dX10_firstOfWay_55 rfl (lv_at hl 0 rfl) ?_
  obtain ⟨v1, ev1, hf⟩ := Option.bind_eq_some_iff.mp hf
  refine ah_geti K hG ev1 ffX10_188_2 dX10_firstOfWay_56 ?_
  refine lv_icmp_ge (tgt := 195) K.1 K.2.1 dX10_firstOfWay_59 (by decide) (fun h2 => ?_) (fun h2 => ?_)
  · rw [if_pos h2] at hf
    refine lv_bipush (v := (-4)) K.1 K.2.1 dX10_firstOfWay_195 (by decide) ?_
    have hf := Option.some.inj hf
    subst hf
    exact ah_iret K hG hL (Nat.le_refl _) (Nat.le_refl _) dX10_firstOfWay_197
  · rw [if_neg h2] at hf
    refine lv_iload K.1 K.2.1 dX10_firstOfWay_62 (lv_at hl 5 rfl) ?_
    refine lv_iconst (v := 1) K.1 K.2.1 dX10_firstOfWay_64 (by decide) ?_
    refine lv_iadd K.1 K.2.1 dX10_firstOfWay_65 ?_
    refine lv_istore (lv' := [(6, .int (x5 + 1)), (0, .ref a0), (1, .ref a1), (2, .ref a2), (3, .int x3), (4, .ref a4), (5, .int x5)]) K.1 K.2.1 dX10_firstOfWay_66 hl (by decide) rfl (fun ls hl => ?_)
    exact wX10_firstOfWay_68 K self hself k53 hk53 ah_fu M a0 a1 a2 x3 a4 x5 (x5 + 1) _ _ _ hG hL (lv_sub hl [1, 2, 3, 4, 5, 6, 0] rfl) _ hf
theorem wX10_firstOfWay_53 {p : Program} {l : Launch} {e : Env} {s : State} {m : MethodId} {args : Array Value} {below : List Frame} {meth : Method} {c : Code} {D : va_G} {ca : Nat → ClassId} {H0 : Heap} {z : Nat} (K : ah_K p s m args meth c D ca "ShipsThatMeet" cX10_firstOfWay 10 (some .int))  {n9 : Nat} (self : ah_h → Nat → Nat → Nat → Int32 → Option (Int32 × ah_h)) (hself : ∀ (M : ah_h) (z : Nat) (x0 : Nat) (x1 : Nat) (x2 : Nat) (x3 : Int32) (Z : Int32 × ah_h), self M x0 x1 x2 x3 = some Z → ah_ct l H0 D ca yX10_firstOfWay cX10_firstOfWay 10 (some .int) (n9 + 5) (n9 * 29 + 121) 0 0 [.ref x0, .ref x1, .ref x2, .int x3] M z (some (.int Z.1)) Z.2 z)  (n : Nat) : ∀ (M : ah_h) (a0 : Nat) (a1 : Nat) (a2 : Nat) (x3 : Int32) (a4 : Nat) (x5 : Int32)  (H : Heap) (locs : List Loc) (ls : Array Slot), ah_g H0 D ca M z H → ah_L H0 locs → lv_has ls 10 [(0, .ref a0), (1, .ref a1), (2, .ref a2), (3, .int x3), (4, .ref a4), (5, .int x5)] → ∀ Z, fX10_firstOfWay_53 self   n M a0 a1 a2 x3 a4 x5 = some Z → W p l e { frames := n9 + 1 + 5, cells := 0, slots := 0, locals := (n9 + 1) * 29 + 121 } s m args below meth c H locs 0 0 (ah_Q below args s H0 D ca 0 0 (some (.int Z.1)) Z.2 z) (F0 m 53 ls []) := by
  induction n with
  | zero => intro M a0 a1 a2 x3 a4 x5 H locs ls hG hL hl Z hf; cases hf
  | succ n ih => exact wX10_firstOfWay_53_b K self hself  _ ih
def fX10_firstOfWay_s (self : ah_h → Nat → Nat → Nat → Int32 → Option (Int32 × ah_h)) (M : ah_h) (x0 : Nat) (x1 : Nat) (x2 : Nat) (x3 : Int32) : Option (Int32 × ah_h) := if x3 < 1 then (some ((-4), M)) else ((ah_alr M x1 4).bind fun v2 => if x3 < v2 then (if x3 = 1 then ((fX2_lastMeeting M x0 x2).bind fun v11 => some (v11.1, v11.2)) else ((fX2_astray M x0 x2).bind fun v5 => if v5 ≤ (2 * x3) then ((ah_ar M x1 4 x3).bind fun v8 => (fX2_fillGivers M x0 v8).bind fun v9 => fX10_firstOfWay_53 self ah_fu v9 x0 x1 x2 x3 v8 0) else (some ((-4), M)))) else (some ((-4), M)))
def fX10_firstOfWay_r  : Nat → ah_h → Nat → Nat → Nat → Int32 → Option (Int32 × ah_h)
  | 0 => fun _ _ _ _ _ => none
  | n + 1 => fun M x0 x1 x2 x3 => fX10_firstOfWay_s (fX10_firstOfWay_r  n) M x0 x1 x2 x3
def fX10_firstOfWay (M : ah_h) (x0 : Nat) (x1 : Nat) (x2 : Nat) (x3 : Int32) : Option (Int32 × ah_h) := fX10_firstOfWay_r 6 M x0 x1 x2 x3
set_option maxRecDepth 100000 in
set_option maxHeartbeats 4000000 in
theorem ctX10_firstOfWay_r (l : Launch) (H0 : Heap) (D : va_G) (ca : Nat → ClassId) (n9 : Nat) : ∀ (M : ah_h) (z : Nat) (x0 : Nat) (x1 : Nat) (x2 : Nat) (x3 : Int32) (Z : Int32 × ah_h), fX10_firstOfWay_r n9 M x0 x1 x2 x3 = some Z → ah_ct l H0 D ca yX10_firstOfWay cX10_firstOfWay 10 (some .int) (n9 + 5) (n9 * 29 + 121) 0 0 [.ref x0, .ref x1, .ref x2, .int x3] M z (some (.int Z.1)) Z.2 z := by
  induction n9 with
  | zero => intro M z x0 x1 x2 x3 Z hf; cases hf
  | succ n9 hself =>
    intro M z x0 x1 x2 x3 Z hf
    refine ah_of (by decide) (Nat.le_of_ble_eq_true rfl) ?_
    intro p e s m below meth c ls hin K hG hl
    have hL : ah_L H0 [] := ah_L.nil
    have hl : lv_has ls 10 [(0, .ref x0), (1, .ref x1), (2, .ref x2), (3, .int x3)] := hl
    have hf : fX10_firstOfWay_s (fX10_firstOfWay_r  n9) M x0 x1 x2 x3 = some Z := hf
    generalize fX10_firstOfWay_r  n9 = self at hself hf
    unfold fX10_firstOfWay_s at hf
    refine lv_iload_n K.1 K.2.1 dX10_firstOfWay_0 rfl (lv_at hl 3 rfl) ?_
    refine lv_iconst (v := 1) K.1 K.2.1 dX10_firstOfWay_1 (by decide) ?_
    refine lv_icmp_lt (tgt := 11) K.1 K.2.1 dX10_firstOfWay_2 (by decide) (fun h1 => ?_) (fun h1 => ?_)
    · rw [if_pos h1] at hf
      refine lv_bipush (v := (-4)) K.1 K.2.1 dX10_firstOfWay_11 (by decide) ?_
      have hf := Option.some.inj hf
      subst hf
      exact ah_iret K hG hL (Nat.le_refl _) (Nat.le_refl _) dX10_firstOfWay_13
    · rw [if_neg h1] at hf
      refine lv_iload_n K.1 K.2.1 dX10_firstOfWay_5 rfl (lv_at hl 3 rfl) ?_
      refine lv_aload_n K.1 K.2.1 dX10_firstOfWay_6 rfl (lv_at hl 1 rfl) ?_
      obtain ⟨v2, ev2, hf⟩ := Option.bind_eq_some_iff.mp hf
      refine ah_aler (t := 4) K hG ev2 rfl dX10_firstOfWay_7 ?_
      refine lv_icmp_lt (tgt := 14) K.1 K.2.1 dX10_firstOfWay_8 (by decide) (fun h3 => ?_) (fun h3 => ?_)
      · rw [if_pos h3] at hf
        refine lv_iload_n K.1 K.2.1 dX10_firstOfWay_14 rfl (lv_at hl 3 rfl) ?_
        refine lv_iconst (v := 1) K.1 K.2.1 dX10_firstOfWay_15 (by decide) ?_
        refine lv_icmp_ne (tgt := 25) K.1 K.2.1 dX10_firstOfWay_16 (by decide) (fun h4 => ?_) (fun h4 => ?_)
        · rw [if_neg h4] at hf
          refine lv_aload_n K.1 K.2.1 dX10_firstOfWay_25 rfl (lv_at hl 0 rfl) ?_
          refine lv_aload_n K.1 K.2.1 dX10_firstOfWay_26 rfl (lv_at hl 2 rfl) ?_
          obtain ⟨v5, ev5, hf⟩ := Option.bind_eq_some_iff.mp hf
          obtain ⟨q6, eq6⟩ := ah_this ev5
          refine ah_callV (As := [.ref x2]) (rest := []) K hG hL hl.1 eq6 rfl (ctX2_astray l H0 D ca M z x0 x2 v5 ev5) hdX2_astray q_554 q_555 q_51 q_557 q_556 ⟨by show _ ≤ n9 + 1 + 5; omega, by show _ ≤ (n9 + 1) * 29 + 121; omega⟩ rfl rfl (Nat.le_of_ble_eq_true rfl) ⟨Nat.le_refl _, Nat.le_refl _⟩ dX10_firstOfWay_27 (fun H locs hG hL => ?_)
          refine lv_iconst (v := 2) K.1 K.2.1 dX10_firstOfWay_30 (by decide) ?_
          refine lv_iload_n K.1 K.2.1 dX10_firstOfWay_31 rfl (lv_at hl 3 rfl) ?_
          refine lv_imul K.1 K.2.1 dX10_firstOfWay_32 ?_
          refine lv_icmp_le (tgt := 39) K.1 K.2.1 dX10_firstOfWay_33 (by decide) (fun h7 => ?_) (fun h7 => ?_)
          · rw [if_pos h7] at hf
            refine lv_aload_n K.1 K.2.1 dX10_firstOfWay_39 rfl (lv_at hl 1 rfl) ?_
            refine lv_iload_n K.1 K.2.1 dX10_firstOfWay_40 rfl (lv_at hl 3 rfl) ?_
            obtain ⟨v8, ev8, hf⟩ := Option.bind_eq_some_iff.mp hf
            refine ah_aald (t := 4) K hG ev8 rfl rfl dX10_firstOfWay_41 ?_
            refine lv_astore (lv' := [(4, .ref v8), (0, .ref x0), (1, .ref x1), (2, .ref x2), (3, .int x3)]) K.1 K.2.1 dX10_firstOfWay_42 hl (by decide) rfl (fun ls hl => ?_)
            refine lv_aload_n K.1 K.2.1 dX10_firstOfWay_44 rfl (lv_at hl 1 rfl) ?_
            refine lv_aload K.1 K.2.1 dX10_firstOfWay_45 (lv_at hl 0 rfl) ?_
            obtain ⟨v9, ev9, hf⟩ := Option.bind_eq_some_iff.mp hf
            obtain ⟨q10, eq10⟩ := ah_this ev9
            refine ah_callV (As := [.ref v8]) (rest := []) K hG hL hl.1 eq10 rfl (ctX2_fillGivers l H0 D ca M z x0 v8 v9 ev9) hdX2_fillGivers q_558 q_559 q_51 q_561 q_560 ⟨by show _ ≤ n9 + 1 + 5; omega, by show _ ≤ (n9 + 1) * 29 + 121; omega⟩ rfl rfl (Nat.le_of_ble_eq_true rfl) ⟨Nat.le_refl _, Nat.le_refl _⟩ dX10_firstOfWay_47 (fun H locs hG hL => ?_)
            refine lv_iconst (v := 0) K.1 K.2.1 dX10_firstOfWay_50 (by decide) ?_
            refine lv_istore (lv' := [(5, .int 0), (4, .ref v8), (0, .ref x0), (1, .ref x1), (2, .ref x2), (3, .int x3)]) K.1 K.2.1 dX10_firstOfWay_51 hl (by decide) rfl (fun ls hl => ?_)
            exact wX10_firstOfWay_53 K self hself  ah_fu v9 x0 x1 x2 x3 v8 0 _ _ _ hG hL (lv_sub hl [2, 3, 4, 5, 1, 0] rfl) _ hf
          · rw [if_neg h7] at hf
            refine lv_bipush (v := (-4)) K.1 K.2.1 dX10_firstOfWay_36 (by decide) ?_
            have hf := Option.some.inj hf
            subst hf
            exact ah_iret K hG hL (Nat.le_refl _) (Nat.le_refl _) dX10_firstOfWay_38
        · rw [if_pos h4] at hf
          refine lv_aload_n K.1 K.2.1 dX10_firstOfWay_19 rfl (lv_at hl 0 rfl) ?_
          refine lv_aload_n K.1 K.2.1 dX10_firstOfWay_20 rfl (lv_at hl 2 rfl) ?_
          obtain ⟨v11, ev11, hf⟩ := Option.bind_eq_some_iff.mp hf
          obtain ⟨q12, eq12⟩ := ah_this ev11
          refine ah_callV (As := [.ref x2]) (rest := []) K hG hL hl.1 eq12 rfl (ctX2_lastMeeting l H0 D ca M z x0 x2 v11 ev11) hdX2_lastMeeting q_536 q_537 q_51 q_539 q_538 ⟨by show _ ≤ n9 + 1 + 5; omega, by show _ ≤ (n9 + 1) * 29 + 121; omega⟩ rfl rfl (Nat.le_of_ble_eq_true rfl) ⟨Nat.le_refl _, Nat.le_refl _⟩ dX10_firstOfWay_21 (fun H locs hG hL => ?_)
          have hf := Option.some.inj hf
          subst hf
          exact ah_iret K hG hL (Nat.le_refl _) (Nat.le_refl _) dX10_firstOfWay_24
      · rw [if_neg h3] at hf
        refine lv_bipush (v := (-4)) K.1 K.2.1 dX10_firstOfWay_11 (by decide) ?_
        have hf := Option.some.inj hf
        subst hf
        exact ah_iret K hG hL (Nat.le_refl _) (Nat.le_refl _) dX10_firstOfWay_13
theorem ctX10_firstOfWay (l : Launch) (H0 : Heap) (D : va_G) (ca : Nat → ClassId) (M : ah_h) (z : Nat) (x0 : Nat) (x1 : Nat) (x2 : Nat) (x3 : Int32) (Z : Int32 × ah_h) (hf : fX10_firstOfWay M x0 x1 x2 x3 = some Z) : ah_ct l H0 D ca yX10_firstOfWay cX10_firstOfWay 10 (some .int) 11 295 0 0 [.ref x0, .ref x1, .ref x2, .int x3] M z (some (.int Z.1)) Z.2 z := ctX10_firstOfWay_r l H0 D ca 6 M z x0 x1 x2 x3 Z hf
def fX11_likely_295    (M : ah_h) (a0 : Nat) (x2 : Int32) (x4 : Int32) (y6 : Int64) : Option (Int64 × ah_h) := (ah_gr M a0 11 19).bind fun v1 => (ah_aj M v1 x2).bind fun v2 => (fX11_common M y6 v2).bind fun v3 => if x4 = 0 then ((ah_gr M a0 11 19).bind fun v6 => (ah_aj M v6 x2).bind fun v7 => if v3 = 0 then none else some (v7 / v3, M)) else (if v3 = 0 then none else some (y6 / v3, M))
set_option maxRecDepth 100000 in
set_option maxHeartbeats 4000000 in
theorem wX11_likely_295 {p : Program} {l : Launch} {e : Env} {s : State} {m : MethodId} {args : Array Value} {below : List Frame} {meth : Method} {c : Code} {D : va_G} {ca : Nat → ClassId} {H0 : Heap} {z : Nat} (K : ah_K p s m args meth c D ca "ShipsThatMeetModel" cX11_likely 18 (some .long))   : ∀ (M : ah_h) (a0 : Nat) (x2 : Int32) (x4 : Int32) (y6 : Int64)  (H : Heap) (locs : List Loc) (ls : Array Slot), ah_g H0 D ca M z H → ah_L H0 locs → lv_has ls 18 [(0, .ref a0), (2, .int x2), (4, .int x4), (6, .long y6)] → ∀ Z, fX11_likely_295    M a0 x2 x4 y6 = some Z → W p l e { frames := 201, cells := 0, slots := 0, locals := 4623 } s m args below meth c H locs 0 0 (ah_Q below args s H0 D ca 0 0 (some (.long Z.1)) Z.2 z) (F0 m 295 ls []) := by
  intro M a0 x2 x4 y6 H locs ls hG hL hl Z hf
  unfold fX11_likely_295 at hf
  refine lv_lload K.1 K.2.1 dX11_likely_295 (lv_at hl 3 rfl) ?_
  refine lv_aload_n K.1 K.2.1 dX11_likely_297 rfl (lv_at hl 0 rfl) ?_
  obtain ⟨v1, ev1, hf⟩ := Option.bind_eq_some_iff.mp hf
  refine ah_getr K hG ev1 ffX11_43_11 dX11_likely_298 ?_
  refine lv_iload_n K.1 K.2.1 dX11_likely_301 rfl (lv_at hl 1 rfl) ?_
  obtain ⟨v2, ev2, hf⟩ := Option.bind_eq_some_iff.mp hf
  refine ah_lald K hG ev2 dX11_likely_302 ?_
  obtain ⟨v3, ev3, hf⟩ := Option.bind_eq_some_iff.mp hf
  refine ah_callS (As := [.long y6, .long v2]) (rest := []) K hG hL hl.1 (ctX11_common l H0 D ca M z y6 v2 v3 ev3) hdX11_common q_1132 q_1133 q_54 q_1134 ⟨Nat.le_of_ble_eq_true rfl, Nat.le_of_ble_eq_true rfl⟩ rfl rfl (Nat.le_of_ble_eq_true rfl) ⟨Nat.le_refl _, Nat.le_refl _⟩ dX11_likely_303 (fun H locs hG hL => ?_)
  refine lv_lstore (lv' := [(8, .long v3), (0, .ref a0), (2, .int x2), (4, .int x4), (6, .long y6)]) K.1 K.2.1 dX11_likely_306 hl (by decide) rfl (fun ls hl => ?_)
  refine lv_iload K.1 K.2.1 dX11_likely_308 (lv_at hl 3 rfl) ?_
  refine lv_if_ne (tgt := 325) K.1 K.2.1 dX11_likely_310 (by decide) (fun h4 => ?_) (fun h4 => ?_)
  · rw [if_neg h4] at hf
    refine lv_lload K.1 K.2.1 dX11_likely_325 (lv_at hl 4 rfl) ?_
    refine lv_lload K.1 K.2.1 dX11_likely_327 (lv_at hl 0 rfl) ?_
    by_cases h5 : v3 = 0
    · rw [if_pos h5] at hf; cases hf
    rw [if_neg h5] at hf
    refine lv_ldiv K.1 K.2.1 dX11_likely_329 h5 ?_
    have hf := Option.some.inj hf
    subst hf
    exact ah_lret K hG hL (Nat.le_refl _) (Nat.le_refl _) dX11_likely_330
  · rw [if_pos h4] at hf
    refine lv_aload_n K.1 K.2.1 dX11_likely_313 rfl (lv_at hl 1 rfl) ?_
    obtain ⟨v6, ev6, hf⟩ := Option.bind_eq_some_iff.mp hf
    refine ah_getr K hG ev6 ffX11_43_11 dX11_likely_314 ?_
    refine lv_iload_n K.1 K.2.1 dX11_likely_317 rfl (lv_at hl 2 rfl) ?_
    obtain ⟨v7, ev7, hf⟩ := Option.bind_eq_some_iff.mp hf
    refine ah_lald K hG ev7 dX11_likely_318 ?_
    refine lv_lload K.1 K.2.1 dX11_likely_319 (lv_at hl 0 rfl) ?_
    by_cases h8 : v3 = 0
    · rw [if_pos h8] at hf; cases hf
    rw [if_neg h8] at hf
    refine lv_ldiv K.1 K.2.1 dX11_likely_321 h8 ?_
    refine lv_goto (tgt := 330) K.1 K.2.1 dX11_likely_322 (by decide) ?_
    have hf := Option.some.inj hf
    subst hf
    exact ah_lret K hG hL (Nat.le_refl _) (Nat.le_refl _) dX11_likely_330
def fX11_likely_289  (k94 : ah_h → Nat → Int32 → Int32 → Int32 → Int64 → Int32 → Option (Int64 × ah_h))  (M : ah_h) (a0 : Nat) (x2 : Int32) (x3 : Int32) (x4 : Int32) (y6 : Int64) (x8 : Int32) : Option (Int64 × ah_h) := k94 M a0 x2 x3 x4 y6 (x8 + 1)
set_option maxRecDepth 100000 in
set_option maxHeartbeats 4000000 in
theorem wX11_likely_289 {p : Program} {l : Launch} {e : Env} {s : State} {m : MethodId} {args : Array Value} {below : List Frame} {meth : Method} {c : Code} {D : va_G} {ca : Nat → ClassId} {H0 : Heap} {z : Nat} (K : ah_K p s m args meth c D ca "ShipsThatMeetModel" cX11_likely 18 (some .long))  (k94 : ah_h → Nat → Int32 → Int32 → Int32 → Int64 → Int32 → Option (Int64 × ah_h)) (hk94 : ∀ (M : ah_h) (a0 : Nat) (x2 : Int32) (x3 : Int32) (x4 : Int32) (y6 : Int64) (x8 : Int32)  (H : Heap) (locs : List Loc) (ls : Array Slot), ah_g H0 D ca M z H → ah_L H0 locs → lv_has ls 18 [(0, .ref a0), (2, .int x2), (3, .int x3), (4, .int x4), (6, .long y6), (8, .int x8)] → ∀ Z, k94 M a0 x2 x3 x4 y6 x8 = some Z → W p l e { frames := 201, cells := 0, slots := 0, locals := 4623 } s m args below meth c H locs 0 0 (ah_Q below args s H0 D ca 0 0 (some (.long Z.1)) Z.2 z) (F0 m 94 ls [])) : ∀ (M : ah_h) (a0 : Nat) (x2 : Int32) (x3 : Int32) (x4 : Int32) (y6 : Int64) (x8 : Int32)  (H : Heap) (locs : List Loc) (ls : Array Slot), ah_g H0 D ca M z H → ah_L H0 locs → lv_has ls 18 [(0, .ref a0), (2, .int x2), (3, .int x3), (4, .int x4), (6, .long y6), (8, .int x8)] → ∀ Z, fX11_likely_289  k94  M a0 x2 x3 x4 y6 x8 = some Z → W p l e { frames := 201, cells := 0, slots := 0, locals := 4623 } s m args below meth c H locs 0 0 (ah_Q below args s H0 D ca 0 0 (some (.long Z.1)) Z.2 z) (F0 m 289 ls []) := by
  intro M a0 x2 x3 x4 y6 x8 H locs ls hG hL hl Z hf
  unfold fX11_likely_289 at hf
  refine lv_iinc (v := x8 + 1) (lv' := [(8, .int (x8 + 1)), (0, .ref a0), (2, .int x2), (3, .int x3), (4, .int x4), (6, .long y6)]) K.1 K.2.1 dX11_likely_289 hl (k := 5) rfl rfl (by decide) rfl (fun ls hl => ?_)
  refine lv_goto (tgt := 94) K.1 K.2.1 dX11_likely_292 (by decide) ?_
  exact hk94 M a0 x2 x3 x4 y6 (x8 + 1) _ _ _ hG hL (lv_sub hl [1, 2, 3, 4, 5, 0] rfl) _ hf
def fX11_likely_230_b  (k94 : ah_h → Nat → Int32 → Int32 → Int32 → Int64 → Int32 → Option (Int64 × ah_h)) (k230 : ah_h → Nat → Int32 → Int32 → Int32 → Int64 → Int32 → Int32 → Int32 → Int32 → Int32 → Int64 → Int64 → Int32 → Option (Int64 × ah_h))  (M : ah_h) (a0 : Nat) (x2 : Int32) (x3 : Int32) (x4 : Int32) (y6 : Int64) (x8 : Int32) (x9 : Int32) (x10 : Int32) (x11 : Int32) (x12 : Int32) (y13 : Int64) (y15 : Int64) (x17 : Int32) : Option (Int64 × ah_h) := if 5 ≤ x17 then ((ah_gr M a0 11 19).bind fun v2 => (ah_sj M v2 x9 y13).bind fun M3 => (ah_gr M3 a0 11 19).bind fun v4 => (ah_sj M3 v4 x10 y15).bind fun M5 => fX11_likely_289 k94 M5 a0 x2 x3 x4 (y6 * (x11.toInt64 * x12.toInt64)) x8) else ((ah_gr M a0 11 19).bind fun v6 => (ah_aj M v6 x17).bind fun v7 => (ah_sj M v6 x17 (v7 * (x11.toInt64 * x12.toInt64))).bind fun M8 => k230 M8 a0 x2 x3 x4 y6 x8 x9 x10 x11 x12 y13 y15 (x17 + 1))
def fX11_likely_230  (k94 : ah_h → Nat → Int32 → Int32 → Int32 → Int64 → Int32 → Option (Int64 × ah_h))  : Nat → ah_h → Nat → Int32 → Int32 → Int32 → Int64 → Int32 → Int32 → Int32 → Int32 → Int32 → Int64 → Int64 → Int32 → Option (Int64 × ah_h)
  | 0 => fun _ _ _ _ _ _ _ _ _ _ _ _ _ _ => none
  | n + 1 => fun M a0 x2 x3 x4 y6 x8 x9 x10 x11 x12 y13 y15 x17 => fX11_likely_230_b  k94 (fX11_likely_230  k94  n)  M a0 x2 x3 x4 y6 x8 x9 x10 x11 x12 y13 y15 x17
set_option maxRecDepth 100000 in
set_option maxHeartbeats 4000000 in
theorem wX11_likely_230_b {p : Program} {l : Launch} {e : Env} {s : State} {m : MethodId} {args : Array Value} {below : List Frame} {meth : Method} {c : Code} {D : va_G} {ca : Nat → ClassId} {H0 : Heap} {z : Nat} (K : ah_K p s m args meth c D ca "ShipsThatMeetModel" cX11_likely 18 (some .long))  (k94 : ah_h → Nat → Int32 → Int32 → Int32 → Int64 → Int32 → Option (Int64 × ah_h)) (hk94 : ∀ (M : ah_h) (a0 : Nat) (x2 : Int32) (x3 : Int32) (x4 : Int32) (y6 : Int64) (x8 : Int32)  (H : Heap) (locs : List Loc) (ls : Array Slot), ah_g H0 D ca M z H → ah_L H0 locs → lv_has ls 18 [(0, .ref a0), (2, .int x2), (3, .int x3), (4, .int x4), (6, .long y6), (8, .int x8)] → ∀ Z, k94 M a0 x2 x3 x4 y6 x8 = some Z → W p l e { frames := 201, cells := 0, slots := 0, locals := 4623 } s m args below meth c H locs 0 0 (ah_Q below args s H0 D ca 0 0 (some (.long Z.1)) Z.2 z) (F0 m 94 ls [])) (k230 : ah_h → Nat → Int32 → Int32 → Int32 → Int64 → Int32 → Int32 → Int32 → Int32 → Int32 → Int64 → Int64 → Int32 → Option (Int64 × ah_h)) (hk230 : ∀ (M : ah_h) (a0 : Nat) (x2 : Int32) (x3 : Int32) (x4 : Int32) (y6 : Int64) (x8 : Int32) (x9 : Int32) (x10 : Int32) (x11 : Int32) (x12 : Int32) (y13 : Int64) (y15 : Int64) (x17 : Int32)  (H : Heap) (locs : List Loc) (ls : Array Slot), ah_g H0 D ca M z H → ah_L H0 locs → lv_has ls 18 [(0, .ref a0), (2, .int x2), (3, .int x3), (4, .int x4), (6, .long y6), (8, .int x8), (9, .int x9), (10, .int x10), (11, .int x11), (12, .int x12), (13, .long y13), (15, .long y15), (17, .int x17)] → ∀ Z, k230 M a0 x2 x3 x4 y6 x8 x9 x10 x11 x12 y13 y15 x17 = some Z → W p l e { frames := 201, cells := 0, slots := 0, locals := 4623 } s m args below meth c H locs 0 0 (ah_Q below args s H0 D ca 0 0 (some (.long Z.1)) Z.2 z) (F0 m 230 ls [])) : ∀ (M : ah_h) (a0 : Nat) (x2 : Int32) (x3 : Int32) (x4 : Int32) (y6 : Int64) (x8 : Int32) (x9 : Int32) (x10 : Int32) (x11 : Int32) (x12 : Int32) (y13 : Int64) (y15 : Int64) (x17 : Int32)  (H : Heap) (locs : List Loc) (ls : Array Slot), ah_g H0 D ca M z H → ah_L H0 locs → lv_has ls 18 [(0, .ref a0), (2, .int x2), (3, .int x3), (4, .int x4), (6, .long y6), (8, .int x8), (9, .int x9), (10, .int x10), (11, .int x11), (12, .int x12), (13, .long y13), (15, .long y15), (17, .int x17)] → ∀ Z, fX11_likely_230_b  k94 k230  M a0 x2 x3 x4 y6 x8 x9 x10 x11 x12 y13 y15 x17 = some Z → W p l e { frames := 201, cells := 0, slots := 0, locals := 4623 } s m args below meth c H locs 0 0 (ah_Q below args s H0 D ca 0 0 (some (.long Z.1)) Z.2 z) (F0 m 230 ls []) := by
  intro M a0 x2 x3 x4 y6 x8 x9 x10 x11 x12 y13 y15 x17 H locs ls hG hL hl Z hf
  unfold fX11_likely_230_b at hf
  refine lv_iload K.1 K.2.1 dX11_likely_230 (lv_at hl 12 rfl) ?_
  refine lv_iconst (v := 5) K.1 K.2.1 dX11_likely_232 (by decide) ?_
  refine lv_icmp_ge (tgt := 259) K.1 K.2.1 dX11_likely_233 (by decide) (fun h1 => ?_) (fun h1 => ?_)
  · rw [if_pos h1] at hf
    refine lv_aload_n K.1 K.2.1 dX11_likely_259 rfl (lv_at hl 0 rfl) ?_
    obtain ⟨v2, ev2, hf⟩ := Option.bind_eq_some_iff.mp hf
    refine ah_getr K hG ev2 ffX11_43_11 dX11_likely_260 ?_
    refine lv_iload K.1 K.2.1 dX11_likely_263 (lv_at hl 6 rfl) ?_
    refine lv_lload K.1 K.2.1 dX11_likely_265 (lv_at hl 10 rfl) ?_
    obtain ⟨M3, eM3, hf⟩ := Option.bind_eq_some_iff.mp hf
    refine ah_last K hG hL eM3 dX11_likely_267 (fun H locs hG hL => ?_)
    refine lv_aload_n K.1 K.2.1 dX11_likely_268 rfl (lv_at hl 0 rfl) ?_
    obtain ⟨v4, ev4, hf⟩ := Option.bind_eq_some_iff.mp hf
    refine ah_getr K hG ev4 ffX11_43_11 dX11_likely_269 ?_
    refine lv_iload K.1 K.2.1 dX11_likely_272 (lv_at hl 7 rfl) ?_
    refine lv_lload K.1 K.2.1 dX11_likely_274 (lv_at hl 11 rfl) ?_
    obtain ⟨M5, eM5, hf⟩ := Option.bind_eq_some_iff.mp hf
    refine ah_last K hG hL eM5 dX11_likely_276 (fun H locs hG hL => ?_)
    refine lv_lload K.1 K.2.1 dX11_likely_277 (lv_at hl 4 rfl) ?_
    refine lv_iload K.1 K.2.1 dX11_likely_279 (lv_at hl 8 rfl) ?_
    refine lv_i2l (v := x11.toInt64) K.1 K.2.1 dX11_likely_281 rfl ?_
    refine lv_iload K.1 K.2.1 dX11_likely_282 (lv_at hl 9 rfl) ?_
    refine lv_i2l (v := x12.toInt64) K.1 K.2.1 dX11_likely_284 rfl ?_
    refine lv_lmul K.1 K.2.1 dX11_likely_285 ?_
    refine lv_lmul K.1 K.2.1 dX11_likely_286 ?_
    refine lv_lstore (lv' := [(6, .long (y6 * (x11.toInt64 * x12.toInt64))), (0, .ref a0), (2, .int x2), (3, .int x3), (4, .int x4), (8, .int x8), (9, .int x9), (10, .int x10), (11, .int x11), (12, .int x12), (13, .long y13), (15, .long y15), (17, .int x17)]) K.1 K.2.1 dX11_likely_287 hl (by decide) rfl (fun ls hl => ?_)
    exact wX11_likely_289 K k94 hk94 M5 a0 x2 x3 x4 (y6 * (x11.toInt64 * x12.toInt64)) x8 _ _ _ hG hL (lv_sub hl [1, 2, 3, 4, 0, 5] rfl) _ hf
  · rw [if_neg h1] at hf
    refine lv_aload_n K.1 K.2.1 dX11_likely_236 rfl (lv_at hl 0 rfl) ?_
    obtain ⟨v6, ev6, hf⟩ := Option.bind_eq_some_iff.mp hf
    refine ah_getr K hG ev6 ffX11_43_11 dX11_likely_237 ?_
    refine lv_iload K.1 K.2.1 dX11_likely_240 (lv_at hl 12 rfl) ?_
    refine lv_dup2_11 K.1 K.2.1 dX11_likely_242 rfl rfl ?_
    obtain ⟨v7, ev7, hf⟩ := Option.bind_eq_some_iff.mp hf
    refine ah_lald K hG ev7 dX11_likely_243 ?_
    refine lv_iload K.1 K.2.1 dX11_likely_244 (lv_at hl 8 rfl) ?_
    refine lv_i2l (v := x11.toInt64) K.1 K.2.1 dX11_likely_246 rfl ?_
    refine lv_iload K.1 K.2.1 dX11_likely_247 (lv_at hl 9 rfl) ?_
    refine lv_i2l (v := x12.toInt64) K.1 K.2.1 dX11_likely_249 rfl ?_
    refine lv_lmul K.1 K.2.1 dX11_likely_250 ?_
    refine lv_lmul K.1 K.2.1 dX11_likely_251 ?_
    obtain ⟨M8, eM8, hf⟩ := Option.bind_eq_some_iff.mp hf
    refine ah_last K hG hL eM8 dX11_likely_252 (fun H locs hG hL => ?_)
    refine lv_iinc (v := x17 + 1) (lv' := [(17, .int (x17 + 1)), (0, .ref a0), (2, .int x2), (3, .int x3), (4, .int x4), (6, .long y6), (8, .int x8), (9, .int x9), (10, .int x10), (11, .int x11), (12, .int x12), (13, .long y13), (15, .long y15)]) K.1 K.2.1 dX11_likely_253 hl (k := 12) rfl rfl (by decide) rfl (fun ls hl => ?_)
    refine lv_goto (tgt := 230) K.1 K.2.1 dX11_likely_256 (by decide) ?_
    exact hk230 M8 a0 x2 x3 x4 y6 x8 x9 x10 x11 x12 y13 y15 (x17 + 1) _ _ _ hG hL (lv_sub hl [1, 2, 3, 4, 5, 6, 7, 8, 9, 10, 11, 12, 0] rfl) _ hf
theorem wX11_likely_230 {p : Program} {l : Launch} {e : Env} {s : State} {m : MethodId} {args : Array Value} {below : List Frame} {meth : Method} {c : Code} {D : va_G} {ca : Nat → ClassId} {H0 : Heap} {z : Nat} (K : ah_K p s m args meth c D ca "ShipsThatMeetModel" cX11_likely 18 (some .long))  (k94 : ah_h → Nat → Int32 → Int32 → Int32 → Int64 → Int32 → Option (Int64 × ah_h)) (hk94 : ∀ (M : ah_h) (a0 : Nat) (x2 : Int32) (x3 : Int32) (x4 : Int32) (y6 : Int64) (x8 : Int32)  (H : Heap) (locs : List Loc) (ls : Array Slot), ah_g H0 D ca M z H → ah_L H0 locs → lv_has ls 18 [(0, .ref a0), (2, .int x2), (3, .int x3), (4, .int x4), (6, .long y6), (8, .int x8)] → ∀ Z, k94 M a0 x2 x3 x4 y6 x8 = some Z → W p l e { frames := 201, cells := 0, slots := 0, locals := 4623 } s m args below meth c H locs 0 0 (ah_Q below args s H0 D ca 0 0 (some (.long Z.1)) Z.2 z) (F0 m 94 ls [])) (n : Nat) : ∀ (M : ah_h) (a0 : Nat) (x2 : Int32) (x3 : Int32) (x4 : Int32) (y6 : Int64) (x8 : Int32) (x9 : Int32) (x10 : Int32) (x11 : Int32) (x12 : Int32) (y13 : Int64) (y15 : Int64) (x17 : Int32)  (H : Heap) (locs : List Loc) (ls : Array Slot), ah_g H0 D ca M z H → ah_L H0 locs → lv_has ls 18 [(0, .ref a0), (2, .int x2), (3, .int x3), (4, .int x4), (6, .long y6), (8, .int x8), (9, .int x9), (10, .int x10), (11, .int x11), (12, .int x12), (13, .long y13), (15, .long y15), (17, .int x17)] → ∀ Z, fX11_likely_230  k94  n M a0 x2 x3 x4 y6 x8 x9 x10 x11 x12 y13 y15 x17 = some Z → W p l e { frames := 201, cells := 0, slots := 0, locals := 4623 } s m args below meth c H locs 0 0 (ah_Q below args s H0 D ca 0 0 (some (.long Z.1)) Z.2 z) (F0 m 230 ls []) := by
  induction n with
  | zero => intro M a0 x2 x3 x4 y6 x8 x9 x10 x11 x12 y13 y15 x17 H locs ls hG hL hl Z hf; cases hf
  | succ n ih => exact wX11_likely_230_b K k94 hk94 _ ih
def fX11_likely_94_b   (k94 : ah_h → Nat → Int32 → Int32 → Int32 → Int64 → Int32 → Option (Int64 × ah_h))  (M : ah_h) (a0 : Nat) (x2 : Int32) (x3 : Int32) (x4 : Int32) (y6 : Int64) (x8 : Int32) : Option (Int64 × ah_h) := (fX11_meetings M a0 x3).bind fun v1 => if v1 ≤ x8 then (fX11_likely_295 M a0 x2 x4 y6) else (if 8 ≤ x8 then (fX11_likely_295 M a0 x2 x4 y6) else ((fX11_first M a0 x3 x8).bind fun v5 => (fX11_second M a0 x3 x8).bind fun v7 => (fX11_mayMeet M a0 v5 v7).bind fun v9 => if v9 = 0 then (fX11_likely_289 k94 M a0 x2 x3 x4 y6 x8) else ((fX11_aboard M a0 v5).bind fun v12 => (fX11_bits M v12).bind fun v14 => (fX11_aboard M a0 v7).bind fun v15 => (fX11_bits M v15).bind fun v17 => (ah_gr M a0 11 19).bind fun v18 => (ah_aj M v18 v5).bind fun v19 => (ah_gr M a0 11 19).bind fun v20 => (ah_aj M v20 v7).bind fun v21 => (ah_gr M a0 11 19).bind fun v22 => (ah_aj M v22 v7).bind fun v23 => (ah_gr M a0 11 19).bind fun v24 => (ah_aj M v24 v5).bind fun v25 => fX11_likely_230 k94 ah_fu M a0 x2 x3 x4 y6 x8 v5 v7 v14 v17 (((v19 * ((v14 - 1).toInt64)) * v17.toInt64) + (v21 * v14.toInt64)) (((v23 * ((v17 - 1).toInt64)) * v14.toInt64) + (v25 * v17.toInt64)) 0)))
def fX11_likely_94    : Nat → ah_h → Nat → Int32 → Int32 → Int32 → Int64 → Int32 → Option (Int64 × ah_h)
  | 0 => fun _ _ _ _ _ _ _ => none
  | n + 1 => fun M a0 x2 x3 x4 y6 x8 => fX11_likely_94_b   (fX11_likely_94    n)  M a0 x2 x3 x4 y6 x8
set_option maxRecDepth 100000 in
set_option maxHeartbeats 4000000 in
theorem wX11_likely_94_b {p : Program} {l : Launch} {e : Env} {s : State} {m : MethodId} {args : Array Value} {below : List Frame} {meth : Method} {c : Code} {D : va_G} {ca : Nat → ClassId} {H0 : Heap} {z : Nat} (K : ah_K p s m args meth c D ca "ShipsThatMeetModel" cX11_likely 18 (some .long))   (k94 : ah_h → Nat → Int32 → Int32 → Int32 → Int64 → Int32 → Option (Int64 × ah_h)) (hk94 : ∀ (M : ah_h) (a0 : Nat) (x2 : Int32) (x3 : Int32) (x4 : Int32) (y6 : Int64) (x8 : Int32)  (H : Heap) (locs : List Loc) (ls : Array Slot), ah_g H0 D ca M z H → ah_L H0 locs → lv_has ls 18 [(0, .ref a0), (2, .int x2), (3, .int x3), (4, .int x4), (6, .long y6), (8, .int x8)] → ∀ Z, k94 M a0 x2 x3 x4 y6 x8 = some Z → W p l e { frames := 201, cells := 0, slots := 0, locals := 4623 } s m args below meth c H locs 0 0 (ah_Q below args s H0 D ca 0 0 (some (.long Z.1)) Z.2 z) (F0 m 94 ls [])) : ∀ (M : ah_h) (a0 : Nat) (x2 : Int32) (x3 : Int32) (x4 : Int32) (y6 : Int64) (x8 : Int32)  (H : Heap) (locs : List Loc) (ls : Array Slot), ah_g H0 D ca M z H → ah_L H0 locs → lv_has ls 18 [(0, .ref a0), (2, .int x2), (3, .int x3), (4, .int x4), (6, .long y6), (8, .int x8)] → ∀ Z, fX11_likely_94_b   k94  M a0 x2 x3 x4 y6 x8 = some Z → W p l e { frames := 201, cells := 0, slots := 0, locals := 4623 } s m args below meth c H locs 0 0 (ah_Q below args s H0 D ca 0 0 (some (.long Z.1)) Z.2 z) (F0 m 94 ls []) := by
  intro M a0 x2 x3 x4 y6 x8 H locs ls hG hL hl Z hf
  unfold fX11_likely_94_b at hf
  refine lv_iload K.1 K.2.1 dX11_likely_94 (lv_at hl 5 rfl) ?_
  refine lv_aload_n K.1 K.2.1 dX11_likely_96 rfl (lv_at hl 0 rfl) ?_
  refine lv_iload_n K.1 K.2.1 dX11_likely_97 rfl (lv_at hl 2 rfl) ?_
  obtain ⟨v1, ev1, hf⟩ := Option.bind_eq_some_iff.mp hf
  obtain ⟨q2, eq2⟩ := ah_this ev1
  refine ah_callV (As := [.int x3]) (rest := [.int x8]) K hG hL hl.1 eq2 rfl (ctX11_meetings l H0 D ca M z a0 x3 v1 ev1) hdX11_meetings q_1095 q_1097 q_54 q_1098 q_34 ⟨Nat.le_of_ble_eq_true rfl, Nat.le_of_ble_eq_true rfl⟩ rfl rfl (Nat.le_of_ble_eq_true rfl) ⟨Nat.le_refl _, Nat.le_refl _⟩ dX11_likely_98 (fun H locs hG hL => ?_)
  refine lv_icmp_ge (tgt := 295) K.1 K.2.1 dX11_likely_101 (by decide) (fun h3 => ?_) (fun h3 => ?_)
  · rw [if_pos h3] at hf
    exact wX11_likely_295 K  M a0 x2 x4 y6 _ _ _ hG hL (lv_sub hl [0, 1, 3, 4] rfl) _ hf
  · rw [if_neg h3] at hf
    refine lv_iload K.1 K.2.1 dX11_likely_104 (lv_at hl 5 rfl) ?_
    refine lv_bipush (v := 8) K.1 K.2.1 dX11_likely_106 (by decide) ?_
    refine lv_icmp_ge (tgt := 295) K.1 K.2.1 dX11_likely_108 (by decide) (fun h4 => ?_) (fun h4 => ?_)
    · rw [if_pos h4] at hf
      exact wX11_likely_295 K  M a0 x2 x4 y6 _ _ _ hG hL (lv_sub hl [0, 1, 3, 4] rfl) _ hf
    · rw [if_neg h4] at hf
      refine lv_aload_n K.1 K.2.1 dX11_likely_111 rfl (lv_at hl 0 rfl) ?_
      refine lv_iload_n K.1 K.2.1 dX11_likely_112 rfl (lv_at hl 2 rfl) ?_
      refine lv_iload K.1 K.2.1 dX11_likely_113 (lv_at hl 5 rfl) ?_
      obtain ⟨v5, ev5, hf⟩ := Option.bind_eq_some_iff.mp hf
      obtain ⟨q6, eq6⟩ := ah_this ev5
      refine ah_callV (As := [.int x3, .int x8]) (rest := []) K hG hL hl.1 eq6 rfl (ctX11_first l H0 D ca M z a0 x3 x8 v5 ev5) hdX11_first q_1103 q_1105 q_54 q_1106 q_36 ⟨Nat.le_of_ble_eq_true rfl, Nat.le_of_ble_eq_true rfl⟩ rfl rfl (Nat.le_of_ble_eq_true rfl) ⟨Nat.le_refl _, Nat.le_refl _⟩ dX11_likely_115 (fun H locs hG hL => ?_)
      refine lv_istore (lv' := [(9, .int v5), (0, .ref a0), (2, .int x2), (3, .int x3), (4, .int x4), (6, .long y6), (8, .int x8)]) K.1 K.2.1 dX11_likely_118 hl (by decide) rfl (fun ls hl => ?_)
      refine lv_aload_n K.1 K.2.1 dX11_likely_120 rfl (lv_at hl 1 rfl) ?_
      refine lv_iload_n K.1 K.2.1 dX11_likely_121 rfl (lv_at hl 3 rfl) ?_
      refine lv_iload K.1 K.2.1 dX11_likely_122 (lv_at hl 6 rfl) ?_
      obtain ⟨v7, ev7, hf⟩ := Option.bind_eq_some_iff.mp hf
      obtain ⟨q8, eq8⟩ := ah_this ev7
      refine ah_callV (As := [.int x3, .int x8]) (rest := []) K hG hL hl.1 eq8 rfl (ctX11_second l H0 D ca M z a0 x3 x8 v7 ev7) hdX11_second q_1107 q_1109 q_54 q_1110 q_37 ⟨Nat.le_of_ble_eq_true rfl, Nat.le_of_ble_eq_true rfl⟩ rfl rfl (Nat.le_of_ble_eq_true rfl) ⟨Nat.le_refl _, Nat.le_refl _⟩ dX11_likely_124 (fun H locs hG hL => ?_)
      refine lv_istore (lv' := [(10, .int v7), (9, .int v5), (0, .ref a0), (2, .int x2), (3, .int x3), (4, .int x4), (6, .long y6), (8, .int x8)]) K.1 K.2.1 dX11_likely_127 hl (by decide) rfl (fun ls hl => ?_)
      refine lv_aload_n K.1 K.2.1 dX11_likely_129 rfl (lv_at hl 2 rfl) ?_
      refine lv_iload K.1 K.2.1 dX11_likely_130 (lv_at hl 1 rfl) ?_
      refine lv_iload K.1 K.2.1 dX11_likely_132 (lv_at hl 0 rfl) ?_
      obtain ⟨v9, ev9, hf⟩ := Option.bind_eq_some_iff.mp hf
      obtain ⟨q10, eq10⟩ := ah_this ev9
      refine ah_callV (As := [.int v5, .int v7]) (rest := []) K hG hL hl.1 eq10 rfl (ctX11_mayMeet l H0 D ca M z a0 v5 v7 v9 ev9) hdX11_mayMeet q_1016 q_1018 q_54 q_1019 q_21 ⟨Nat.le_of_ble_eq_true rfl, Nat.le_of_ble_eq_true rfl⟩ rfl rfl (Nat.le_of_ble_eq_true rfl) ⟨Nat.le_refl _, Nat.le_refl _⟩ dX11_likely_134 (fun H locs hG hL => ?_)
      refine lv_if_ne (tgt := 143) K.1 K.2.1 dX11_likely_137 (by decide) (fun h11 => ?_) (fun h11 => ?_)
      · rw [if_neg h11] at hf
        refine lv_aload_n K.1 K.2.1 dX11_likely_143 rfl (lv_at hl 2 rfl) ?_
        refine lv_iload K.1 K.2.1 dX11_likely_144 (lv_at hl 1 rfl) ?_
        obtain ⟨v12, ev12, hf⟩ := Option.bind_eq_some_iff.mp hf
        obtain ⟨q13, eq13⟩ := ah_this ev12
        refine ah_callV (As := [.int v5]) (rest := []) K hG hL hl.1 eq13 rfl (ctX11_aboard l H0 D ca M z a0 v5 v12 ev12) hdX11_aboard q_1008 q_1010 q_54 q_1011 q_19 ⟨Nat.le_of_ble_eq_true rfl, Nat.le_of_ble_eq_true rfl⟩ rfl rfl (Nat.le_of_ble_eq_true rfl) ⟨Nat.le_refl _, Nat.le_refl _⟩ dX11_likely_146 (fun H locs hG hL => ?_)
        obtain ⟨v14, ev14, hf⟩ := Option.bind_eq_some_iff.mp hf
        refine ah_callS (As := [.int v12]) (rest := []) K hG hL hl.1 (ctX11_bits l H0 D ca M z v12 v14 ev14) hdX11_bits q_1036 q_1037 q_54 q_1038 ⟨Nat.le_of_ble_eq_true rfl, Nat.le_of_ble_eq_true rfl⟩ rfl rfl (Nat.le_of_ble_eq_true rfl) ⟨Nat.le_refl _, Nat.le_refl _⟩ dX11_likely_149 (fun H locs hG hL => ?_)
        refine lv_istore (lv' := [(11, .int v14), (10, .int v7), (9, .int v5), (0, .ref a0), (2, .int x2), (3, .int x3), (4, .int x4), (6, .long y6), (8, .int x8)]) K.1 K.2.1 dX11_likely_152 hl (by decide) rfl (fun ls hl => ?_)
        refine lv_aload_n K.1 K.2.1 dX11_likely_154 rfl (lv_at hl 3 rfl) ?_
        refine lv_iload K.1 K.2.1 dX11_likely_155 (lv_at hl 1 rfl) ?_
        obtain ⟨v15, ev15, hf⟩ := Option.bind_eq_some_iff.mp hf
        obtain ⟨q16, eq16⟩ := ah_this ev15
        refine ah_callV (As := [.int v7]) (rest := []) K hG hL hl.1 eq16 rfl (ctX11_aboard l H0 D ca M z a0 v7 v15 ev15) hdX11_aboard q_1008 q_1010 q_54 q_1011 q_19 ⟨Nat.le_of_ble_eq_true rfl, Nat.le_of_ble_eq_true rfl⟩ rfl rfl (Nat.le_of_ble_eq_true rfl) ⟨Nat.le_refl _, Nat.le_refl _⟩ dX11_likely_157 (fun H locs hG hL => ?_)
        obtain ⟨v17, ev17, hf⟩ := Option.bind_eq_some_iff.mp hf
        refine ah_callS (As := [.int v15]) (rest := []) K hG hL hl.1 (ctX11_bits l H0 D ca M z v15 v17 ev17) hdX11_bits q_1036 q_1037 q_54 q_1038 ⟨Nat.le_of_ble_eq_true rfl, Nat.le_of_ble_eq_true rfl⟩ rfl rfl (Nat.le_of_ble_eq_true rfl) ⟨Nat.le_refl _, Nat.le_refl _⟩ dX11_likely_160 (fun H locs hG hL => ?_)
        refine lv_istore (lv' := [(12, .int v17), (11, .int v14), (10, .int v7), (9, .int v5), (0, .ref a0), (2, .int x2), (3, .int x3), (4, .int x4), (6, .long y6), (8, .int x8)]) K.1 K.2.1 dX11_likely_163 hl (by decide) rfl (fun ls hl => ?_)
        refine lv_aload_n K.1 K.2.1 dX11_likely_165 rfl (lv_at hl 4 rfl) ?_
        obtain ⟨v18, ev18, hf⟩ := Option.bind_eq_some_iff.mp hf
        refine ah_getr K hG ev18 ffX11_43_11 dX11_likely_166 ?_
        refine lv_iload K.1 K.2.1 dX11_likely_169 (lv_at hl 3 rfl) ?_
        obtain ⟨v19, ev19, hf⟩ := Option.bind_eq_some_iff.mp hf
        refine ah_lald K hG ev19 dX11_likely_171 ?_
        refine lv_iload K.1 K.2.1 dX11_likely_172 (lv_at hl 1 rfl) ?_
        refine lv_iconst (v := 1) K.1 K.2.1 dX11_likely_174 (by decide) ?_
        refine lv_isub K.1 K.2.1 dX11_likely_175 ?_
        refine lv_i2l (v := (v14 - 1).toInt64) K.1 K.2.1 dX11_likely_176 rfl ?_
        refine lv_lmul K.1 K.2.1 dX11_likely_177 ?_
        refine lv_iload K.1 K.2.1 dX11_likely_178 (lv_at hl 0 rfl) ?_
        refine lv_i2l (v := v17.toInt64) K.1 K.2.1 dX11_likely_180 rfl ?_
        refine lv_lmul K.1 K.2.1 dX11_likely_181 ?_
        refine lv_aload_n K.1 K.2.1 dX11_likely_182 rfl (lv_at hl 4 rfl) ?_
        obtain ⟨v20, ev20, hf⟩ := Option.bind_eq_some_iff.mp hf
        refine ah_getr K hG ev20 ffX11_43_11 dX11_likely_183 ?_
        refine lv_iload K.1 K.2.1 dX11_likely_186 (lv_at hl 2 rfl) ?_
        obtain ⟨v21, ev21, hf⟩ := Option.bind_eq_some_iff.mp hf
        refine ah_lald K hG ev21 dX11_likely_188 ?_
        refine lv_iload K.1 K.2.1 dX11_likely_189 (lv_at hl 1 rfl) ?_
        refine lv_i2l (v := v14.toInt64) K.1 K.2.1 dX11_likely_191 rfl ?_
        refine lv_lmul K.1 K.2.1 dX11_likely_192 ?_
        refine lv_ladd K.1 K.2.1 dX11_likely_193 ?_
        refine lv_lstore (lv' := [(13, .long (((v19 * ((v14 - 1).toInt64)) * v17.toInt64) + (v21 * v14.toInt64))), (12, .int v17), (11, .int v14), (10, .int v7), (9, .int v5), (0, .ref a0), (2, .int x2), (3, .int x3), (4, .int x4), (6, .long y6), (8, .int x8)]) K.1 K.2.1 dX11_likely_194 hl (by decide) rfl (fun ls hl => ?_)
        refine lv_aload_n K.1 K.2.1 dX11_likely_196 rfl (lv_at hl 5 rfl) ?_
        obtain ⟨v22, ev22, hf⟩ := Option.bind_eq_some_iff.mp hf
        refine ah_getr K hG ev22 ffX11_43_11 dX11_likely_197 ?_
        refine lv_iload K.1 K.2.1 dX11_likely_200 (lv_at hl 3 rfl) ?_
        obtain ⟨v23, ev23, hf⟩ := Option.bind_eq_some_iff.mp hf
        refine ah_lald K hG ev23 dX11_likely_202 ?_
        refine lv_iload K.1 K.2.1 dX11_likely_203 (lv_at hl 1 rfl) ?_
        refine lv_iconst (v := 1) K.1 K.2.1 dX11_likely_205 (by decide) ?_
        refine lv_isub K.1 K.2.1 dX11_likely_206 ?_
        refine lv_i2l (v := (v17 - 1).toInt64) K.1 K.2.1 dX11_likely_207 rfl ?_
        refine lv_lmul K.1 K.2.1 dX11_likely_208 ?_
        refine lv_iload K.1 K.2.1 dX11_likely_209 (lv_at hl 2 rfl) ?_
        refine lv_i2l (v := v14.toInt64) K.1 K.2.1 dX11_likely_211 rfl ?_
        refine lv_lmul K.1 K.2.1 dX11_likely_212 ?_
        refine lv_aload_n K.1 K.2.1 dX11_likely_213 rfl (lv_at hl 5 rfl) ?_
        obtain ⟨v24, ev24, hf⟩ := Option.bind_eq_some_iff.mp hf
        refine ah_getr K hG ev24 ffX11_43_11 dX11_likely_214 ?_
        refine lv_iload K.1 K.2.1 dX11_likely_217 (lv_at hl 4 rfl) ?_
        obtain ⟨v25, ev25, hf⟩ := Option.bind_eq_some_iff.mp hf
        refine ah_lald K hG ev25 dX11_likely_219 ?_
        refine lv_iload K.1 K.2.1 dX11_likely_220 (lv_at hl 1 rfl) ?_
        refine lv_i2l (v := v17.toInt64) K.1 K.2.1 dX11_likely_222 rfl ?_
        refine lv_lmul K.1 K.2.1 dX11_likely_223 ?_
        refine lv_ladd K.1 K.2.1 dX11_likely_224 ?_
        refine lv_lstore (lv' := [(15, .long (((v23 * ((v17 - 1).toInt64)) * v14.toInt64) + (v25 * v17.toInt64))), (13, .long (((v19 * ((v14 - 1).toInt64)) * v17.toInt64) + (v21 * v14.toInt64))), (12, .int v17), (11, .int v14), (10, .int v7), (9, .int v5), (0, .ref a0), (2, .int x2), (3, .int x3), (4, .int x4), (6, .long y6), (8, .int x8)]) K.1 K.2.1 dX11_likely_225 hl (by decide) rfl (fun ls hl => ?_)
        refine lv_iconst (v := 0) K.1 K.2.1 dX11_likely_227 (by decide) ?_
        refine lv_istore (lv' := [(17, .int 0), (15, .long (((v23 * ((v17 - 1).toInt64)) * v14.toInt64) + (v25 * v17.toInt64))), (13, .long (((v19 * ((v14 - 1).toInt64)) * v17.toInt64) + (v21 * v14.toInt64))), (12, .int v17), (11, .int v14), (10, .int v7), (9, .int v5), (0, .ref a0), (2, .int x2), (3, .int x3), (4, .int x4), (6, .long y6), (8, .int x8)]) K.1 K.2.1 dX11_likely_228 hl (by decide) rfl (fun ls hl => ?_)
        exact wX11_likely_230 K k94 hk94 ah_fu M a0 x2 x3 x4 y6 x8 v5 v7 v14 v17 (((v19 * ((v14 - 1).toInt64)) * v17.toInt64) + (v21 * v14.toInt64)) (((v23 * ((v17 - 1).toInt64)) * v14.toInt64) + (v25 * v17.toInt64)) 0 _ _ _ hG hL (lv_sub hl [7, 8, 9, 10, 11, 12, 6, 5, 4, 3, 2, 1, 0] rfl) _ hf
      · rw [if_pos h11] at hf
        refine lv_goto (tgt := 289) K.1 K.2.1 dX11_likely_140 (by decide) ?_
        exact wX11_likely_289 K k94 hk94 M a0 x2 x3 x4 y6 x8 _ _ _ hG hL (lv_sub hl [2, 3, 4, 5, 6, 7] rfl) _ hf
theorem wX11_likely_94 {p : Program} {l : Launch} {e : Env} {s : State} {m : MethodId} {args : Array Value} {below : List Frame} {meth : Method} {c : Code} {D : va_G} {ca : Nat → ClassId} {H0 : Heap} {z : Nat} (K : ah_K p s m args meth c D ca "ShipsThatMeetModel" cX11_likely 18 (some .long))   (n : Nat) : ∀ (M : ah_h) (a0 : Nat) (x2 : Int32) (x3 : Int32) (x4 : Int32) (y6 : Int64) (x8 : Int32)  (H : Heap) (locs : List Loc) (ls : Array Slot), ah_g H0 D ca M z H → ah_L H0 locs → lv_has ls 18 [(0, .ref a0), (2, .int x2), (3, .int x3), (4, .int x4), (6, .long y6), (8, .int x8)] → ∀ Z, fX11_likely_94    n M a0 x2 x3 x4 y6 x8 = some Z → W p l e { frames := 201, cells := 0, slots := 0, locals := 4623 } s m args below meth c H locs 0 0 (ah_Q below args s H0 D ca 0 0 (some (.long Z.1)) Z.2 z) (F0 m 94 ls []) := by
  induction n with
  | zero => intro M a0 x2 x3 x4 y6 x8 H locs ls hG hL hl Z hf; cases hf
  | succ n ih => exact wX11_likely_94_b K  _ ih
def fX11_likely_81  (k53 : ah_h → Nat → Int32 → Int32 → Int32 → Int32 → Int32 → Option (Int64 × ah_h))  (M : ah_h) (a0 : Nat) (x1 : Int32) (x2 : Int32) (x3 : Int32) (x4 : Int32) (x6 : Int32) (s0 : Nat) (s1 : Int32) (s2 : Int64) : Option (Int64 × ah_h) := (ah_sj M s0 s1 s2).bind fun M1 => k53 M1 a0 x1 x2 x3 x4 (x6 + 1)
set_option maxRecDepth 100000 in
set_option maxHeartbeats 4000000 in
theorem wX11_likely_81 {p : Program} {l : Launch} {e : Env} {s : State} {m : MethodId} {args : Array Value} {below : List Frame} {meth : Method} {c : Code} {D : va_G} {ca : Nat → ClassId} {H0 : Heap} {z : Nat} (K : ah_K p s m args meth c D ca "ShipsThatMeetModel" cX11_likely 18 (some .long))  (k53 : ah_h → Nat → Int32 → Int32 → Int32 → Int32 → Int32 → Option (Int64 × ah_h)) (hk53 : ∀ (M : ah_h) (a0 : Nat) (x1 : Int32) (x2 : Int32) (x3 : Int32) (x4 : Int32) (x6 : Int32)  (H : Heap) (locs : List Loc) (ls : Array Slot), ah_g H0 D ca M z H → ah_L H0 locs → lv_has ls 18 [(0, .ref a0), (1, .int x1), (2, .int x2), (3, .int x3), (4, .int x4), (6, .int x6)] → ∀ Z, k53 M a0 x1 x2 x3 x4 x6 = some Z → W p l e { frames := 201, cells := 0, slots := 0, locals := 4623 } s m args below meth c H locs 0 0 (ah_Q below args s H0 D ca 0 0 (some (.long Z.1)) Z.2 z) (F0 m 53 ls [])) : ∀ (M : ah_h) (a0 : Nat) (x1 : Int32) (x2 : Int32) (x3 : Int32) (x4 : Int32) (x6 : Int32) (s0 : Nat) (s1 : Int32) (s2 : Int64)  (H : Heap) (locs : List Loc) (ls : Array Slot), ah_g H0 D ca M z H → ah_L H0 locs → lv_has ls 18 [(0, .ref a0), (1, .int x1), (2, .int x2), (3, .int x3), (4, .int x4), (6, .int x6)] → ∀ Z, fX11_likely_81  k53  M a0 x1 x2 x3 x4 x6 s0 s1 s2 = some Z → W p l e { frames := 201, cells := 0, slots := 0, locals := 4623 } s m args below meth c H locs 0 0 (ah_Q below args s H0 D ca 0 0 (some (.long Z.1)) Z.2 z) (F0 m 81 ls [.long s2, .int s1, .ref s0]) := by
  intro M a0 x1 x2 x3 x4 x6 s0 s1 s2 H locs ls hG hL hl Z hf
  unfold fX11_likely_81 at hf
  obtain ⟨M1, eM1, hf⟩ := Option.bind_eq_some_iff.mp hf
  refine ah_last K hG hL eM1 dX11_likely_81 (fun H locs hG hL => ?_)
  refine lv_iinc (v := x6 + 1) (lv' := [(6, .int (x6 + 1)), (0, .ref a0), (1, .int x1), (2, .int x2), (3, .int x3), (4, .int x4)]) K.1 K.2.1 dX11_likely_82 hl (k := 5) rfl rfl (by decide) rfl (fun ls hl => ?_)
  refine lv_goto (tgt := 53) K.1 K.2.1 dX11_likely_85 (by decide) ?_
  exact hk53 M1 a0 x1 x2 x3 x4 (x6 + 1) _ _ _ hG hL (lv_sub hl [1, 2, 3, 4, 5, 0] rfl) _ hf
def fX11_likely_53_b   (k53 : ah_h → Nat → Int32 → Int32 → Int32 → Int32 → Int32 → Option (Int64 × ah_h))  (M : ah_h) (a0 : Nat) (x1 : Int32) (x2 : Int32) (x3 : Int32) (x4 : Int32) (x6 : Int32) : Option (Int64 × ah_h) := if 5 ≤ x6 then (fX11_likely_94 ah_fu M a0 x2 x3 x4 1 0) else ((ah_gr M a0 11 19).bind fun v2 => (fX11_get M a0 x1 0).bind fun v3 => if x6 = v3 then (fX11_likely_81 k53 M a0 x1 x2 x3 x4 x6 v2 x6 1) else (fX11_likely_81 k53 M a0 x1 x2 x3 x4 x6 v2 x6 0))
def fX11_likely_53    : Nat → ah_h → Nat → Int32 → Int32 → Int32 → Int32 → Int32 → Option (Int64 × ah_h)
  | 0 => fun _ _ _ _ _ _ _ => none
  | n + 1 => fun M a0 x1 x2 x3 x4 x6 => fX11_likely_53_b   (fX11_likely_53    n)  M a0 x1 x2 x3 x4 x6
set_option maxRecDepth 100000 in
set_option maxHeartbeats 4000000 in
theorem wX11_likely_53_b {p : Program} {l : Launch} {e : Env} {s : State} {m : MethodId} {args : Array Value} {below : List Frame} {meth : Method} {c : Code} {D : va_G} {ca : Nat → ClassId} {H0 : Heap} {z : Nat} (K : ah_K p s m args meth c D ca "ShipsThatMeetModel" cX11_likely 18 (some .long))   (k53 : ah_h → Nat → Int32 → Int32 → Int32 → Int32 → Int32 → Option (Int64 × ah_h)) (hk53 : ∀ (M : ah_h) (a0 : Nat) (x1 : Int32) (x2 : Int32) (x3 : Int32) (x4 : Int32) (x6 : Int32)  (H : Heap) (locs : List Loc) (ls : Array Slot), ah_g H0 D ca M z H → ah_L H0 locs → lv_has ls 18 [(0, .ref a0), (1, .int x1), (2, .int x2), (3, .int x3), (4, .int x4), (6, .int x6)] → ∀ Z, k53 M a0 x1 x2 x3 x4 x6 = some Z → W p l e { frames := 201, cells := 0, slots := 0, locals := 4623 } s m args below meth c H locs 0 0 (ah_Q below args s H0 D ca 0 0 (some (.long Z.1)) Z.2 z) (F0 m 53 ls [])) : ∀ (M : ah_h) (a0 : Nat) (x1 : Int32) (x2 : Int32) (x3 : Int32) (x4 : Int32) (x6 : Int32)  (H : Heap) (locs : List Loc) (ls : Array Slot), ah_g H0 D ca M z H → ah_L H0 locs → lv_has ls 18 [(0, .ref a0), (1, .int x1), (2, .int x2), (3, .int x3), (4, .int x4), (6, .int x6)] → ∀ Z, fX11_likely_53_b   k53  M a0 x1 x2 x3 x4 x6 = some Z → W p l e { frames := 201, cells := 0, slots := 0, locals := 4623 } s m args below meth c H locs 0 0 (ah_Q below args s H0 D ca 0 0 (some (.long Z.1)) Z.2 z) (F0 m 53 ls []) := by
  intro M a0 x1 x2 x3 x4 x6 H locs ls hG hL hl Z hf
  unfold fX11_likely_53_b at hf
  refine lv_iload K.1 K.2.1 dX11_likely_53 (lv_at hl 5 rfl) ?_
  refine lv_iconst (v := 5) K.1 K.2.1 dX11_likely_55 (by decide) ?_
  refine lv_icmp_ge (tgt := 88) K.1 K.2.1 dX11_likely_56 (by decide) (fun h1 => ?_) (fun h1 => ?_)
  · rw [if_pos h1] at hf
    refine lv_lconst (v := 1) K.1 K.2.1 dX11_likely_88 (by decide) ?_
    refine lv_lstore (lv' := [(6, .long 1), (0, .ref a0), (1, .int x1), (2, .int x2), (3, .int x3), (4, .int x4)]) K.1 K.2.1 dX11_likely_89 hl (by decide) rfl (fun ls hl => ?_)
    refine lv_iconst (v := 0) K.1 K.2.1 dX11_likely_91 (by decide) ?_
    refine lv_istore (lv' := [(8, .int 0), (6, .long 1), (0, .ref a0), (1, .int x1), (2, .int x2), (3, .int x3), (4, .int x4)]) K.1 K.2.1 dX11_likely_92 hl (by decide) rfl (fun ls hl => ?_)
    exact wX11_likely_94 K  ah_fu M a0 x2 x3 x4 1 0 _ _ _ hG hL (lv_sub hl [2, 4, 5, 6, 1, 0] rfl) _ hf
  · rw [if_neg h1] at hf
    refine lv_aload_n K.1 K.2.1 dX11_likely_59 rfl (lv_at hl 0 rfl) ?_
    obtain ⟨v2, ev2, hf⟩ := Option.bind_eq_some_iff.mp hf
    refine ah_getr K hG ev2 ffX11_43_11 dX11_likely_60 ?_
    refine lv_iload K.1 K.2.1 dX11_likely_63 (lv_at hl 5 rfl) ?_
    refine lv_iload K.1 K.2.1 dX11_likely_65 (lv_at hl 5 rfl) ?_
    refine lv_aload_n K.1 K.2.1 dX11_likely_67 rfl (lv_at hl 0 rfl) ?_
    refine lv_iload_n K.1 K.2.1 dX11_likely_68 rfl (lv_at hl 1 rfl) ?_
    refine lv_iconst (v := 0) K.1 K.2.1 dX11_likely_69 (by decide) ?_
    obtain ⟨v3, ev3, hf⟩ := Option.bind_eq_some_iff.mp hf
    obtain ⟨q4, eq4⟩ := ah_this ev3
    refine ah_callV (As := [.int x1, .int 0]) (rest := [.int x6, .int x6, .ref v2]) K hG hL hl.1 eq4 rfl (ctX11_get l H0 D ca M z a0 x1 0 v3 ev3) hdX11_get q_1012 q_1014 q_54 q_1015 q_20 ⟨Nat.le_of_ble_eq_true rfl, Nat.le_of_ble_eq_true rfl⟩ rfl rfl (Nat.le_of_ble_eq_true rfl) ⟨Nat.le_refl _, Nat.le_refl _⟩ dX11_likely_70 (fun H locs hG hL => ?_)
    refine lv_icmp_ne (tgt := 80) K.1 K.2.1 dX11_likely_73 (by decide) (fun h5 => ?_) (fun h5 => ?_)
    · rw [if_neg h5] at hf
      refine lv_lconst (v := 0) K.1 K.2.1 dX11_likely_80 (by decide) ?_
      exact wX11_likely_81 K k53 hk53 M a0 x1 x2 x3 x4 x6 v2 x6 0 _ _ _ hG hL (lv_sub hl [0, 1, 2, 3, 4, 5] rfl) _ hf
    · rw [if_pos h5] at hf
      refine lv_lconst (v := 1) K.1 K.2.1 dX11_likely_76 (by decide) ?_
      refine lv_goto (tgt := 81) K.1 K.2.1 dX11_likely_77 (by decide) ?_
      exact wX11_likely_81 K k53 hk53 M a0 x1 x2 x3 x4 x6 v2 x6 1 _ _ _ hG hL (lv_sub hl [0, 1, 2, 3, 4, 5] rfl) _ hf
theorem wX11_likely_53 {p : Program} {l : Launch} {e : Env} {s : State} {m : MethodId} {args : Array Value} {below : List Frame} {meth : Method} {c : Code} {D : va_G} {ca : Nat → ClassId} {H0 : Heap} {z : Nat} (K : ah_K p s m args meth c D ca "ShipsThatMeetModel" cX11_likely 18 (some .long))   (n : Nat) : ∀ (M : ah_h) (a0 : Nat) (x1 : Int32) (x2 : Int32) (x3 : Int32) (x4 : Int32) (x6 : Int32)  (H : Heap) (locs : List Loc) (ls : Array Slot), ah_g H0 D ca M z H → ah_L H0 locs → lv_has ls 18 [(0, .ref a0), (1, .int x1), (2, .int x2), (3, .int x3), (4, .int x4), (6, .int x6)] → ∀ Z, fX11_likely_53    n M a0 x1 x2 x3 x4 x6 = some Z → W p l e { frames := 201, cells := 0, slots := 0, locals := 4623 } s m args below meth c H locs 0 0 (ah_Q below args s H0 D ca 0 0 (some (.long Z.1)) Z.2 z) (F0 m 53 ls []) := by
  induction n with
  | zero => intro M a0 x1 x2 x3 x4 x6 H locs ls hG hL hl Z hf; cases hf
  | succ n ih => exact wX11_likely_53_b K  _ ih
def fX11_likely_36    (M : ah_h) (a0 : Nat) (x1 : Int32) (x2 : Int32) (x3 : Int32) (x4 : Int32) (s0 : Int32) : Option (Int64 × ah_h) := if s0 = 0 then (fX11_likely_53 ah_fu M a0 x1 x2 x3 x4 0) else (some (((-1000000000) + s0 : Int32).toInt64, M))
set_option maxRecDepth 100000 in
set_option maxHeartbeats 4000000 in
theorem wX11_likely_36 {p : Program} {l : Launch} {e : Env} {s : State} {m : MethodId} {args : Array Value} {below : List Frame} {meth : Method} {c : Code} {D : va_G} {ca : Nat → ClassId} {H0 : Heap} {z : Nat} (K : ah_K p s m args meth c D ca "ShipsThatMeetModel" cX11_likely 18 (some .long))   : ∀ (M : ah_h) (a0 : Nat) (x1 : Int32) (x2 : Int32) (x3 : Int32) (x4 : Int32) (s0 : Int32)  (H : Heap) (locs : List Loc) (ls : Array Slot), ah_g H0 D ca M z H → ah_L H0 locs → lv_has ls 18 [(0, .ref a0), (1, .int x1), (2, .int x2), (3, .int x3), (4, .int x4)] → ∀ Z, fX11_likely_36    M a0 x1 x2 x3 x4 s0 = some Z → W p l e { frames := 201, cells := 0, slots := 0, locals := 4623 } s m args below meth c H locs 0 0 (ah_Q below args s H0 D ca 0 0 (some (.long Z.1)) Z.2 z) (F0 m 36 ls [.int s0]) := by
  intro M a0 x1 x2 x3 x4 s0 H locs ls hG hL hl Z hf
  unfold fX11_likely_36 at hf
  refine lv_istore (lv' := [(5, .int s0), (0, .ref a0), (1, .int x1), (2, .int x2), (3, .int x3), (4, .int x4)]) K.1 K.2.1 dX11_likely_36 hl (by decide) rfl (fun ls hl => ?_)
  refine lv_iload K.1 K.2.1 dX11_likely_38 (lv_at hl 0 rfl) ?_
  refine lv_if_eq (tgt := 50) K.1 K.2.1 dX11_likely_40 (by decide) (fun h1 => ?_) (fun h1 => ?_)
  · rw [if_pos h1] at hf
    refine lv_iconst (v := 0) K.1 K.2.1 dX11_likely_50 (by decide) ?_
    refine lv_istore (lv' := [(6, .int 0), (5, .int s0), (0, .ref a0), (1, .int x1), (2, .int x2), (3, .int x3), (4, .int x4)]) K.1 K.2.1 dX11_likely_51 hl (by decide) rfl (fun ls hl => ?_)
    exact wX11_likely_53 K  ah_fu M a0 x1 x2 x3 x4 0 _ _ _ hG hL (lv_sub hl [2, 3, 4, 5, 6, 0] rfl) _ hf
  · rw [if_neg h1] at hf
    refine W.ldc (v := (-1000000000)) K.1 K.2.1 K.2.2.2.1 (K.2.2.2.2.1 _ q_1131) rfl dX11_likely_43 ?_
    refine lv_iload K.1 K.2.1 dX11_likely_45 (lv_at hl 0 rfl) ?_
    refine lv_iadd K.1 K.2.1 dX11_likely_47 ?_
    refine lv_i2l (v := ((-1000000000) + s0 : Int32).toInt64) K.1 K.2.1 dX11_likely_48 rfl ?_
    have hf := Option.some.inj hf
    subst hf
    exact ah_lret K hG hL (Nat.le_refl _) (Nat.le_refl _) dX11_likely_49
def fX11_likely_35    (M : ah_h) (a0 : Nat) (x1 : Int32) (x2 : Int32) (x3 : Int32) (x4 : Int32) : Option (Int64 × ah_h) := fX11_likely_36 M a0 x1 x2 x3 x4 (-1)
set_option maxRecDepth 100000 in
set_option maxHeartbeats 4000000 in
theorem wX11_likely_35 {p : Program} {l : Launch} {e : Env} {s : State} {m : MethodId} {args : Array Value} {below : List Frame} {meth : Method} {c : Code} {D : va_G} {ca : Nat → ClassId} {H0 : Heap} {z : Nat} (K : ah_K p s m args meth c D ca "ShipsThatMeetModel" cX11_likely 18 (some .long))   : ∀ (M : ah_h) (a0 : Nat) (x1 : Int32) (x2 : Int32) (x3 : Int32) (x4 : Int32)  (H : Heap) (locs : List Loc) (ls : Array Slot), ah_g H0 D ca M z H → ah_L H0 locs → lv_has ls 18 [(0, .ref a0), (1, .int x1), (2, .int x2), (3, .int x3), (4, .int x4)] → ∀ Z, fX11_likely_35    M a0 x1 x2 x3 x4 = some Z → W p l e { frames := 201, cells := 0, slots := 0, locals := 4623 } s m args below meth c H locs 0 0 (ah_Q below args s H0 D ca 0 0 (some (.long Z.1)) Z.2 z) (F0 m 35 ls []) := by
  intro M a0 x1 x2 x3 x4 H locs ls hG hL hl Z hf
  unfold fX11_likely_35 at hf
  refine lv_iconst (v := (-1)) K.1 K.2.1 dX11_likely_35 (by decide) ?_
  exact wX11_likely_36 K  M a0 x1 x2 x3 x4 (-1) _ _ _ hG hL (lv_sub hl [0, 1, 2, 3, 4] rfl) _ hf
def fX11_likely (M : ah_h) (a0 : Nat) (x1 : Int32) (x2 : Int32) (x3 : Int32) (x4 : Int32) : Option (Int64 × ah_h) := (ah_ob M a0 11).bind fun _ => (fX11_isMan M a0 x1).bind fun v1 => if v1 = 0 then (fX11_likely_35 M a0 x1 x2 x3 x4) else ((fX11_isShip M a0 x2).bind fun v4 => if v4 = 0 then (fX11_likely_35 M a0 x1 x2 x3 x4) else ((fX11_isIn M x4.toInt64 0 1).bind fun v7 => if v7 = 0 then (fX11_likely_35 M a0 x1 x2 x3 x4) else ((fX11_wrongMeetings M a0 x3).bind fun v9 => fX11_likely_36 M a0 x1 x2 x3 x4 v9)))
set_option maxRecDepth 100000 in
set_option maxHeartbeats 4000000 in
theorem ctX11_likely (l : Launch) (H0 : Heap) (D : va_G) (ca : Nat → ClassId) (M : ah_h) (z : Nat) (a0 : Nat) (x1 : Int32) (x2 : Int32) (x3 : Int32) (x4 : Int32) (Z : Int64 × ah_h) (hf : fX11_likely M a0 x1 x2 x3 x4 = some Z) : ah_ct l H0 D ca yX11_likely cX11_likely 18 (some .long) 201 4623 0 0 [.ref a0, .int x1, .int x2, .int x3, .int x4] M z (some (.long Z.1)) Z.2 z := by
  refine ah_of (by decide) (Nat.le_of_ble_eq_true rfl) ?_
  intro p e s m below meth c ls hin K hG hl
  have hL : ah_L H0 [] := ah_L.nil
  have hl : lv_has ls 18 [(0, .ref a0), (1, .int x1), (2, .int x2), (3, .int x3), (4, .int x4)] := hl
  unfold fX11_likely at hf
  obtain ⟨-, -, hf⟩ := Option.bind_eq_some_iff.mp hf
  refine lv_aload_n K.1 K.2.1 dX11_likely_0 rfl (lv_at hl 0 rfl) ?_
  refine lv_iload_n K.1 K.2.1 dX11_likely_1 rfl (lv_at hl 1 rfl) ?_
  obtain ⟨v1, ev1, hf⟩ := Option.bind_eq_some_iff.mp hf
  obtain ⟨q2, eq2⟩ := ah_this ev1
  refine ah_callV (As := [.int x1]) (rest := []) K hG hL hl.1 eq2 rfl (ctX11_isMan l H0 D ca M z a0 x1 v1 ev1) hdX11_isMan q_1066 q_1068 q_54 q_1069 q_30 ⟨Nat.le_of_ble_eq_true rfl, Nat.le_of_ble_eq_true rfl⟩ rfl rfl (Nat.le_of_ble_eq_true rfl) ⟨Nat.le_refl _, Nat.le_refl _⟩ dX11_likely_2 (fun H locs hG hL => ?_)
  refine lv_if_eq (tgt := 35) K.1 K.2.1 dX11_likely_5 (by decide) (fun h3 => ?_) (fun h3 => ?_)
  · rw [if_pos h3] at hf
    exact wX11_likely_35 K  M a0 x1 x2 x3 x4 _ _ _ hG hL (lv_sub hl [0, 1, 2, 3, 4] rfl) _ hf
  · rw [if_neg h3] at hf
    refine lv_aload_n K.1 K.2.1 dX11_likely_8 rfl (lv_at hl 0 rfl) ?_
    refine lv_iload_n K.1 K.2.1 dX11_likely_9 rfl (lv_at hl 2 rfl) ?_
    obtain ⟨v4, ev4, hf⟩ := Option.bind_eq_some_iff.mp hf
    obtain ⟨q5, eq5⟩ := ah_this ev4
    refine ah_callV (As := [.int x2]) (rest := []) K hG hL hl.1 eq5 rfl (ctX11_isShip l H0 D ca M z a0 x2 v4 ev4) hdX11_isShip q_996 q_998 q_54 q_999 q_16 ⟨Nat.le_of_ble_eq_true rfl, Nat.le_of_ble_eq_true rfl⟩ rfl rfl (Nat.le_of_ble_eq_true rfl) ⟨Nat.le_refl _, Nat.le_refl _⟩ dX11_likely_10 (fun H locs hG hL => ?_)
    refine lv_if_eq (tgt := 35) K.1 K.2.1 dX11_likely_13 (by decide) (fun h6 => ?_) (fun h6 => ?_)
    · rw [if_pos h6] at hf
      exact wX11_likely_35 K  M a0 x1 x2 x3 x4 _ _ _ hG hL (lv_sub hl [0, 1, 2, 3, 4] rfl) _ hf
    · rw [if_neg h6] at hf
      refine lv_iload K.1 K.2.1 dX11_likely_16 (lv_at hl 4 rfl) ?_
      refine lv_i2l (v := x4.toInt64) K.1 K.2.1 dX11_likely_18 rfl ?_
      refine lv_lconst (v := 0) K.1 K.2.1 dX11_likely_19 (by decide) ?_
      refine lv_lconst (v := 1) K.1 K.2.1 dX11_likely_20 (by decide) ?_
      obtain ⟨v7, ev7, hf⟩ := Option.bind_eq_some_iff.mp hf
      refine ah_callS (As := [.long x4.toInt64, .long 0, .long 1]) (rest := []) K hG hL hl.1 (ctX11_isIn l H0 D ca M z x4.toInt64 0 1 v7 ev7) hdX11_isIn q_972 q_973 q_54 q_974 ⟨Nat.le_of_ble_eq_true rfl, Nat.le_of_ble_eq_true rfl⟩ rfl rfl (Nat.le_of_ble_eq_true rfl) ⟨Nat.le_refl _, Nat.le_refl _⟩ dX11_likely_21 (fun H locs hG hL => ?_)
      refine lv_if_eq (tgt := 35) K.1 K.2.1 dX11_likely_24 (by decide) (fun h8 => ?_) (fun h8 => ?_)
      · rw [if_pos h8] at hf
        exact wX11_likely_35 K  M a0 x1 x2 x3 x4 _ _ _ hG hL (lv_sub hl [0, 1, 2, 3, 4] rfl) _ hf
      · rw [if_neg h8] at hf
        refine lv_aload_n K.1 K.2.1 dX11_likely_27 rfl (lv_at hl 0 rfl) ?_
        refine lv_iload_n K.1 K.2.1 dX11_likely_28 rfl (lv_at hl 3 rfl) ?_
        obtain ⟨v9, ev9, hf⟩ := Option.bind_eq_some_iff.mp hf
        obtain ⟨q10, eq10⟩ := ah_this ev9
        refine ah_callV (As := [.int x3]) (rest := []) K hG hL hl.1 eq10 rfl (ctX11_wrongMeetings l H0 D ca M z a0 x3 v9 ev9) hdX11_wrongMeetings q_1087 q_1089 q_54 q_1090 q_32 ⟨Nat.le_of_ble_eq_true rfl, Nat.le_of_ble_eq_true rfl⟩ rfl rfl (Nat.le_of_ble_eq_true rfl) ⟨Nat.le_refl _, Nat.le_refl _⟩ dX11_likely_29 (fun H locs hG hL => ?_)
        refine lv_goto (tgt := 36) K.1 K.2.1 dX11_likely_32 (by decide) ?_
        exact wX11_likely_36 K  M a0 x1 x2 x3 x4 v9 _ _ _ hG hL (lv_sub hl [0, 1, 2, 3, 4] rfl) _ hf
def fX11_fewestBy_8_b   (k8 : ah_h → Nat → Int32 → Int32 → Option (Int32 × ah_h))  (M : ah_h) (a0 : Nat) (x1 : Int32) (x2 : Int32) : Option (Int32 × ah_h) := if x1 < x2 then (some ((-4), M)) else ((fX11_comesBy M a0 0 x2).bind fun v2 => if v2.1 = 0 then (k8 v2.2 a0 x1 (x2 + 1)) else (some (x2, v2.2)))
def fX11_fewestBy_8    : Nat → ah_h → Nat → Int32 → Int32 → Option (Int32 × ah_h)
  | 0 => fun _ _ _ _ => none
  | n + 1 => fun M a0 x1 x2 => fX11_fewestBy_8_b   (fX11_fewestBy_8    n)  M a0 x1 x2
set_option maxRecDepth 100000 in
set_option maxHeartbeats 4000000 in
theorem wX11_fewestBy_8_b {p : Program} {l : Launch} {e : Env} {s : State} {m : MethodId} {args : Array Value} {below : List Frame} {meth : Method} {c : Code} {D : va_G} {ca : Nat → ClassId} {H0 : Heap} {z : Nat} (K : ah_K p s m args meth c D ca "ShipsThatMeetModel" cX11_fewestBy 3 (some .int))   (k8 : ah_h → Nat → Int32 → Int32 → Option (Int32 × ah_h)) (hk8 : ∀ (M : ah_h) (a0 : Nat) (x1 : Int32) (x2 : Int32)  (H : Heap) (locs : List Loc) (ls : Array Slot), ah_g H0 D ca M z H → ah_L H0 locs → lv_has ls 3 [(0, .ref a0), (1, .int x1), (2, .int x2)] → ∀ Z, k8 M a0 x1 x2 = some Z → W p l e { frames := 12, cells := 0, slots := 0, locals := 291 } s m args below meth c H locs 0 0 (ah_Q below args s H0 D ca 0 0 (some (.int Z.1)) Z.2 z) (F0 m 8 ls [])) : ∀ (M : ah_h) (a0 : Nat) (x1 : Int32) (x2 : Int32)  (H : Heap) (locs : List Loc) (ls : Array Slot), ah_g H0 D ca M z H → ah_L H0 locs → lv_has ls 3 [(0, .ref a0), (1, .int x1), (2, .int x2)] → ∀ Z, fX11_fewestBy_8_b   k8  M a0 x1 x2 = some Z → W p l e { frames := 12, cells := 0, slots := 0, locals := 291 } s m args below meth c H locs 0 0 (ah_Q below args s H0 D ca 0 0 (some (.int Z.1)) Z.2 z) (F0 m 8 ls []) := by
  intro M a0 x1 x2 H locs ls hG hL hl Z hf
  unfold fX11_fewestBy_8_b at hf
  refine lv_iload_n K.1 K.2.1 dX11_fewestBy_8 rfl (lv_at hl 2 rfl) ?_
  refine lv_iload_n K.1 K.2.1 dX11_fewestBy_9 rfl (lv_at hl 1 rfl) ?_
  refine lv_icmp_gt (tgt := 30) K.1 K.2.1 dX11_fewestBy_10 (by decide) (fun h1 => ?_) (fun h1 => ?_)
  · rw [if_pos h1] at hf
    refine lv_bipush (v := (-4)) K.1 K.2.1 dX11_fewestBy_30 (by decide) ?_
    have hf := Option.some.inj hf
    subst hf
    exact ah_iret K hG hL (Nat.le_refl _) (Nat.le_refl _) dX11_fewestBy_32
  · rw [if_neg h1] at hf
    refine lv_aload_n K.1 K.2.1 dX11_fewestBy_13 rfl (lv_at hl 0 rfl) ?_
    refine lv_iconst (v := 0) K.1 K.2.1 dX11_fewestBy_14 (by decide) ?_
    refine lv_iload_n K.1 K.2.1 dX11_fewestBy_15 rfl (lv_at hl 2 rfl) ?_
    obtain ⟨v2, ev2, hf⟩ := Option.bind_eq_some_iff.mp hf
    obtain ⟨q3, eq3⟩ := ah_this ev2
    refine ah_callV (As := [.int 0, .int x2]) (rest := []) K hG hL hl.1 eq3 rfl (ctX11_comesBy l H0 D ca M z a0 0 x2 v2 ev2) hdX11_comesBy q_1143 q_1145 q_54 q_1146 q_41 ⟨Nat.le_of_ble_eq_true rfl, Nat.le_of_ble_eq_true rfl⟩ rfl rfl (Nat.le_of_ble_eq_true rfl) ⟨Nat.le_refl _, Nat.le_refl _⟩ dX11_fewestBy_16 (fun H locs hG hL => ?_)
    refine lv_if_eq (tgt := 24) K.1 K.2.1 dX11_fewestBy_19 (by decide) (fun h4 => ?_) (fun h4 => ?_)
    · rw [if_pos h4] at hf
      refine lv_iinc (v := x2 + 1) (lv' := [(2, .int (x2 + 1)), (0, .ref a0), (1, .int x1)]) K.1 K.2.1 dX11_fewestBy_24 hl (k := 2) rfl rfl (by decide) rfl (fun ls hl => ?_)
      refine lv_goto (tgt := 8) K.1 K.2.1 dX11_fewestBy_27 (by decide) ?_
      exact hk8 v2.2 a0 x1 (x2 + 1) _ _ _ hG hL (lv_sub hl [1, 2, 0] rfl) _ hf
    · rw [if_neg h4] at hf
      refine lv_iload_n K.1 K.2.1 dX11_fewestBy_22 rfl (lv_at hl 2 rfl) ?_
      have hf := Option.some.inj hf
      subst hf
      exact ah_iret K hG hL (Nat.le_refl _) (Nat.le_refl _) dX11_fewestBy_23
theorem wX11_fewestBy_8 {p : Program} {l : Launch} {e : Env} {s : State} {m : MethodId} {args : Array Value} {below : List Frame} {meth : Method} {c : Code} {D : va_G} {ca : Nat → ClassId} {H0 : Heap} {z : Nat} (K : ah_K p s m args meth c D ca "ShipsThatMeetModel" cX11_fewestBy 3 (some .int))   (n : Nat) : ∀ (M : ah_h) (a0 : Nat) (x1 : Int32) (x2 : Int32)  (H : Heap) (locs : List Loc) (ls : Array Slot), ah_g H0 D ca M z H → ah_L H0 locs → lv_has ls 3 [(0, .ref a0), (1, .int x1), (2, .int x2)] → ∀ Z, fX11_fewestBy_8    n M a0 x1 x2 = some Z → W p l e { frames := 12, cells := 0, slots := 0, locals := 291 } s m args below meth c H locs 0 0 (ah_Q below args s H0 D ca 0 0 (some (.int Z.1)) Z.2 z) (F0 m 8 ls []) := by
  induction n with
  | zero => intro M a0 x1 x2 H locs ls hG hL hl Z hf; cases hf
  | succ n ih => exact wX11_fewestBy_8_b K  _ ih
def fX11_fewestBy (M : ah_h) (a0 : Nat) (x1 : Int32) : Option (Int32 × ah_h) := (ah_ob M a0 11).bind fun _ => (ah_pf M a0 11 21 (.int (-4))).bind fun M1 => fX11_fewestBy_8 ah_fu M1 a0 x1 0
set_option maxRecDepth 100000 in
set_option maxHeartbeats 4000000 in
theorem ctX11_fewestBy (l : Launch) (H0 : Heap) (D : va_G) (ca : Nat → ClassId) (M : ah_h) (z : Nat) (a0 : Nat) (x1 : Int32) (Z : Int32 × ah_h) (hf : fX11_fewestBy M a0 x1 = some Z) : ah_ct l H0 D ca yX11_fewestBy cX11_fewestBy 3 (some .int) 12 291 0 0 [.ref a0, .int x1] M z (some (.int Z.1)) Z.2 z := by
  refine ah_of (by decide) (Nat.le_of_ble_eq_true rfl) ?_
  intro p e s m below meth c ls hin K hG hl
  have hL : ah_L H0 [] := ah_L.nil
  have hl : lv_has ls 3 [(0, .ref a0), (1, .int x1)] := hl
  unfold fX11_fewestBy at hf
  obtain ⟨-, -, hf⟩ := Option.bind_eq_some_iff.mp hf
  refine lv_aload_n K.1 K.2.1 dX11_fewestBy_0 rfl (lv_at hl 0 rfl) ?_
  refine lv_bipush (v := (-4)) K.1 K.2.1 dX11_fewestBy_1 (by decide) ?_
  obtain ⟨M1, eM1, hf⟩ := Option.bind_eq_some_iff.mp hf
  refine ah_put K hG hL eM1 fwX11_212_11 rfl rfl dX11_fewestBy_3 (fun H locs hG hL => ?_)
  refine lv_iconst (v := 0) K.1 K.2.1 dX11_fewestBy_6 (by decide) ?_
  refine lv_istore_n (lv' := [(2, .int 0), (0, .ref a0), (1, .int x1)]) K.1 K.2.1 dX11_fewestBy_7 rfl hl (by decide) rfl (fun ls hl => ?_)
  exact wX11_fewestBy_8 K  ah_fu M1 a0 x1 0 _ _ _ hG hL (lv_sub hl [1, 2, 0] rfl) _ hf
def fX11_fewest_56  (k31 : ah_h → Nat → Int32 → Int32 → Int32 → Int32 → Option (Int32 × ah_h))  (M : ah_h) (a0 : Nat) (x1 : Int32) (x2 : Int32) (x3 : Int32) (x4 : Int32) (s0 : Nat) (s1 : Int32) (s2 : Int32) : Option (Int32 × ah_h) := (ah_si M s0 s1 s2).bind fun M1 => k31 M1 a0 x1 x2 x3 (x4 + 1)
set_option maxRecDepth 100000 in
set_option maxHeartbeats 4000000 in
theorem wX11_fewest_56 {p : Program} {l : Launch} {e : Env} {s : State} {m : MethodId} {args : Array Value} {below : List Frame} {meth : Method} {c : Code} {D : va_G} {ca : Nat → ClassId} {H0 : Heap} {z : Nat} (K : ah_K p s m args meth c D ca "ShipsThatMeetModel" cX11_fewest 5 (some .int))  (k31 : ah_h → Nat → Int32 → Int32 → Int32 → Int32 → Option (Int32 × ah_h)) (hk31 : ∀ (M : ah_h) (a0 : Nat) (x1 : Int32) (x2 : Int32) (x3 : Int32) (x4 : Int32)  (H : Heap) (locs : List Loc) (ls : Array Slot), ah_g H0 D ca M z H → ah_L H0 locs → lv_has ls 5 [(0, .ref a0), (1, .int x1), (2, .int x2), (3, .int x3), (4, .int x4)] → ∀ Z, k31 M a0 x1 x2 x3 x4 = some Z → W p l e { frames := 13, cells := 0, slots := 0, locals := 313 } s m args below meth c H locs 0 0 (ah_Q below args s H0 D ca 0 0 (some (.int Z.1)) Z.2 z) (F0 m 31 ls [])) : ∀ (M : ah_h) (a0 : Nat) (x1 : Int32) (x2 : Int32) (x3 : Int32) (x4 : Int32) (s0 : Nat) (s1 : Int32) (s2 : Int32)  (H : Heap) (locs : List Loc) (ls : Array Slot), ah_g H0 D ca M z H → ah_L H0 locs → lv_has ls 5 [(0, .ref a0), (1, .int x1), (2, .int x2), (3, .int x3), (4, .int x4)] → ∀ Z, fX11_fewest_56  k31  M a0 x1 x2 x3 x4 s0 s1 s2 = some Z → W p l e { frames := 13, cells := 0, slots := 0, locals := 313 } s m args below meth c H locs 0 0 (ah_Q below args s H0 D ca 0 0 (some (.int Z.1)) Z.2 z) (F0 m 56 ls [.int s2, .int s1, .ref s0]) := by
  intro M a0 x1 x2 x3 x4 s0 s1 s2 H locs ls hG hL hl Z hf
  unfold fX11_fewest_56 at hf
  obtain ⟨M1, eM1, hf⟩ := Option.bind_eq_some_iff.mp hf
  refine ah_iast K hG hL eM1 dX11_fewest_56 (fun H locs hG hL => ?_)
  refine lv_iinc (v := x4 + 1) (lv' := [(4, .int (x4 + 1)), (0, .ref a0), (1, .int x1), (2, .int x2), (3, .int x3)]) K.1 K.2.1 dX11_fewest_57 hl (k := 4) rfl rfl (by decide) rfl (fun ls hl => ?_)
  refine lv_goto (tgt := 31) K.1 K.2.1 dX11_fewest_60 (by decide) ?_
  exact hk31 M1 a0 x1 x2 x3 (x4 + 1) _ _ _ hG hL (lv_sub hl [1, 2, 3, 4, 0] rfl) _ hf
def fX11_fewest_31_b   (k31 : ah_h → Nat → Int32 → Int32 → Int32 → Int32 → Option (Int32 × ah_h))  (M : ah_h) (a0 : Nat) (x1 : Int32) (x2 : Int32) (x3 : Int32) (x4 : Int32) : Option (Int32 × ah_h) := if 12 ≤ x4 then ((fX11_fewestBy M a0 4).bind fun v2 => if x3 = 0 then (some (v2.1, v2.2)) else ((ah_gi v2.2 a0 11 21).bind fun v5 => some (v5, v2.2))) else ((ah_gr M a0 11 22).bind fun v6 => if x4 = x1 then (fX11_fewest_56 k31 M a0 x1 x2 x3 x4 v6 x4 x2) else (fX11_fewest_56 k31 M a0 x1 x2 x3 x4 v6 x4 (-4)))
def fX11_fewest_31    : Nat → ah_h → Nat → Int32 → Int32 → Int32 → Int32 → Option (Int32 × ah_h)
  | 0 => fun _ _ _ _ _ _ => none
  | n + 1 => fun M a0 x1 x2 x3 x4 => fX11_fewest_31_b   (fX11_fewest_31    n)  M a0 x1 x2 x3 x4
set_option maxRecDepth 100000 in
set_option maxHeartbeats 4000000 in
theorem wX11_fewest_31_b {p : Program} {l : Launch} {e : Env} {s : State} {m : MethodId} {args : Array Value} {below : List Frame} {meth : Method} {c : Code} {D : va_G} {ca : Nat → ClassId} {H0 : Heap} {z : Nat} (K : ah_K p s m args meth c D ca "ShipsThatMeetModel" cX11_fewest 5 (some .int))   (k31 : ah_h → Nat → Int32 → Int32 → Int32 → Int32 → Option (Int32 × ah_h)) (hk31 : ∀ (M : ah_h) (a0 : Nat) (x1 : Int32) (x2 : Int32) (x3 : Int32) (x4 : Int32)  (H : Heap) (locs : List Loc) (ls : Array Slot), ah_g H0 D ca M z H → ah_L H0 locs → lv_has ls 5 [(0, .ref a0), (1, .int x1), (2, .int x2), (3, .int x3), (4, .int x4)] → ∀ Z, k31 M a0 x1 x2 x3 x4 = some Z → W p l e { frames := 13, cells := 0, slots := 0, locals := 313 } s m args below meth c H locs 0 0 (ah_Q below args s H0 D ca 0 0 (some (.int Z.1)) Z.2 z) (F0 m 31 ls [])) : ∀ (M : ah_h) (a0 : Nat) (x1 : Int32) (x2 : Int32) (x3 : Int32) (x4 : Int32)  (H : Heap) (locs : List Loc) (ls : Array Slot), ah_g H0 D ca M z H → ah_L H0 locs → lv_has ls 5 [(0, .ref a0), (1, .int x1), (2, .int x2), (3, .int x3), (4, .int x4)] → ∀ Z, fX11_fewest_31_b   k31  M a0 x1 x2 x3 x4 = some Z → W p l e { frames := 13, cells := 0, slots := 0, locals := 313 } s m args below meth c H locs 0 0 (ah_Q below args s H0 D ca 0 0 (some (.int Z.1)) Z.2 z) (F0 m 31 ls []) := by
  intro M a0 x1 x2 x3 x4 H locs ls hG hL hl Z hf
  unfold fX11_fewest_31_b at hf
  refine lv_iload K.1 K.2.1 dX11_fewest_31 (lv_at hl 4 rfl) ?_
  refine lv_bipush (v := 12) K.1 K.2.1 dX11_fewest_33 (by decide) ?_
  refine lv_icmp_ge (tgt := 63) K.1 K.2.1 dX11_fewest_35 (by decide) (fun h1 => ?_) (fun h1 => ?_)
  · rw [if_pos h1] at hf
    refine lv_aload_n K.1 K.2.1 dX11_fewest_63 rfl (lv_at hl 0 rfl) ?_
    refine lv_iconst (v := 4) K.1 K.2.1 dX11_fewest_64 (by decide) ?_
    obtain ⟨v2, ev2, hf⟩ := Option.bind_eq_some_iff.mp hf
    obtain ⟨q3, eq3⟩ := ah_this ev2
    refine ah_callV (As := [.int 4]) (rest := []) K hG hL hl.1 eq3 rfl (ctX11_fewestBy l H0 D ca M z a0 4 v2 ev2) hdX11_fewestBy q_1139 q_1141 q_54 q_1142 q_40 ⟨Nat.le_of_ble_eq_true rfl, Nat.le_of_ble_eq_true rfl⟩ rfl rfl (Nat.le_of_ble_eq_true rfl) ⟨Nat.le_refl _, Nat.le_refl _⟩ dX11_fewest_65 (fun H locs hG hL => ?_)
    refine lv_istore (lv' := [(4, .int v2.1), (0, .ref a0), (1, .int x1), (2, .int x2), (3, .int x3)]) K.1 K.2.1 dX11_fewest_68 hl (by decide) rfl (fun ls hl => ?_)
    refine lv_iload_n K.1 K.2.1 dX11_fewest_70 rfl (lv_at hl 4 rfl) ?_
    refine lv_if_ne (tgt := 79) K.1 K.2.1 dX11_fewest_71 (by decide) (fun h4 => ?_) (fun h4 => ?_)
    · rw [if_neg h4] at hf
      refine lv_aload_n K.1 K.2.1 dX11_fewest_79 rfl (lv_at hl 1 rfl) ?_
      obtain ⟨v5, ev5, hf⟩ := Option.bind_eq_some_iff.mp hf
      refine ah_geti K hG ev5 ffX11_212_11 dX11_fewest_80 ?_
      have hf := Option.some.inj hf
      subst hf
      exact ah_iret K hG hL (Nat.le_refl _) (Nat.le_refl _) dX11_fewest_83
    · rw [if_pos h4] at hf
      refine lv_iload K.1 K.2.1 dX11_fewest_74 (lv_at hl 0 rfl) ?_
      refine lv_goto (tgt := 83) K.1 K.2.1 dX11_fewest_76 (by decide) ?_
      have hf := Option.some.inj hf
      subst hf
      exact ah_iret K hG hL (Nat.le_refl _) (Nat.le_refl _) dX11_fewest_83
  · rw [if_neg h1] at hf
    refine lv_aload_n K.1 K.2.1 dX11_fewest_38 rfl (lv_at hl 0 rfl) ?_
    obtain ⟨v6, ev6, hf⟩ := Option.bind_eq_some_iff.mp hf
    refine ah_getr K hG ev6 ffX11_50_11 dX11_fewest_39 ?_
    refine lv_iload K.1 K.2.1 dX11_fewest_42 (lv_at hl 4 rfl) ?_
    refine lv_iload K.1 K.2.1 dX11_fewest_44 (lv_at hl 4 rfl) ?_
    refine lv_iload_n K.1 K.2.1 dX11_fewest_46 rfl (lv_at hl 1 rfl) ?_
    refine lv_icmp_ne (tgt := 54) K.1 K.2.1 dX11_fewest_47 (by decide) (fun h7 => ?_) (fun h7 => ?_)
    · rw [if_neg h7] at hf
      refine lv_bipush (v := (-4)) K.1 K.2.1 dX11_fewest_54 (by decide) ?_
      exact wX11_fewest_56 K k31 hk31 M a0 x1 x2 x3 x4 v6 x4 (-4) _ _ _ hG hL (lv_sub hl [0, 1, 2, 3, 4] rfl) _ hf
    · rw [if_pos h7] at hf
      refine lv_iload_n K.1 K.2.1 dX11_fewest_50 rfl (lv_at hl 2 rfl) ?_
      refine lv_goto (tgt := 56) K.1 K.2.1 dX11_fewest_51 (by decide) ?_
      exact wX11_fewest_56 K k31 hk31 M a0 x1 x2 x3 x4 v6 x4 x2 _ _ _ hG hL (lv_sub hl [0, 1, 2, 3, 4] rfl) _ hf
theorem wX11_fewest_31 {p : Program} {l : Launch} {e : Env} {s : State} {m : MethodId} {args : Array Value} {below : List Frame} {meth : Method} {c : Code} {D : va_G} {ca : Nat → ClassId} {H0 : Heap} {z : Nat} (K : ah_K p s m args meth c D ca "ShipsThatMeetModel" cX11_fewest 5 (some .int))   (n : Nat) : ∀ (M : ah_h) (a0 : Nat) (x1 : Int32) (x2 : Int32) (x3 : Int32) (x4 : Int32)  (H : Heap) (locs : List Loc) (ls : Array Slot), ah_g H0 D ca M z H → ah_L H0 locs → lv_has ls 5 [(0, .ref a0), (1, .int x1), (2, .int x2), (3, .int x3), (4, .int x4)] → ∀ Z, fX11_fewest_31    n M a0 x1 x2 x3 x4 = some Z → W p l e { frames := 13, cells := 0, slots := 0, locals := 313 } s m args below meth c H locs 0 0 (ah_Q below args s H0 D ca 0 0 (some (.int Z.1)) Z.2 z) (F0 m 31 ls []) := by
  induction n with
  | zero => intro M a0 x1 x2 x3 x4 H locs ls hG hL hl Z hf; cases hf
  | succ n ih => exact wX11_fewest_31_b K  _ ih
def fX11_fewest (M : ah_h) (a0 : Nat) (x1 : Int32) (x2 : Int32) (x3 : Int32) : Option (Int32 × ah_h) := (ah_ob M a0 11).bind fun _ => (fX11_isMan M a0 x1).bind fun v1 => if v1 = 0 then (some ((-1), M)) else ((fX11_isShip M a0 x2).bind fun v4 => if v4 = 0 then (some ((-1), M)) else ((fX11_isIn M x3.toInt64 0 1).bind fun v7 => if v7 = 0 then (some ((-1), M)) else (fX11_fewest_31 ah_fu M a0 x1 x2 x3 0)))
set_option maxRecDepth 100000 in
set_option maxHeartbeats 4000000 in
theorem ctX11_fewest (l : Launch) (H0 : Heap) (D : va_G) (ca : Nat → ClassId) (M : ah_h) (z : Nat) (a0 : Nat) (x1 : Int32) (x2 : Int32) (x3 : Int32) (Z : Int32 × ah_h) (hf : fX11_fewest M a0 x1 x2 x3 = some Z) : ah_ct l H0 D ca yX11_fewest cX11_fewest 5 (some .int) 13 313 0 0 [.ref a0, .int x1, .int x2, .int x3] M z (some (.int Z.1)) Z.2 z := by
  refine ah_of (by decide) (Nat.le_of_ble_eq_true rfl) ?_
  intro p e s m below meth c ls hin K hG hl
  have hL : ah_L H0 [] := ah_L.nil
  have hl : lv_has ls 5 [(0, .ref a0), (1, .int x1), (2, .int x2), (3, .int x3)] := hl
  unfold fX11_fewest at hf
  obtain ⟨-, -, hf⟩ := Option.bind_eq_some_iff.mp hf
  refine lv_aload_n K.1 K.2.1 dX11_fewest_0 rfl (lv_at hl 0 rfl) ?_
  refine lv_iload_n K.1 K.2.1 dX11_fewest_1 rfl (lv_at hl 1 rfl) ?_
  obtain ⟨v1, ev1, hf⟩ := Option.bind_eq_some_iff.mp hf
  obtain ⟨q2, eq2⟩ := ah_this ev1
  refine ah_callV (As := [.int x1]) (rest := []) K hG hL hl.1 eq2 rfl (ctX11_isMan l H0 D ca M z a0 x1 v1 ev1) hdX11_isMan q_1066 q_1068 q_54 q_1069 q_30 ⟨Nat.le_of_ble_eq_true rfl, Nat.le_of_ble_eq_true rfl⟩ rfl rfl (Nat.le_of_ble_eq_true rfl) ⟨Nat.le_refl _, Nat.le_refl _⟩ dX11_fewest_2 (fun H locs hG hL => ?_)
  refine lv_if_eq (tgt := 26) K.1 K.2.1 dX11_fewest_5 (by decide) (fun h3 => ?_) (fun h3 => ?_)
  · rw [if_pos h3] at hf
    refine lv_iconst (v := (-1)) K.1 K.2.1 dX11_fewest_26 (by decide) ?_
    have hf := Option.some.inj hf
    subst hf
    exact ah_iret K hG hL (Nat.le_refl _) (Nat.le_refl _) dX11_fewest_27
  · rw [if_neg h3] at hf
    refine lv_aload_n K.1 K.2.1 dX11_fewest_8 rfl (lv_at hl 0 rfl) ?_
    refine lv_iload_n K.1 K.2.1 dX11_fewest_9 rfl (lv_at hl 2 rfl) ?_
    obtain ⟨v4, ev4, hf⟩ := Option.bind_eq_some_iff.mp hf
    obtain ⟨q5, eq5⟩ := ah_this ev4
    refine ah_callV (As := [.int x2]) (rest := []) K hG hL hl.1 eq5 rfl (ctX11_isShip l H0 D ca M z a0 x2 v4 ev4) hdX11_isShip q_996 q_998 q_54 q_999 q_16 ⟨Nat.le_of_ble_eq_true rfl, Nat.le_of_ble_eq_true rfl⟩ rfl rfl (Nat.le_of_ble_eq_true rfl) ⟨Nat.le_refl _, Nat.le_refl _⟩ dX11_fewest_10 (fun H locs hG hL => ?_)
    refine lv_if_eq (tgt := 26) K.1 K.2.1 dX11_fewest_13 (by decide) (fun h6 => ?_) (fun h6 => ?_)
    · rw [if_pos h6] at hf
      refine lv_iconst (v := (-1)) K.1 K.2.1 dX11_fewest_26 (by decide) ?_
      have hf := Option.some.inj hf
      subst hf
      exact ah_iret K hG hL (Nat.le_refl _) (Nat.le_refl _) dX11_fewest_27
    · rw [if_neg h6] at hf
      refine lv_iload_n K.1 K.2.1 dX11_fewest_16 rfl (lv_at hl 3 rfl) ?_
      refine lv_i2l (v := x3.toInt64) K.1 K.2.1 dX11_fewest_17 rfl ?_
      refine lv_lconst (v := 0) K.1 K.2.1 dX11_fewest_18 (by decide) ?_
      refine lv_lconst (v := 1) K.1 K.2.1 dX11_fewest_19 (by decide) ?_
      obtain ⟨v7, ev7, hf⟩ := Option.bind_eq_some_iff.mp hf
      refine ah_callS (As := [.long x3.toInt64, .long 0, .long 1]) (rest := []) K hG hL hl.1 (ctX11_isIn l H0 D ca M z x3.toInt64 0 1 v7 ev7) hdX11_isIn q_972 q_973 q_54 q_974 ⟨Nat.le_of_ble_eq_true rfl, Nat.le_of_ble_eq_true rfl⟩ rfl rfl (Nat.le_of_ble_eq_true rfl) ⟨Nat.le_refl _, Nat.le_refl _⟩ dX11_fewest_20 (fun H locs hG hL => ?_)
      refine lv_if_ne (tgt := 28) K.1 K.2.1 dX11_fewest_23 (by decide) (fun h8 => ?_) (fun h8 => ?_)
      · rw [if_neg h8] at hf
        refine lv_iconst (v := 0) K.1 K.2.1 dX11_fewest_28 (by decide) ?_
        refine lv_istore (lv' := [(4, .int 0), (0, .ref a0), (1, .int x1), (2, .int x2), (3, .int x3)]) K.1 K.2.1 dX11_fewest_29 hl (by decide) rfl (fun ls hl => ?_)
        exact wX11_fewest_31 K  ah_fu M a0 x1 x2 x3 0 _ _ _ hG hL (lv_sub hl [1, 2, 3, 4, 0] rfl) _ hf
      · rw [if_pos h8] at hf
        refine lv_iconst (v := (-1)) K.1 K.2.1 dX11_fewest_26 (by decide) ?_
        have hf := Option.some.inj hf
        subst hf
        exact ah_iret K hG hL (Nat.le_refl _) (Nat.le_refl _) dX11_fewest_27
def fX11_crews_33_b   (k33 : ah_h → Nat → Int32 → Int32 → Option (Int32 × ah_h))  (M : ah_h) (a0 : Nat) (x1 : Int32) (x3 : Int32) : Option (Int32 × ah_h) := (ah_gr M a0 11 6).bind fun v1 => (ah_ai M v1 x1).bind fun v2 => if v2 ≤ x3 then ((fX11_fewestBy M a0 3).bind fun v4 => some (v4.1, v4.2)) else ((ah_gr M a0 11 7).bind fun v6 => (ah_ai M v6 ((100 * x1) + x3)).bind fun v7 => (fX11_isShip M a0 v7).bind fun v8 => if v8 = 0 then (some ((-13), M)) else ((ah_gr M a0 11 22).bind fun v11 => (ah_gr M a0 11 7).bind fun v12 => (ah_ai M v12 ((100 * x1) + x3)).bind fun v13 => (ah_si M v11 x3 v13).bind fun M14 => k33 M14 a0 x1 (x3 + 1)))
def fX11_crews_33    : Nat → ah_h → Nat → Int32 → Int32 → Option (Int32 × ah_h)
  | 0 => fun _ _ _ _ => none
  | n + 1 => fun M a0 x1 x3 => fX11_crews_33_b   (fX11_crews_33    n)  M a0 x1 x3
set_option maxRecDepth 100000 in
set_option maxHeartbeats 4000000 in
theorem wX11_crews_33_b {p : Program} {l : Launch} {e : Env} {s : State} {m : MethodId} {args : Array Value} {below : List Frame} {meth : Method} {c : Code} {D : va_G} {ca : Nat → ClassId} {H0 : Heap} {z : Nat} (K : ah_K p s m args meth c D ca "ShipsThatMeetModel" cX11_crews 4 (some .int))   (k33 : ah_h → Nat → Int32 → Int32 → Option (Int32 × ah_h)) (hk33 : ∀ (M : ah_h) (a0 : Nat) (x1 : Int32) (x3 : Int32)  (H : Heap) (locs : List Loc) (ls : Array Slot), ah_g H0 D ca M z H → ah_L H0 locs → lv_has ls 4 [(0, .ref a0), (1, .int x1), (3, .int x3)] → ∀ Z, k33 M a0 x1 x3 = some Z → W p l e { frames := 13, cells := 0, slots := 0, locals := 313 } s m args below meth c H locs 0 0 (ah_Q below args s H0 D ca 0 0 (some (.int Z.1)) Z.2 z) (F0 m 33 ls [])) : ∀ (M : ah_h) (a0 : Nat) (x1 : Int32) (x3 : Int32)  (H : Heap) (locs : List Loc) (ls : Array Slot), ah_g H0 D ca M z H → ah_L H0 locs → lv_has ls 4 [(0, .ref a0), (1, .int x1), (3, .int x3)] → ∀ Z, fX11_crews_33_b   k33  M a0 x1 x3 = some Z → W p l e { frames := 13, cells := 0, slots := 0, locals := 313 } s m args below meth c H locs 0 0 (ah_Q below args s H0 D ca 0 0 (some (.int Z.1)) Z.2 z) (F0 m 33 ls []) := by
  intro M a0 x1 x3 H locs ls hG hL hl Z hf
  unfold fX11_crews_33_b at hf
  refine lv_iload_n K.1 K.2.1 dX11_crews_33 rfl (lv_at hl 2 rfl) ?_
  refine lv_aload_n K.1 K.2.1 dX11_crews_34 rfl (lv_at hl 0 rfl) ?_
  obtain ⟨v1, ev1, hf⟩ := Option.bind_eq_some_iff.mp hf
  refine ah_getr K hG ev1 ffX11_28_11 dX11_crews_35 ?_
  refine lv_iload_n K.1 K.2.1 dX11_crews_38 rfl (lv_at hl 1 rfl) ?_
  obtain ⟨v2, ev2, hf⟩ := Option.bind_eq_some_iff.mp hf
  refine ah_iald K hG ev2 dX11_crews_39 ?_
  refine lv_icmp_ge (tgt := 87) K.1 K.2.1 dX11_crews_40 (by decide) (fun h3 => ?_) (fun h3 => ?_)
  · rw [if_pos h3] at hf
    refine lv_aload_n K.1 K.2.1 dX11_crews_87 rfl (lv_at hl 0 rfl) ?_
    refine lv_iconst (v := 3) K.1 K.2.1 dX11_crews_88 (by decide) ?_
    obtain ⟨v4, ev4, hf⟩ := Option.bind_eq_some_iff.mp hf
    obtain ⟨q5, eq5⟩ := ah_this ev4
    refine ah_callV (As := [.int 3]) (rest := []) K hG hL hl.1 eq5 rfl (ctX11_fewestBy l H0 D ca M z a0 3 v4 ev4) hdX11_fewestBy q_1139 q_1141 q_54 q_1142 q_40 ⟨Nat.le_of_ble_eq_true rfl, Nat.le_of_ble_eq_true rfl⟩ rfl rfl (Nat.le_of_ble_eq_true rfl) ⟨Nat.le_refl _, Nat.le_refl _⟩ dX11_crews_89 (fun H locs hG hL => ?_)
    have hf := Option.some.inj hf
    subst hf
    exact ah_iret K hG hL (Nat.le_refl _) (Nat.le_refl _) dX11_crews_92
  · rw [if_neg h3] at hf
    refine lv_aload_n K.1 K.2.1 dX11_crews_43 rfl (lv_at hl 0 rfl) ?_
    refine lv_aload_n K.1 K.2.1 dX11_crews_44 rfl (lv_at hl 0 rfl) ?_
    obtain ⟨v6, ev6, hf⟩ := Option.bind_eq_some_iff.mp hf
    refine ah_getr K hG ev6 ffX11_31_11 dX11_crews_45 ?_
    refine lv_bipush (v := 100) K.1 K.2.1 dX11_crews_48 (by decide) ?_
    refine lv_iload_n K.1 K.2.1 dX11_crews_50 rfl (lv_at hl 1 rfl) ?_
    refine lv_imul K.1 K.2.1 dX11_crews_51 ?_
    refine lv_iload_n K.1 K.2.1 dX11_crews_52 rfl (lv_at hl 2 rfl) ?_
    refine lv_iadd K.1 K.2.1 dX11_crews_53 ?_
    obtain ⟨v7, ev7, hf⟩ := Option.bind_eq_some_iff.mp hf
    refine ah_iald K hG ev7 dX11_crews_54 ?_
    obtain ⟨v8, ev8, hf⟩ := Option.bind_eq_some_iff.mp hf
    obtain ⟨q9, eq9⟩ := ah_this ev8
    refine ah_callV (As := [.int v7]) (rest := []) K hG hL hl.1 eq9 rfl (ctX11_isShip l H0 D ca M z a0 v7 v8 ev8) hdX11_isShip q_996 q_998 q_54 q_999 q_16 ⟨Nat.le_of_ble_eq_true rfl, Nat.le_of_ble_eq_true rfl⟩ rfl rfl (Nat.le_of_ble_eq_true rfl) ⟨Nat.le_refl _, Nat.le_refl _⟩ dX11_crews_55 (fun H locs hG hL => ?_)
    refine lv_if_ne (tgt := 64) K.1 K.2.1 dX11_crews_58 (by decide) (fun h10 => ?_) (fun h10 => ?_)
    · rw [if_neg h10] at hf
      refine lv_aload_n K.1 K.2.1 dX11_crews_64 rfl (lv_at hl 0 rfl) ?_
      obtain ⟨v11, ev11, hf⟩ := Option.bind_eq_some_iff.mp hf
      refine ah_getr K hG ev11 ffX11_50_11 dX11_crews_65 ?_
      refine lv_iload_n K.1 K.2.1 dX11_crews_68 rfl (lv_at hl 2 rfl) ?_
      refine lv_aload_n K.1 K.2.1 dX11_crews_69 rfl (lv_at hl 0 rfl) ?_
      obtain ⟨v12, ev12, hf⟩ := Option.bind_eq_some_iff.mp hf
      refine ah_getr K hG ev12 ffX11_31_11 dX11_crews_70 ?_
      refine lv_bipush (v := 100) K.1 K.2.1 dX11_crews_73 (by decide) ?_
      refine lv_iload_n K.1 K.2.1 dX11_crews_75 rfl (lv_at hl 1 rfl) ?_
      refine lv_imul K.1 K.2.1 dX11_crews_76 ?_
      refine lv_iload_n K.1 K.2.1 dX11_crews_77 rfl (lv_at hl 2 rfl) ?_
      refine lv_iadd K.1 K.2.1 dX11_crews_78 ?_
      obtain ⟨v13, ev13, hf⟩ := Option.bind_eq_some_iff.mp hf
      refine ah_iald K hG ev13 dX11_crews_79 ?_
      obtain ⟨M14, eM14, hf⟩ := Option.bind_eq_some_iff.mp hf
      refine ah_iast K hG hL eM14 dX11_crews_80 (fun H locs hG hL => ?_)
      refine lv_iinc (v := x3 + 1) (lv' := [(3, .int (x3 + 1)), (0, .ref a0), (1, .int x1)]) K.1 K.2.1 dX11_crews_81 hl (k := 2) rfl rfl (by decide) rfl (fun ls hl => ?_)
      refine lv_goto (tgt := 33) K.1 K.2.1 dX11_crews_84 (by decide) ?_
      exact hk33 M14 a0 x1 (x3 + 1) _ _ _ hG hL (lv_sub hl [1, 2, 0] rfl) _ hf
    · rw [if_pos h10] at hf
      refine lv_bipush (v := (-13)) K.1 K.2.1 dX11_crews_61 (by decide) ?_
      have hf := Option.some.inj hf
      subst hf
      exact ah_iret K hG hL (Nat.le_refl _) (Nat.le_refl _) dX11_crews_63
theorem wX11_crews_33 {p : Program} {l : Launch} {e : Env} {s : State} {m : MethodId} {args : Array Value} {below : List Frame} {meth : Method} {c : Code} {D : va_G} {ca : Nat → ClassId} {H0 : Heap} {z : Nat} (K : ah_K p s m args meth c D ca "ShipsThatMeetModel" cX11_crews 4 (some .int))   (n : Nat) : ∀ (M : ah_h) (a0 : Nat) (x1 : Int32) (x3 : Int32)  (H : Heap) (locs : List Loc) (ls : Array Slot), ah_g H0 D ca M z H → ah_L H0 locs → lv_has ls 4 [(0, .ref a0), (1, .int x1), (3, .int x3)] → ∀ Z, fX11_crews_33    n M a0 x1 x3 = some Z → W p l e { frames := 13, cells := 0, slots := 0, locals := 313 } s m args below meth c H locs 0 0 (ah_Q below args s H0 D ca 0 0 (some (.int Z.1)) Z.2 z) (F0 m 33 ls []) := by
  induction n with
  | zero => intro M a0 x1 x3 H locs ls hG hL hl Z hf; cases hf
  | succ n ih => exact wX11_crews_33_b K  _ ih
def fX11_crews (M : ah_h) (a0 : Nat) (x1 : Int32) : Option (Int32 × ah_h) := (ah_ob M a0 11).bind fun _ => (fX11_wrongRow M a0 x1 0).bind fun v1 => if v1 = 0 then ((ah_gr M a0 11 6).bind fun v4 => (ah_ai M v4 x1).bind fun v5 => (ah_gr M a0 11 0).bind fun v6 => (ah_ai M v6 1).bind fun v7 => if v5 = v7 then (fX11_crews_33 ah_fu M a0 x1 0) else (some ((-13), M))) else (some (v1, M))
set_option maxRecDepth 100000 in
set_option maxHeartbeats 4000000 in
theorem ctX11_crews (l : Launch) (H0 : Heap) (D : va_G) (ca : Nat → ClassId) (M : ah_h) (z : Nat) (a0 : Nat) (x1 : Int32) (Z : Int32 × ah_h) (hf : fX11_crews M a0 x1 = some Z) : ah_ct l H0 D ca yX11_crews cX11_crews 4 (some .int) 13 313 0 0 [.ref a0, .int x1] M z (some (.int Z.1)) Z.2 z := by
  refine ah_of (by decide) (Nat.le_of_ble_eq_true rfl) ?_
  intro p e s m below meth c ls hin K hG hl
  have hL : ah_L H0 [] := ah_L.nil
  have hl : lv_has ls 4 [(0, .ref a0), (1, .int x1)] := hl
  unfold fX11_crews at hf
  obtain ⟨-, -, hf⟩ := Option.bind_eq_some_iff.mp hf
  refine lv_aload_n K.1 K.2.1 dX11_crews_0 rfl (lv_at hl 0 rfl) ?_
  refine lv_iload_n K.1 K.2.1 dX11_crews_1 rfl (lv_at hl 1 rfl) ?_
  refine lv_iconst (v := 0) K.1 K.2.1 dX11_crews_2 (by decide) ?_
  obtain ⟨v1, ev1, hf⟩ := Option.bind_eq_some_iff.mp hf
  obtain ⟨q2, eq2⟩ := ah_this ev1
  refine ah_callV (As := [.int x1, .int 0]) (rest := []) K hG hL hl.1 eq2 rfl (ctX11_wrongRow l H0 D ca M z a0 x1 0 v1 ev1) hdX11_wrongRow q_964 q_966 q_54 q_967 q_11 ⟨Nat.le_of_ble_eq_true rfl, Nat.le_of_ble_eq_true rfl⟩ rfl rfl (Nat.le_of_ble_eq_true rfl) ⟨Nat.le_refl _, Nat.le_refl _⟩ dX11_crews_3 (fun H locs hG hL => ?_)
  refine lv_istore_n (lv' := [(2, .int v1), (0, .ref a0), (1, .int x1)]) K.1 K.2.1 dX11_crews_6 rfl hl (by decide) rfl (fun ls hl => ?_)
  refine lv_iload_n K.1 K.2.1 dX11_crews_7 rfl (lv_at hl 0 rfl) ?_
  refine lv_if_eq (tgt := 13) K.1 K.2.1 dX11_crews_8 (by decide) (fun h3 => ?_) (fun h3 => ?_)
  · rw [if_pos h3] at hf
    refine lv_aload_n K.1 K.2.1 dX11_crews_13 rfl (lv_at hl 1 rfl) ?_
    obtain ⟨v4, ev4, hf⟩ := Option.bind_eq_some_iff.mp hf
    refine ah_getr K hG ev4 ffX11_28_11 dX11_crews_14 ?_
    refine lv_iload_n K.1 K.2.1 dX11_crews_17 rfl (lv_at hl 2 rfl) ?_
    obtain ⟨v5, ev5, hf⟩ := Option.bind_eq_some_iff.mp hf
    refine ah_iald K hG ev5 dX11_crews_18 ?_
    refine lv_aload_n K.1 K.2.1 dX11_crews_19 rfl (lv_at hl 1 rfl) ?_
    obtain ⟨v6, ev6, hf⟩ := Option.bind_eq_some_iff.mp hf
    refine ah_getr K hG ev6 ffX11_9_11 dX11_crews_20 ?_
    refine lv_iconst (v := 1) K.1 K.2.1 dX11_crews_23 (by decide) ?_
    obtain ⟨v7, ev7, hf⟩ := Option.bind_eq_some_iff.mp hf
    refine ah_iald K hG ev7 dX11_crews_24 ?_
    refine lv_icmp_eq (tgt := 31) K.1 K.2.1 dX11_crews_25 (by decide) (fun h8 => ?_) (fun h8 => ?_)
    · rw [if_pos h8] at hf
      refine lv_iconst (v := 0) K.1 K.2.1 dX11_crews_31 (by decide) ?_
      refine lv_istore_n (lv' := [(3, .int 0), (2, .int v1), (0, .ref a0), (1, .int x1)]) K.1 K.2.1 dX11_crews_32 rfl hl (by decide) rfl (fun ls hl => ?_)
      exact wX11_crews_33 K  ah_fu M a0 x1 0 _ _ _ hG hL (lv_sub hl [2, 3, 0] rfl) _ hf
    · rw [if_neg h8] at hf
      refine lv_bipush (v := (-13)) K.1 K.2.1 dX11_crews_28 (by decide) ?_
      have hf := Option.some.inj hf
      subst hf
      exact ah_iret K hG hL (Nat.le_refl _) (Nat.le_refl _) dX11_crews_30
  · rw [if_neg h3] at hf
    refine lv_iload_n K.1 K.2.1 dX11_crews_11 rfl (lv_at hl 0 rfl) ?_
    have hf := Option.some.inj hf
    subst hf
    exact ah_iret K hG hL (Nat.le_refl _) (Nat.le_refl _) dX11_crews_12
def fX10_fewestMeetings_29_b   (k29 : ah_h → Nat → Int32 → Int32 → Option (Int32 × ah_h))  (M : ah_h) (a0 : Nat) (x1 : Int32) (x2 : Int32) : Option (Int32 × ah_h) := if x1 < x2 then (some ((-4), M)) else ((ah_gr M a0 10 1).bind fun v2 => (ah_gr M a0 10 5).bind fun v3 => (ah_gr M a0 10 6).bind fun v4 => (fX10_firstOfWay M v2 v3 v4 x2).bind fun v5 => if v5.1 = (-4) then (k29 v5.2 a0 x1 (x2 + 1)) else (some (x2, v5.2)))
def fX10_fewestMeetings_29    : Nat → ah_h → Nat → Int32 → Int32 → Option (Int32 × ah_h)
  | 0 => fun _ _ _ _ => none
  | n + 1 => fun M a0 x1 x2 => fX10_fewestMeetings_29_b   (fX10_fewestMeetings_29    n)  M a0 x1 x2
set_option maxRecDepth 100000 in
set_option maxHeartbeats 4000000 in
theorem wX10_fewestMeetings_29_b {p : Program} {l : Launch} {e : Env} {s : State} {m : MethodId} {args : Array Value} {below : List Frame} {meth : Method} {c : Code} {D : va_G} {ca : Nat → ClassId} {H0 : Heap} {z : Nat} (K : ah_K p s m args meth c D ca "ShipsThatMeet" cX10_fewestMeetings 3 (some .int))   (k29 : ah_h → Nat → Int32 → Int32 → Option (Int32 × ah_h)) (hk29 : ∀ (M : ah_h) (a0 : Nat) (x1 : Int32) (x2 : Int32)  (H : Heap) (locs : List Loc) (ls : Array Slot), ah_g H0 D ca M z H → ah_L H0 locs → lv_has ls 3 [(0, .ref a0), (1, .int x1), (2, .int x2)] → ∀ Z, k29 M a0 x1 x2 = some Z → W p l e { frames := 12, cells := 0, slots := 0, locals := 324 } s m args below meth c H locs 0 0 (ah_Q below args s H0 D ca 0 0 (some (.int Z.1)) Z.2 z) (F0 m 29 ls [])) : ∀ (M : ah_h) (a0 : Nat) (x1 : Int32) (x2 : Int32)  (H : Heap) (locs : List Loc) (ls : Array Slot), ah_g H0 D ca M z H → ah_L H0 locs → lv_has ls 3 [(0, .ref a0), (1, .int x1), (2, .int x2)] → ∀ Z, fX10_fewestMeetings_29_b   k29  M a0 x1 x2 = some Z → W p l e { frames := 12, cells := 0, slots := 0, locals := 324 } s m args below meth c H locs 0 0 (ah_Q below args s H0 D ca 0 0 (some (.int Z.1)) Z.2 z) (F0 m 29 ls []) := by
  intro M a0 x1 x2 H locs ls hG hL hl Z hf
  unfold fX10_fewestMeetings_29_b at hf
  refine lv_iload_n K.1 K.2.1 dX10_fewestMeetings_29 rfl (lv_at hl 2 rfl) ?_
  refine lv_iload_n K.1 K.2.1 dX10_fewestMeetings_30 rfl (lv_at hl 1 rfl) ?_
  refine lv_icmp_gt (tgt := 63) K.1 K.2.1 dX10_fewestMeetings_31 (by decide) (fun h1 => ?_) (fun h1 => ?_)
  · rw [if_pos h1] at hf
    refine lv_bipush (v := (-4)) K.1 K.2.1 dX10_fewestMeetings_63 (by decide) ?_
    have hf := Option.some.inj hf
    subst hf
    exact ah_iret K hG hL (Nat.le_refl _) (Nat.le_refl _) dX10_fewestMeetings_65
  · rw [if_neg h1] at hf
    refine lv_aload_n K.1 K.2.1 dX10_fewestMeetings_34 rfl (lv_at hl 0 rfl) ?_
    obtain ⟨v2, ev2, hf⟩ := Option.bind_eq_some_iff.mp hf
    refine ah_getr K hG ev2 ffX10_16_10 dX10_fewestMeetings_35 ?_
    refine lv_aload_n K.1 K.2.1 dX10_fewestMeetings_38 rfl (lv_at hl 0 rfl) ?_
    obtain ⟨v3, ev3, hf⟩ := Option.bind_eq_some_iff.mp hf
    refine ah_getr K hG ev3 ffX10_35_10 dX10_fewestMeetings_39 ?_
    refine lv_aload_n K.1 K.2.1 dX10_fewestMeetings_42 rfl (lv_at hl 0 rfl) ?_
    obtain ⟨v4, ev4, hf⟩ := Option.bind_eq_some_iff.mp hf
    refine ah_getr K hG ev4 ffX10_38_10 dX10_fewestMeetings_43 ?_
    refine lv_iload_n K.1 K.2.1 dX10_fewestMeetings_46 rfl (lv_at hl 2 rfl) ?_
    obtain ⟨v5, ev5, hf⟩ := Option.bind_eq_some_iff.mp hf
    refine ah_callS (As := [.ref v2, .ref v3, .ref v4, .int x2]) (rest := []) K hG hL hl.1 (ctX10_firstOfWay l H0 D ca M z v2 v3 v4 x2 v5 ev5) hdX10_firstOfWay q_533 q_534 q_50 q_535 ⟨Nat.le_of_ble_eq_true rfl, Nat.le_of_ble_eq_true rfl⟩ rfl rfl (Nat.le_of_ble_eq_true rfl) ⟨Nat.le_refl _, Nat.le_refl _⟩ dX10_fewestMeetings_47 (fun H locs hG hL => ?_)
    refine lv_bipush (v := (-4)) K.1 K.2.1 dX10_fewestMeetings_50 (by decide) ?_
    refine lv_icmp_eq (tgt := 57) K.1 K.2.1 dX10_fewestMeetings_52 (by decide) (fun h6 => ?_) (fun h6 => ?_)
    · rw [if_pos h6] at hf
      refine lv_iinc (v := x2 + 1) (lv' := [(2, .int (x2 + 1)), (0, .ref a0), (1, .int x1)]) K.1 K.2.1 dX10_fewestMeetings_57 hl (k := 2) rfl rfl (by decide) rfl (fun ls hl => ?_)
      refine lv_goto (tgt := 29) K.1 K.2.1 dX10_fewestMeetings_60 (by decide) ?_
      exact hk29 v5.2 a0 x1 (x2 + 1) _ _ _ hG hL (lv_sub hl [1, 2, 0] rfl) _ hf
    · rw [if_neg h6] at hf
      refine lv_iload_n K.1 K.2.1 dX10_fewestMeetings_55 rfl (lv_at hl 2 rfl) ?_
      have hf := Option.some.inj hf
      subst hf
      exact ah_iret K hG hL (Nat.le_refl _) (Nat.le_refl _) dX10_fewestMeetings_56
theorem wX10_fewestMeetings_29 {p : Program} {l : Launch} {e : Env} {s : State} {m : MethodId} {args : Array Value} {below : List Frame} {meth : Method} {c : Code} {D : va_G} {ca : Nat → ClassId} {H0 : Heap} {z : Nat} (K : ah_K p s m args meth c D ca "ShipsThatMeet" cX10_fewestMeetings 3 (some .int))   (n : Nat) : ∀ (M : ah_h) (a0 : Nat) (x1 : Int32) (x2 : Int32)  (H : Heap) (locs : List Loc) (ls : Array Slot), ah_g H0 D ca M z H → ah_L H0 locs → lv_has ls 3 [(0, .ref a0), (1, .int x1), (2, .int x2)] → ∀ Z, fX10_fewestMeetings_29    n M a0 x1 x2 = some Z → W p l e { frames := 12, cells := 0, slots := 0, locals := 324 } s m args below meth c H locs 0 0 (ah_Q below args s H0 D ca 0 0 (some (.int Z.1)) Z.2 z) (F0 m 29 ls []) := by
  induction n with
  | zero => intro M a0 x1 x2 H locs ls hG hL hl Z hf; cases hf
  | succ n ih => exact wX10_fewestMeetings_29_b K  _ ih
def fX10_fewestMeetings (M : ah_h) (a0 : Nat) (x1 : Int32) : Option (Int32 × ah_h) := (ah_ob M a0 10).bind fun _ => (ah_gr M a0 10 1).bind fun v1 => (ah_gr M a0 10 0).bind fun v2 => (fX2_become M v1 v2).bind fun v3 => (ah_gr v3 a0 10 1).bind fun v5 => (ah_gr v3 a0 10 6).bind fun v6 => (fX2_firstAstray v3 v5 v6).bind fun v7 => if 0 ≤ v7 then (fX10_fewestMeetings_29 ah_fu v3 a0 x1 1) else (some (0, v3))
set_option maxRecDepth 100000 in
set_option maxHeartbeats 4000000 in
theorem ctX10_fewestMeetings (l : Launch) (H0 : Heap) (D : va_G) (ca : Nat → ClassId) (M : ah_h) (z : Nat) (a0 : Nat) (x1 : Int32) (Z : Int32 × ah_h) (hf : fX10_fewestMeetings M a0 x1 = some Z) : ah_ct l H0 D ca yX10_fewestMeetings cX10_fewestMeetings 3 (some .int) 12 324 0 0 [.ref a0, .int x1] M z (some (.int Z.1)) Z.2 z := by
  refine ah_of (by decide) (Nat.le_of_ble_eq_true rfl) ?_
  intro p e s m below meth c ls hin K hG hl
  have hL : ah_L H0 [] := ah_L.nil
  have hl : lv_has ls 3 [(0, .ref a0), (1, .int x1)] := hl
  unfold fX10_fewestMeetings at hf
  obtain ⟨-, -, hf⟩ := Option.bind_eq_some_iff.mp hf
  refine lv_aload_n K.1 K.2.1 dX10_fewestMeetings_0 rfl (lv_at hl 0 rfl) ?_
  obtain ⟨v1, ev1, hf⟩ := Option.bind_eq_some_iff.mp hf
  refine ah_getr K hG ev1 ffX10_16_10 dX10_fewestMeetings_1 ?_
  refine lv_aload_n K.1 K.2.1 dX10_fewestMeetings_4 rfl (lv_at hl 0 rfl) ?_
  obtain ⟨v2, ev2, hf⟩ := Option.bind_eq_some_iff.mp hf
  refine ah_getr K hG ev2 ffX10_10_10 dX10_fewestMeetings_5 ?_
  obtain ⟨v3, ev3, hf⟩ := Option.bind_eq_some_iff.mp hf
  obtain ⟨q4, eq4⟩ := ah_this ev3
  refine ah_callV (As := [.ref v2]) (rest := []) K hG hL hl.1 eq4 rfl (ctX2_become l H0 D ca M z v1 v2 v3 ev3) hdX2_become q_243 q_244 q_51 q_246 q_245 ⟨Nat.le_of_ble_eq_true rfl, Nat.le_of_ble_eq_true rfl⟩ rfl rfl (Nat.le_of_ble_eq_true rfl) ⟨Nat.le_refl _, Nat.le_refl _⟩ dX10_fewestMeetings_8 (fun H locs hG hL => ?_)
  refine lv_aload_n K.1 K.2.1 dX10_fewestMeetings_11 rfl (lv_at hl 0 rfl) ?_
  obtain ⟨v5, ev5, hf⟩ := Option.bind_eq_some_iff.mp hf
  refine ah_getr K hG ev5 ffX10_16_10 dX10_fewestMeetings_12 ?_
  refine lv_aload_n K.1 K.2.1 dX10_fewestMeetings_15 rfl (lv_at hl 0 rfl) ?_
  obtain ⟨v6, ev6, hf⟩ := Option.bind_eq_some_iff.mp hf
  refine ah_getr K hG ev6 ffX10_38_10 dX10_fewestMeetings_16 ?_
  obtain ⟨v7, ev7, hf⟩ := Option.bind_eq_some_iff.mp hf
  obtain ⟨q8, eq8⟩ := ah_this ev7
  refine ah_callV (As := [.ref v6]) (rest := []) K hG hL hl.1 eq8 rfl (ctX2_firstAstray l H0 D ca v3 z v5 v6 v7 ev7) hdX2_firstAstray q_525 q_526 q_51 q_528 q_527 ⟨Nat.le_of_ble_eq_true rfl, Nat.le_of_ble_eq_true rfl⟩ rfl rfl (Nat.le_of_ble_eq_true rfl) ⟨Nat.le_refl _, Nat.le_refl _⟩ dX10_fewestMeetings_19 (fun H locs hG hL => ?_)
  refine lv_if_ge (tgt := 27) K.1 K.2.1 dX10_fewestMeetings_22 (by decide) (fun h9 => ?_) (fun h9 => ?_)
  · rw [if_pos h9] at hf
    refine lv_iconst (v := 1) K.1 K.2.1 dX10_fewestMeetings_27 (by decide) ?_
    refine lv_istore_n (lv' := [(2, .int 1), (0, .ref a0), (1, .int x1)]) K.1 K.2.1 dX10_fewestMeetings_28 rfl hl (by decide) rfl (fun ls hl => ?_)
    exact wX10_fewestMeetings_29 K  ah_fu v3 a0 x1 1 _ _ _ hG hL (lv_sub hl [1, 2, 0] rfl) _ hf
  · rw [if_neg h9] at hf
    refine lv_iconst (v := 0) K.1 K.2.1 dX10_fewestMeetings_25 (by decide) ?_
    have hf := Option.some.inj hf
    subst hf
    exact ah_iret K hG hL (Nat.le_refl _) (Nat.le_refl _) dX10_fewestMeetings_26
def fX10_fewest_60  (k36 : ah_h → Nat → Int32 → Int32 → Int32 → Int32 → Option (Int32 × ah_h))  (M : ah_h) (a0 : Nat) (x1 : Int32) (x2 : Int32) (x3 : Int32) (x4 : Int32) (s0 : Nat) (s1 : Int32) (s2 : Int32) : Option (Int32 × ah_h) := (ah_si M s0 s1 s2).bind fun M1 => k36 M1 a0 x1 x2 x3 (x4 + 1)
set_option maxRecDepth 100000 in
set_option maxHeartbeats 4000000 in
theorem wX10_fewest_60 {p : Program} {l : Launch} {e : Env} {s : State} {m : MethodId} {args : Array Value} {below : List Frame} {meth : Method} {c : Code} {D : va_G} {ca : Nat → ClassId} {H0 : Heap} {z : Nat} (K : ah_K p s m args meth c D ca "ShipsThatMeet" cX10_fewest 5 (some .int))  (k36 : ah_h → Nat → Int32 → Int32 → Int32 → Int32 → Option (Int32 × ah_h)) (hk36 : ∀ (M : ah_h) (a0 : Nat) (x1 : Int32) (x2 : Int32) (x3 : Int32) (x4 : Int32)  (H : Heap) (locs : List Loc) (ls : Array Slot), ah_g H0 D ca M z H → ah_L H0 locs → lv_has ls 5 [(0, .ref a0), (1, .int x1), (2, .int x2), (3, .int x3), (4, .int x4)] → ∀ Z, k36 M a0 x1 x2 x3 x4 = some Z → W p l e { frames := 13, cells := 0, slots := 0, locals := 346 } s m args below meth c H locs 0 0 (ah_Q below args s H0 D ca 0 0 (some (.int Z.1)) Z.2 z) (F0 m 36 ls [])) : ∀ (M : ah_h) (a0 : Nat) (x1 : Int32) (x2 : Int32) (x3 : Int32) (x4 : Int32) (s0 : Nat) (s1 : Int32) (s2 : Int32)  (H : Heap) (locs : List Loc) (ls : Array Slot), ah_g H0 D ca M z H → ah_L H0 locs → lv_has ls 5 [(0, .ref a0), (1, .int x1), (2, .int x2), (3, .int x3), (4, .int x4)] → ∀ Z, fX10_fewest_60  k36  M a0 x1 x2 x3 x4 s0 s1 s2 = some Z → W p l e { frames := 13, cells := 0, slots := 0, locals := 346 } s m args below meth c H locs 0 0 (ah_Q below args s H0 D ca 0 0 (some (.int Z.1)) Z.2 z) (F0 m 60 ls [.int s2, .int s1, .ref s0]) := by
  intro M a0 x1 x2 x3 x4 s0 s1 s2 H locs ls hG hL hl Z hf
  unfold fX10_fewest_60 at hf
  obtain ⟨M1, eM1, hf⟩ := Option.bind_eq_some_iff.mp hf
  refine ah_iast K hG hL eM1 dX10_fewest_60 (fun H locs hG hL => ?_)
  refine lv_iinc (v := x4 + 1) (lv' := [(4, .int (x4 + 1)), (0, .ref a0), (1, .int x1), (2, .int x2), (3, .int x3)]) K.1 K.2.1 dX10_fewest_61 hl (k := 4) rfl rfl (by decide) rfl (fun ls hl => ?_)
  refine lv_goto (tgt := 36) K.1 K.2.1 dX10_fewest_64 (by decide) ?_
  exact hk36 M1 a0 x1 x2 x3 (x4 + 1) _ _ _ hG hL (lv_sub hl [1, 2, 3, 4, 0] rfl) _ hf
def fX10_fewest_36_b   (k36 : ah_h → Nat → Int32 → Int32 → Int32 → Int32 → Option (Int32 × ah_h))  (M : ah_h) (a0 : Nat) (x1 : Int32) (x2 : Int32) (x3 : Int32) (x4 : Int32) : Option (Int32 × ah_h) := if 12 ≤ x4 then ((fX10_fewestMeetings M a0 4).bind fun v2 => if x3 = 0 then (some (v2.1, v2.2)) else ((ah_gr v2.2 a0 10 1).bind fun v5 => (ah_gr v2.2 a0 10 5).bind fun v6 => (ah_gr v2.2 a0 10 6).bind fun v7 => (fX10_firstOfWay v2.2 v5 v6 v7 v2.1).bind fun v8 => some (v8.1, v8.2))) else ((ah_gr M a0 10 6).bind fun v9 => if x4 = x1 then (fX10_fewest_60 k36 M a0 x1 x2 x3 x4 v9 x4 x2) else (fX10_fewest_60 k36 M a0 x1 x2 x3 x4 v9 x4 (-1)))
def fX10_fewest_36    : Nat → ah_h → Nat → Int32 → Int32 → Int32 → Int32 → Option (Int32 × ah_h)
  | 0 => fun _ _ _ _ _ _ => none
  | n + 1 => fun M a0 x1 x2 x3 x4 => fX10_fewest_36_b   (fX10_fewest_36    n)  M a0 x1 x2 x3 x4
set_option maxRecDepth 100000 in
set_option maxHeartbeats 4000000 in
theorem wX10_fewest_36_b {p : Program} {l : Launch} {e : Env} {s : State} {m : MethodId} {args : Array Value} {below : List Frame} {meth : Method} {c : Code} {D : va_G} {ca : Nat → ClassId} {H0 : Heap} {z : Nat} (K : ah_K p s m args meth c D ca "ShipsThatMeet" cX10_fewest 5 (some .int))   (k36 : ah_h → Nat → Int32 → Int32 → Int32 → Int32 → Option (Int32 × ah_h)) (hk36 : ∀ (M : ah_h) (a0 : Nat) (x1 : Int32) (x2 : Int32) (x3 : Int32) (x4 : Int32)  (H : Heap) (locs : List Loc) (ls : Array Slot), ah_g H0 D ca M z H → ah_L H0 locs → lv_has ls 5 [(0, .ref a0), (1, .int x1), (2, .int x2), (3, .int x3), (4, .int x4)] → ∀ Z, k36 M a0 x1 x2 x3 x4 = some Z → W p l e { frames := 13, cells := 0, slots := 0, locals := 346 } s m args below meth c H locs 0 0 (ah_Q below args s H0 D ca 0 0 (some (.int Z.1)) Z.2 z) (F0 m 36 ls [])) : ∀ (M : ah_h) (a0 : Nat) (x1 : Int32) (x2 : Int32) (x3 : Int32) (x4 : Int32)  (H : Heap) (locs : List Loc) (ls : Array Slot), ah_g H0 D ca M z H → ah_L H0 locs → lv_has ls 5 [(0, .ref a0), (1, .int x1), (2, .int x2), (3, .int x3), (4, .int x4)] → ∀ Z, fX10_fewest_36_b   k36  M a0 x1 x2 x3 x4 = some Z → W p l e { frames := 13, cells := 0, slots := 0, locals := 346 } s m args below meth c H locs 0 0 (ah_Q below args s H0 D ca 0 0 (some (.int Z.1)) Z.2 z) (F0 m 36 ls []) := by
  intro M a0 x1 x2 x3 x4 H locs ls hG hL hl Z hf
  unfold fX10_fewest_36_b at hf
  refine lv_iload K.1 K.2.1 dX10_fewest_36 (lv_at hl 4 rfl) ?_
  refine lv_bipush (v := 12) K.1 K.2.1 dX10_fewest_38 (by decide) ?_
  refine lv_icmp_ge (tgt := 67) K.1 K.2.1 dX10_fewest_40 (by decide) (fun h1 => ?_) (fun h1 => ?_)
  · rw [if_pos h1] at hf
    refine lv_aload_n K.1 K.2.1 dX10_fewest_67 rfl (lv_at hl 0 rfl) ?_
    refine lv_iconst (v := 4) K.1 K.2.1 dX10_fewest_68 (by decide) ?_
    obtain ⟨v2, ev2, hf⟩ := Option.bind_eq_some_iff.mp hf
    obtain ⟨q3, eq3⟩ := ah_this ev2
    refine ah_callV (As := [.int 4]) (rest := []) K hG hL hl.1 eq3 rfl (ctX10_fewestMeetings l H0 D ca M z a0 4 v2 ev2) hdX10_fewestMeetings q_521 q_523 q_50 q_524 q_8 ⟨Nat.le_of_ble_eq_true rfl, Nat.le_of_ble_eq_true rfl⟩ rfl rfl (Nat.le_of_ble_eq_true rfl) ⟨Nat.le_refl _, Nat.le_refl _⟩ dX10_fewest_69 (fun H locs hG hL => ?_)
    refine lv_istore (lv' := [(4, .int v2.1), (0, .ref a0), (1, .int x1), (2, .int x2), (3, .int x3)]) K.1 K.2.1 dX10_fewest_72 hl (by decide) rfl (fun ls hl => ?_)
    refine lv_iload_n K.1 K.2.1 dX10_fewest_74 rfl (lv_at hl 4 rfl) ?_
    refine lv_if_ne (tgt := 83) K.1 K.2.1 dX10_fewest_75 (by decide) (fun h4 => ?_) (fun h4 => ?_)
    · rw [if_neg h4] at hf
      refine lv_aload_n K.1 K.2.1 dX10_fewest_83 rfl (lv_at hl 1 rfl) ?_
      obtain ⟨v5, ev5, hf⟩ := Option.bind_eq_some_iff.mp hf
      refine ah_getr K hG ev5 ffX10_16_10 dX10_fewest_84 ?_
      refine lv_aload_n K.1 K.2.1 dX10_fewest_87 rfl (lv_at hl 1 rfl) ?_
      obtain ⟨v6, ev6, hf⟩ := Option.bind_eq_some_iff.mp hf
      refine ah_getr K hG ev6 ffX10_35_10 dX10_fewest_88 ?_
      refine lv_aload_n K.1 K.2.1 dX10_fewest_91 rfl (lv_at hl 1 rfl) ?_
      obtain ⟨v7, ev7, hf⟩ := Option.bind_eq_some_iff.mp hf
      refine ah_getr K hG ev7 ffX10_38_10 dX10_fewest_92 ?_
      refine lv_iload K.1 K.2.1 dX10_fewest_95 (lv_at hl 0 rfl) ?_
      obtain ⟨v8, ev8, hf⟩ := Option.bind_eq_some_iff.mp hf
      refine ah_callS (As := [.ref v5, .ref v6, .ref v7, .int v2.1]) (rest := []) K hG hL hl.1 (ctX10_firstOfWay l H0 D ca v2.2 z v5 v6 v7 v2.1 v8 ev8) hdX10_firstOfWay q_533 q_534 q_50 q_535 ⟨Nat.le_of_ble_eq_true rfl, Nat.le_of_ble_eq_true rfl⟩ rfl rfl (Nat.le_of_ble_eq_true rfl) ⟨Nat.le_refl _, Nat.le_refl _⟩ dX10_fewest_97 (fun H locs hG hL => ?_)
      have hf := Option.some.inj hf
      subst hf
      exact ah_iret K hG hL (Nat.le_refl _) (Nat.le_refl _) dX10_fewest_100
    · rw [if_pos h4] at hf
      refine lv_iload K.1 K.2.1 dX10_fewest_78 (lv_at hl 0 rfl) ?_
      refine lv_goto (tgt := 100) K.1 K.2.1 dX10_fewest_80 (by decide) ?_
      have hf := Option.some.inj hf
      subst hf
      exact ah_iret K hG hL (Nat.le_refl _) (Nat.le_refl _) dX10_fewest_100
  · rw [if_neg h1] at hf
    refine lv_aload_n K.1 K.2.1 dX10_fewest_43 rfl (lv_at hl 0 rfl) ?_
    obtain ⟨v9, ev9, hf⟩ := Option.bind_eq_some_iff.mp hf
    refine ah_getr K hG ev9 ffX10_38_10 dX10_fewest_44 ?_
    refine lv_iload K.1 K.2.1 dX10_fewest_47 (lv_at hl 4 rfl) ?_
    refine lv_iload K.1 K.2.1 dX10_fewest_49 (lv_at hl 4 rfl) ?_
    refine lv_iload_n K.1 K.2.1 dX10_fewest_51 rfl (lv_at hl 1 rfl) ?_
    refine lv_icmp_ne (tgt := 59) K.1 K.2.1 dX10_fewest_52 (by decide) (fun h10 => ?_) (fun h10 => ?_)
    · rw [if_neg h10] at hf
      refine lv_iconst (v := (-1)) K.1 K.2.1 dX10_fewest_59 (by decide) ?_
      exact wX10_fewest_60 K k36 hk36 M a0 x1 x2 x3 x4 v9 x4 (-1) _ _ _ hG hL (lv_sub hl [0, 1, 2, 3, 4] rfl) _ hf
    · rw [if_pos h10] at hf
      refine lv_iload_n K.1 K.2.1 dX10_fewest_55 rfl (lv_at hl 2 rfl) ?_
      refine lv_goto (tgt := 60) K.1 K.2.1 dX10_fewest_56 (by decide) ?_
      exact wX10_fewest_60 K k36 hk36 M a0 x1 x2 x3 x4 v9 x4 x2 _ _ _ hG hL (lv_sub hl [0, 1, 2, 3, 4] rfl) _ hf
theorem wX10_fewest_36 {p : Program} {l : Launch} {e : Env} {s : State} {m : MethodId} {args : Array Value} {below : List Frame} {meth : Method} {c : Code} {D : va_G} {ca : Nat → ClassId} {H0 : Heap} {z : Nat} (K : ah_K p s m args meth c D ca "ShipsThatMeet" cX10_fewest 5 (some .int))   (n : Nat) : ∀ (M : ah_h) (a0 : Nat) (x1 : Int32) (x2 : Int32) (x3 : Int32) (x4 : Int32)  (H : Heap) (locs : List Loc) (ls : Array Slot), ah_g H0 D ca M z H → ah_L H0 locs → lv_has ls 5 [(0, .ref a0), (1, .int x1), (2, .int x2), (3, .int x3), (4, .int x4)] → ∀ Z, fX10_fewest_36    n M a0 x1 x2 x3 x4 = some Z → W p l e { frames := 13, cells := 0, slots := 0, locals := 346 } s m args below meth c H locs 0 0 (ah_Q below args s H0 D ca 0 0 (some (.int Z.1)) Z.2 z) (F0 m 36 ls []) := by
  induction n with
  | zero => intro M a0 x1 x2 x3 x4 H locs ls hG hL hl Z hf; cases hf
  | succ n ih => exact wX10_fewest_36_b K  _ ih
def fX10_fewest (M : ah_h) (a0 : Nat) (x1 : Int32) (x2 : Int32) (x3 : Int32) : Option (Int32 × ah_h) := (ah_ob M a0 10).bind fun _ => (ah_gr M a0 10 0).bind fun v1 => (fX2_isMan M v1 x1).bind fun v2 => if v2 = 0 then (some ((-1), M)) else ((ah_gr M a0 10 0).bind fun v5 => (fX2_isShip M v5 x2).bind fun v6 => if v6 = 0 then (some ((-1), M)) else (if x3 < 0 then (some ((-1), M)) else (if x3 ≤ 1 then (fX10_fewest_36 ah_fu M a0 x1 x2 x3 0) else (some ((-1), M)))))
set_option maxRecDepth 100000 in
set_option maxHeartbeats 4000000 in
theorem ctX10_fewest (l : Launch) (H0 : Heap) (D : va_G) (ca : Nat → ClassId) (M : ah_h) (z : Nat) (a0 : Nat) (x1 : Int32) (x2 : Int32) (x3 : Int32) (Z : Int32 × ah_h) (hf : fX10_fewest M a0 x1 x2 x3 = some Z) : ah_ct l H0 D ca yX10_fewest cX10_fewest 5 (some .int) 13 346 0 0 [.ref a0, .int x1, .int x2, .int x3] M z (some (.int Z.1)) Z.2 z := by
  refine ah_of (by decide) (Nat.le_of_ble_eq_true rfl) ?_
  intro p e s m below meth c ls hin K hG hl
  have hL : ah_L H0 [] := ah_L.nil
  have hl : lv_has ls 5 [(0, .ref a0), (1, .int x1), (2, .int x2), (3, .int x3)] := hl
  unfold fX10_fewest at hf
  obtain ⟨-, -, hf⟩ := Option.bind_eq_some_iff.mp hf
  refine lv_aload_n K.1 K.2.1 dX10_fewest_0 rfl (lv_at hl 0 rfl) ?_
  obtain ⟨v1, ev1, hf⟩ := Option.bind_eq_some_iff.mp hf
  refine ah_getr K hG ev1 ffX10_10_10 dX10_fewest_1 ?_
  refine lv_iload_n K.1 K.2.1 dX10_fewest_4 rfl (lv_at hl 1 rfl) ?_
  obtain ⟨v2, ev2, hf⟩ := Option.bind_eq_some_iff.mp hf
  obtain ⟨q3, eq3⟩ := ah_this ev2
  refine ah_callV (As := [.int x1]) (rest := []) K hG hL hl.1 eq3 rfl (ctX2_isMan l H0 D ca M z v1 x1 v2 ev2) hdX2_isMan q_435 q_417 q_51 q_419 q_418 ⟨Nat.le_of_ble_eq_true rfl, Nat.le_of_ble_eq_true rfl⟩ rfl rfl (Nat.le_of_ble_eq_true rfl) ⟨Nat.le_refl _, Nat.le_refl _⟩ dX10_fewest_5 (fun H locs hG hL => ?_)
  refine lv_if_eq (tgt := 31) K.1 K.2.1 dX10_fewest_8 (by decide) (fun h4 => ?_) (fun h4 => ?_)
  · rw [if_pos h4] at hf
    refine lv_iconst (v := (-1)) K.1 K.2.1 dX10_fewest_31 (by decide) ?_
    have hf := Option.some.inj hf
    subst hf
    exact ah_iret K hG hL (Nat.le_refl _) (Nat.le_refl _) dX10_fewest_32
  · rw [if_neg h4] at hf
    refine lv_aload_n K.1 K.2.1 dX10_fewest_11 rfl (lv_at hl 0 rfl) ?_
    obtain ⟨v5, ev5, hf⟩ := Option.bind_eq_some_iff.mp hf
    refine ah_getr K hG ev5 ffX10_10_10 dX10_fewest_12 ?_
    refine lv_iload_n K.1 K.2.1 dX10_fewest_15 rfl (lv_at hl 2 rfl) ?_
    obtain ⟨v6, ev6, hf⟩ := Option.bind_eq_some_iff.mp hf
    obtain ⟨q7, eq7⟩ := ah_this ev6
    refine ah_callV (As := [.int x2]) (rest := []) K hG hL hl.1 eq7 rfl (ctX2_isShip l H0 D ca M z v5 x2 v6 ev6) hdX2_isShip q_428 q_333 q_51 q_335 q_334 ⟨Nat.le_of_ble_eq_true rfl, Nat.le_of_ble_eq_true rfl⟩ rfl rfl (Nat.le_of_ble_eq_true rfl) ⟨Nat.le_refl _, Nat.le_refl _⟩ dX10_fewest_16 (fun H locs hG hL => ?_)
    refine lv_if_eq (tgt := 31) K.1 K.2.1 dX10_fewest_19 (by decide) (fun h8 => ?_) (fun h8 => ?_)
    · rw [if_pos h8] at hf
      refine lv_iconst (v := (-1)) K.1 K.2.1 dX10_fewest_31 (by decide) ?_
      have hf := Option.some.inj hf
      subst hf
      exact ah_iret K hG hL (Nat.le_refl _) (Nat.le_refl _) dX10_fewest_32
    · rw [if_neg h8] at hf
      refine lv_iload_n K.1 K.2.1 dX10_fewest_22 rfl (lv_at hl 3 rfl) ?_
      refine lv_if_lt (tgt := 31) K.1 K.2.1 dX10_fewest_23 (by decide) (fun h9 => ?_) (fun h9 => ?_)
      · rw [if_pos h9] at hf
        refine lv_iconst (v := (-1)) K.1 K.2.1 dX10_fewest_31 (by decide) ?_
        have hf := Option.some.inj hf
        subst hf
        exact ah_iret K hG hL (Nat.le_refl _) (Nat.le_refl _) dX10_fewest_32
      · rw [if_neg h9] at hf
        refine lv_iload_n K.1 K.2.1 dX10_fewest_26 rfl (lv_at hl 3 rfl) ?_
        refine lv_iconst (v := 1) K.1 K.2.1 dX10_fewest_27 (by decide) ?_
        refine lv_icmp_le (tgt := 33) K.1 K.2.1 dX10_fewest_28 (by decide) (fun h10 => ?_) (fun h10 => ?_)
        · rw [if_pos h10] at hf
          refine lv_iconst (v := 0) K.1 K.2.1 dX10_fewest_33 (by decide) ?_
          refine lv_istore (lv' := [(4, .int 0), (0, .ref a0), (1, .int x1), (2, .int x2), (3, .int x3)]) K.1 K.2.1 dX10_fewest_34 hl (by decide) rfl (fun ls hl => ?_)
          exact wX10_fewest_36 K  ah_fu M a0 x1 x2 x3 0 _ _ _ hG hL (lv_sub hl [1, 2, 3, 4, 0] rfl) _ hf
        · rw [if_neg h10] at hf
          refine lv_iconst (v := (-1)) K.1 K.2.1 dX10_fewest_31 (by decide) ?_
          have hf := Option.some.inj hf
          subst hf
          exact ah_iret K hG hL (Nat.le_refl _) (Nat.le_refl _) dX10_fewest_32
def fX10_crews_65  (k33 : ah_h → Nat → Nat → Int32 → Option (Int32 × ah_h))  (M : ah_h) (a0 : Nat) (a3 : Nat) (x4 : Int32) (s0 : Nat) (s1 : Int32) (s2 : Int32) : Option (Int32 × ah_h) := (ah_si M s0 s1 s2).bind fun M1 => k33 M1 a0 a3 (x4 + 1)
set_option maxRecDepth 100000 in
set_option maxHeartbeats 4000000 in
theorem wX10_crews_65 {p : Program} {l : Launch} {e : Env} {s : State} {m : MethodId} {args : Array Value} {below : List Frame} {meth : Method} {c : Code} {D : va_G} {ca : Nat → ClassId} {H0 : Heap} {z : Nat} (K : ah_K p s m args meth c D ca "ShipsThatMeet" cX10_crews 5 (some .int))  (k33 : ah_h → Nat → Nat → Int32 → Option (Int32 × ah_h)) (hk33 : ∀ (M : ah_h) (a0 : Nat) (a3 : Nat) (x4 : Int32)  (H : Heap) (locs : List Loc) (ls : Array Slot), ah_g H0 D ca M z H → ah_L H0 locs → lv_has ls 5 [(0, .ref a0), (3, .ref a3), (4, .int x4)] → ∀ Z, k33 M a0 a3 x4 = some Z → W p l e { frames := 13, cells := 0, slots := 0, locals := 346 } s m args below meth c H locs 0 0 (ah_Q below args s H0 D ca 0 0 (some (.int Z.1)) Z.2 z) (F0 m 33 ls [])) : ∀ (M : ah_h) (a0 : Nat) (a3 : Nat) (x4 : Int32) (s0 : Nat) (s1 : Int32) (s2 : Int32)  (H : Heap) (locs : List Loc) (ls : Array Slot), ah_g H0 D ca M z H → ah_L H0 locs → lv_has ls 5 [(0, .ref a0), (3, .ref a3), (4, .int x4)] → ∀ Z, fX10_crews_65  k33  M a0 a3 x4 s0 s1 s2 = some Z → W p l e { frames := 13, cells := 0, slots := 0, locals := 346 } s m args below meth c H locs 0 0 (ah_Q below args s H0 D ca 0 0 (some (.int Z.1)) Z.2 z) (F0 m 65 ls [.int s2, .int s1, .ref s0]) := by
  intro M a0 a3 x4 s0 s1 s2 H locs ls hG hL hl Z hf
  unfold fX10_crews_65 at hf
  obtain ⟨M1, eM1, hf⟩ := Option.bind_eq_some_iff.mp hf
  refine ah_iast K hG hL eM1 dX10_crews_65 (fun H locs hG hL => ?_)
  refine lv_iinc (v := x4 + 1) (lv' := [(4, .int (x4 + 1)), (0, .ref a0), (3, .ref a3)]) K.1 K.2.1 dX10_crews_66 hl (k := 2) rfl rfl (by decide) rfl (fun ls hl => ?_)
  refine lv_goto (tgt := 33) K.1 K.2.1 dX10_crews_69 (by decide) ?_
  exact hk33 M1 a0 a3 (x4 + 1) _ _ _ hG hL (lv_sub hl [1, 2, 0] rfl) _ hf
def fX10_crews_33_b   (k33 : ah_h → Nat → Nat → Int32 → Option (Int32 × ah_h))  (M : ah_h) (a0 : Nat) (a3 : Nat) (x4 : Int32) : Option (Int32 × ah_h) := if 12 ≤ x4 then ((fX10_fewestMeetings M a0 3).bind fun v2 => some (v2.1, v2.2)) else ((ah_gr M a0 10 6).bind fun v4 => (ah_gi M a3 7 2).bind fun v5 => if v5 ≤ x4 then (fX10_crews_65 k33 M a0 a3 x4 v4 x4 (-1)) else ((fX7_at M a3 x4).bind fun v7 => fX10_crews_65 k33 M a0 a3 x4 v4 x4 v7))
def fX10_crews_33    : Nat → ah_h → Nat → Nat → Int32 → Option (Int32 × ah_h)
  | 0 => fun _ _ _ _ => none
  | n + 1 => fun M a0 a3 x4 => fX10_crews_33_b   (fX10_crews_33    n)  M a0 a3 x4
set_option maxRecDepth 100000 in
set_option maxHeartbeats 4000000 in
theorem wX10_crews_33_b {p : Program} {l : Launch} {e : Env} {s : State} {m : MethodId} {args : Array Value} {below : List Frame} {meth : Method} {c : Code} {D : va_G} {ca : Nat → ClassId} {H0 : Heap} {z : Nat} (K : ah_K p s m args meth c D ca "ShipsThatMeet" cX10_crews 5 (some .int))   (k33 : ah_h → Nat → Nat → Int32 → Option (Int32 × ah_h)) (hk33 : ∀ (M : ah_h) (a0 : Nat) (a3 : Nat) (x4 : Int32)  (H : Heap) (locs : List Loc) (ls : Array Slot), ah_g H0 D ca M z H → ah_L H0 locs → lv_has ls 5 [(0, .ref a0), (3, .ref a3), (4, .int x4)] → ∀ Z, k33 M a0 a3 x4 = some Z → W p l e { frames := 13, cells := 0, slots := 0, locals := 346 } s m args below meth c H locs 0 0 (ah_Q below args s H0 D ca 0 0 (some (.int Z.1)) Z.2 z) (F0 m 33 ls [])) : ∀ (M : ah_h) (a0 : Nat) (a3 : Nat) (x4 : Int32)  (H : Heap) (locs : List Loc) (ls : Array Slot), ah_g H0 D ca M z H → ah_L H0 locs → lv_has ls 5 [(0, .ref a0), (3, .ref a3), (4, .int x4)] → ∀ Z, fX10_crews_33_b   k33  M a0 a3 x4 = some Z → W p l e { frames := 13, cells := 0, slots := 0, locals := 346 } s m args below meth c H locs 0 0 (ah_Q below args s H0 D ca 0 0 (some (.int Z.1)) Z.2 z) (F0 m 33 ls []) := by
  intro M a0 a3 x4 H locs ls hG hL hl Z hf
  unfold fX10_crews_33_b at hf
  refine lv_iload K.1 K.2.1 dX10_crews_33 (lv_at hl 2 rfl) ?_
  refine lv_bipush (v := 12) K.1 K.2.1 dX10_crews_35 (by decide) ?_
  refine lv_icmp_ge (tgt := 72) K.1 K.2.1 dX10_crews_37 (by decide) (fun h1 => ?_) (fun h1 => ?_)
  · rw [if_pos h1] at hf
    refine lv_aload_n K.1 K.2.1 dX10_crews_72 rfl (lv_at hl 0 rfl) ?_
    refine lv_iconst (v := 3) K.1 K.2.1 dX10_crews_73 (by decide) ?_
    obtain ⟨v2, ev2, hf⟩ := Option.bind_eq_some_iff.mp hf
    obtain ⟨q3, eq3⟩ := ah_this ev2
    refine ah_callV (As := [.int 3]) (rest := []) K hG hL hl.1 eq3 rfl (ctX10_fewestMeetings l H0 D ca M z a0 3 v2 ev2) hdX10_fewestMeetings q_521 q_523 q_50 q_524 q_8 ⟨Nat.le_of_ble_eq_true rfl, Nat.le_of_ble_eq_true rfl⟩ rfl rfl (Nat.le_of_ble_eq_true rfl) ⟨Nat.le_refl _, Nat.le_refl _⟩ dX10_crews_74 (fun H locs hG hL => ?_)
    have hf := Option.some.inj hf
    subst hf
    exact ah_iret K hG hL (Nat.le_refl _) (Nat.le_refl _) dX10_crews_77
  · rw [if_neg h1] at hf
    refine lv_aload_n K.1 K.2.1 dX10_crews_40 rfl (lv_at hl 0 rfl) ?_
    obtain ⟨v4, ev4, hf⟩ := Option.bind_eq_some_iff.mp hf
    refine ah_getr K hG ev4 ffX10_38_10 dX10_crews_41 ?_
    refine lv_iload K.1 K.2.1 dX10_crews_44 (lv_at hl 2 rfl) ?_
    refine lv_iload K.1 K.2.1 dX10_crews_46 (lv_at hl 2 rfl) ?_
    refine lv_aload_n K.1 K.2.1 dX10_crews_48 rfl (lv_at hl 1 rfl) ?_
    obtain ⟨v5, ev5, hf⟩ := Option.bind_eq_some_iff.mp hf
    refine ah_geti K hG ev5 ffX10_58_7 dX10_crews_49 ?_
    refine lv_icmp_ge (tgt := 64) K.1 K.2.1 dX10_crews_52 (by decide) (fun h6 => ?_) (fun h6 => ?_)
    · rw [if_pos h6] at hf
      refine lv_iconst (v := (-1)) K.1 K.2.1 dX10_crews_64 (by decide) ?_
      exact wX10_crews_65 K k33 hk33 M a0 a3 x4 v4 x4 (-1) _ _ _ hG hL (lv_sub hl [0, 1, 2] rfl) _ hf
    · rw [if_neg h6] at hf
      refine lv_aload_n K.1 K.2.1 dX10_crews_55 rfl (lv_at hl 1 rfl) ?_
      refine lv_iload K.1 K.2.1 dX10_crews_56 (lv_at hl 2 rfl) ?_
      obtain ⟨v7, ev7, hf⟩ := Option.bind_eq_some_iff.mp hf
      obtain ⟨q8, eq8⟩ := ah_this ev7
      refine ah_callV (As := [.int x4]) (rest := [.int x4, .ref v4]) K hG hL hl.1 eq8 rfl (ctX7_at l H0 D ca M z a3 x4 v7 ev7) hdX7_at q_232 q_233 q_53 q_235 q_234 ⟨Nat.le_of_ble_eq_true rfl, Nat.le_of_ble_eq_true rfl⟩ rfl rfl (Nat.le_of_ble_eq_true rfl) ⟨Nat.le_refl _, Nat.le_refl _⟩ dX10_crews_58 (fun H locs hG hL => ?_)
      refine lv_goto (tgt := 65) K.1 K.2.1 dX10_crews_61 (by decide) ?_
      exact wX10_crews_65 K k33 hk33 M a0 a3 x4 v4 x4 v7 _ _ _ hG hL (lv_sub hl [0, 1, 2] rfl) _ hf
theorem wX10_crews_33 {p : Program} {l : Launch} {e : Env} {s : State} {m : MethodId} {args : Array Value} {below : List Frame} {meth : Method} {c : Code} {D : va_G} {ca : Nat → ClassId} {H0 : Heap} {z : Nat} (K : ah_K p s m args meth c D ca "ShipsThatMeet" cX10_crews 5 (some .int))   (n : Nat) : ∀ (M : ah_h) (a0 : Nat) (a3 : Nat) (x4 : Int32)  (H : Heap) (locs : List Loc) (ls : Array Slot), ah_g H0 D ca M z H → ah_L H0 locs → lv_has ls 5 [(0, .ref a0), (3, .ref a3), (4, .int x4)] → ∀ Z, fX10_crews_33    n M a0 a3 x4 = some Z → W p l e { frames := 13, cells := 0, slots := 0, locals := 346 } s m args below meth c H locs 0 0 (ah_Q below args s H0 D ca 0 0 (some (.int Z.1)) Z.2 z) (F0 m 33 ls []) := by
  induction n with
  | zero => intro M a0 a3 x4 H locs ls hG hL hl Z hf; cases hf
  | succ n ih => exact wX10_crews_33_b K  _ ih
def fX10_crews (M : ah_h) (a0 : Nat) (x1 : Int32) : Option (Int32 × ah_h) := (ah_ob M a0 10).bind fun _ => (fX10_refusalOfBytes M a0 x1).bind fun v1 => if 0 ≤ v1 then ((ah_gr M a0 10 4).bind fun v4 => (ah_ar M v4 3 x1).bind fun v5 => (fX10_tellsOfEachMan M a0 v5).bind fun v6 => if v6 = 0 then (some ((-13), M)) else (fX10_crews_33 ah_fu M a0 v5 0)) else (some (v1, M))
set_option maxRecDepth 100000 in
set_option maxHeartbeats 4000000 in
theorem ctX10_crews (l : Launch) (H0 : Heap) (D : va_G) (ca : Nat → ClassId) (M : ah_h) (z : Nat) (a0 : Nat) (x1 : Int32) (Z : Int32 × ah_h) (hf : fX10_crews M a0 x1 = some Z) : ah_ct l H0 D ca yX10_crews cX10_crews 5 (some .int) 13 346 0 0 [.ref a0, .int x1] M z (some (.int Z.1)) Z.2 z := by
  refine ah_of (by decide) (Nat.le_of_ble_eq_true rfl) ?_
  intro p e s m below meth c ls hin K hG hl
  have hL : ah_L H0 [] := ah_L.nil
  have hl : lv_has ls 5 [(0, .ref a0), (1, .int x1)] := hl
  unfold fX10_crews at hf
  obtain ⟨-, -, hf⟩ := Option.bind_eq_some_iff.mp hf
  refine lv_aload_n K.1 K.2.1 dX10_crews_0 rfl (lv_at hl 0 rfl) ?_
  refine lv_iload_n K.1 K.2.1 dX10_crews_1 rfl (lv_at hl 1 rfl) ?_
  obtain ⟨v1, ev1, hf⟩ := Option.bind_eq_some_iff.mp hf
  obtain ⟨q2, eq2⟩ := ah_this ev1
  refine ah_callV (As := [.int x1]) (rest := []) K hG hL hl.1 eq2 rfl (ctX10_refusalOfBytes l H0 D ca M z a0 x1 v1 ev1) hdX10_refusalOfBytes q_210 q_212 q_50 q_213 q_0 ⟨Nat.le_of_ble_eq_true rfl, Nat.le_of_ble_eq_true rfl⟩ rfl rfl (Nat.le_of_ble_eq_true rfl) ⟨Nat.le_refl _, Nat.le_refl _⟩ dX10_crews_2 (fun H locs hG hL => ?_)
  refine lv_istore_n (lv' := [(2, .int v1), (0, .ref a0), (1, .int x1)]) K.1 K.2.1 dX10_crews_5 rfl hl (by decide) rfl (fun ls hl => ?_)
  refine lv_iload_n K.1 K.2.1 dX10_crews_6 rfl (lv_at hl 0 rfl) ?_
  refine lv_if_ge (tgt := 12) K.1 K.2.1 dX10_crews_7 (by decide) (fun h3 => ?_) (fun h3 => ?_)
  · rw [if_pos h3] at hf
    refine lv_aload_n K.1 K.2.1 dX10_crews_12 rfl (lv_at hl 1 rfl) ?_
    obtain ⟨v4, ev4, hf⟩ := Option.bind_eq_some_iff.mp hf
    refine ah_getr K hG ev4 ffX10_28_10 dX10_crews_13 ?_
    refine lv_iload_n K.1 K.2.1 dX10_crews_16 rfl (lv_at hl 2 rfl) ?_
    obtain ⟨v5, ev5, hf⟩ := Option.bind_eq_some_iff.mp hf
    refine ah_aald (t := 3) K hG ev5 rfl rfl dX10_crews_17 ?_
    refine lv_astore_n (lv' := [(3, .ref v5), (2, .int v1), (0, .ref a0), (1, .int x1)]) K.1 K.2.1 dX10_crews_18 rfl hl (by decide) rfl (fun ls hl => ?_)
    refine lv_aload_n K.1 K.2.1 dX10_crews_19 rfl (lv_at hl 2 rfl) ?_
    refine lv_aload_n K.1 K.2.1 dX10_crews_20 rfl (lv_at hl 0 rfl) ?_
    obtain ⟨v6, ev6, hf⟩ := Option.bind_eq_some_iff.mp hf
    obtain ⟨q7, eq7⟩ := ah_this ev6
    refine ah_callV (As := [.ref v5]) (rest := []) K hG hL hl.1 eq7 rfl (ctX10_tellsOfEachMan l H0 D ca M z a0 v5 v6 ev6) hdX10_tellsOfEachMan q_569 q_571 q_50 q_572 q_9 ⟨Nat.le_of_ble_eq_true rfl, Nat.le_of_ble_eq_true rfl⟩ rfl rfl (Nat.le_of_ble_eq_true rfl) ⟨Nat.le_refl _, Nat.le_refl _⟩ dX10_crews_21 (fun H locs hG hL => ?_)
    refine lv_if_ne (tgt := 30) K.1 K.2.1 dX10_crews_24 (by decide) (fun h8 => ?_) (fun h8 => ?_)
    · rw [if_neg h8] at hf
      refine lv_iconst (v := 0) K.1 K.2.1 dX10_crews_30 (by decide) ?_
      refine lv_istore (lv' := [(4, .int 0), (3, .ref v5), (2, .int v1), (0, .ref a0), (1, .int x1)]) K.1 K.2.1 dX10_crews_31 hl (by decide) rfl (fun ls hl => ?_)
      exact wX10_crews_33 K  ah_fu M a0 v5 0 _ _ _ hG hL (lv_sub hl [3, 1, 0] rfl) _ hf
    · rw [if_pos h8] at hf
      refine lv_bipush (v := (-13)) K.1 K.2.1 dX10_crews_27 (by decide) ?_
      have hf := Option.some.inj hf
      subst hf
      exact ah_iret K hG hL (Nat.le_refl _) (Nat.le_refl _) dX10_crews_29
  · rw [if_neg h3] at hf
    refine lv_iload_n K.1 K.2.1 dX10_crews_10 rfl (lv_at hl 0 rfl) ?_
    have hf := Option.some.inj hf
    subst hf
    exact ah_iret K hG hL (Nat.le_refl _) (Nat.le_refl _) dX10_crews_11
