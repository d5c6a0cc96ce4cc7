-- X11_kind X11_figure X11_get X11_puts X11_copies X11_aboard X11_bits X11_at X11_bySince X11_notOf X11_likeTongue X11_bestOf X11_gives X11_sails X11_mayMeet X11_meets X11_here X11_readsDigits X11_readsStatement X11_comes
def fX11_kind (M : ah_h) (a0 : Nat) (x1 : Int32) : Option (Int32) := (ah_ob M a0 11).bind fun _ => (ah_gr M a0 11 0).bind fun v1 => (ah_ai M v1 (3 + (2 * x1))).bind fun v2 => some v2
set_option maxRecDepth 100000 in
set_option maxHeartbeats 4000000 in
theorem ctX11_kind (l : Launch) (H0 : Heap) (D : va_G) (ca : Nat → ClassId) (M : ah_h) (z : Nat) (a0 : Nat) (x1 : Int32) (Z : Int32) (hf : fX11_kind M a0 x1 = some Z) : ah_ct l H0 D ca yX11_kind cX11_kind 2 (some .int) 0 0 0 0 [.ref a0, .int x1] M z (some (.int Z)) M z := by
  refine ah_of (by decide) (Nat.le_of_ble_eq_true rfl) ?_
  intro p e s m below meth c ls hin K hG hl
  have hL : ah_L H0 [] := ah_L.nil
  have hl : lv_has ls 2 [(0, .ref a0), (1, .int x1)] := hl
  unfold fX11_kind at hf
  obtain ⟨-, -, hf⟩ := Option.bind_eq_some_iff.mp hf
  refine lv_aload_n K.1 K.2.1 dX11_kind_0 rfl (lv_at hl 0 rfl) ?_
  obtain ⟨v1, ev1, hf⟩ := Option.bind_eq_some_iff.mp hf
  refine ah_getr K hG ev1 ffX11_9_11 dX11_kind_1 ?_
  refine lv_iconst (v := 3) K.1 K.2.1 dX11_kind_4 (by decide) ?_
  refine lv_iconst (v := 2) K.1 K.2.1 dX11_kind_5 (by decide) ?_
  refine lv_iload_n K.1 K.2.1 dX11_kind_6 rfl (lv_at hl 1 rfl) ?_
  refine lv_imul K.1 K.2.1 dX11_kind_7 ?_
  refine lv_iadd K.1 K.2.1 dX11_kind_8 ?_
  obtain ⟨v2, ev2, hf⟩ := Option.bind_eq_some_iff.mp hf
  refine ah_iald K hG ev2 dX11_kind_9 ?_
  have hf := Option.some.inj hf
  subst hf
  exact ah_iret K hG hL (Nat.le_refl _) (Nat.le_refl _) dX11_kind_10
def fX11_figure (M : ah_h) (a0 : Nat) (x1 : Int32) : Option (Int32) := (ah_ob M a0 11).bind fun _ => (ah_gr M a0 11 0).bind fun v1 => (ah_ai M v1 ((3 + (2 * x1)) + 1)).bind fun v2 => some v2
set_option maxRecDepth 100000 in
set_option maxHeartbeats 4000000 in
theorem ctX11_figure (l : Launch) (H0 : Heap) (D : va_G) (ca : Nat → ClassId) (M : ah_h) (z : Nat) (a0 : Nat) (x1 : Int32) (Z : Int32) (hf : fX11_figure M a0 x1 = some Z) : ah_ct l H0 D ca yX11_figure cX11_figure 2 (some .int) 0 0 0 0 [.ref a0, .int x1] M z (some (.int Z)) M z := by
  refine ah_of (by decide) (Nat.le_of_ble_eq_true rfl) ?_
  intro p e s m below meth c ls hin K hG hl
  have hL : ah_L H0 [] := ah_L.nil
  have hl : lv_has ls 2 [(0, .ref a0), (1, .int x1)] := hl
  unfold fX11_figure at hf
  obtain ⟨-, -, hf⟩ := Option.bind_eq_some_iff.mp hf
  refine lv_aload_n K.1 K.2.1 dX11_figure_0 rfl (lv_at hl 0 rfl) ?_
  obtain ⟨v1, ev1, hf⟩ := Option.bind_eq_some_iff.mp hf
  refine ah_getr K hG ev1 ffX11_9_11 dX11_figure_1 ?_
  refine lv_iconst (v := 3) K.1 K.2.1 dX11_figure_4 (by decide) ?_
  refine lv_iconst (v := 2) K.1 K.2.1 dX11_figure_5 (by decide) ?_
  refine lv_iload_n K.1 K.2.1 dX11_figure_6 rfl (lv_at hl 1 rfl) ?_
  refine lv_imul K.1 K.2.1 dX11_figure_7 ?_
  refine lv_iadd K.1 K.2.1 dX11_figure_8 ?_
  refine lv_iconst (v := 1) K.1 K.2.1 dX11_figure_9 (by decide) ?_
  refine lv_iadd K.1 K.2.1 dX11_figure_10 ?_
  obtain ⟨v2, ev2, hf⟩ := Option.bind_eq_some_iff.mp hf
  refine ah_iald K hG ev2 dX11_figure_11 ?_
  have hf := Option.some.inj hf
  subst hf
  exact ah_iret K hG hL (Nat.le_refl _) (Nat.le_refl _) dX11_figure_12
def fX11_get (M : ah_h) (a0 : Nat) (x1 : Int32) (x2 : Int32) : Option (Int32) := (ah_ob M a0 11).bind fun _ => (ah_gr M a0 11 0).bind fun v1 => (ah_ai M v1 ((13 + (5 * x1)) + x2)).bind fun v2 => some v2
set_option maxRecDepth 100000 in
set_option maxHeartbeats 4000000 in
theorem ctX11_get (l : Launch) (H0 : Heap) (D : va_G) (ca : Nat → ClassId) (M : ah_h) (z : Nat) (a0 : Nat) (x1 : Int32) (x2 : Int32) (Z : Int32) (hf : fX11_get M a0 x1 x2 = some Z) : ah_ct l H0 D ca yX11_get cX11_get 3 (some .int) 0 0 0 0 [.ref a0, .int x1, .int x2] M z (some (.int Z)) M z := by
  refine ah_of (by decide) (Nat.le_of_ble_eq_true rfl) ?_
  intro p e s m below meth c ls hin K hG hl
  have hL : ah_L H0 [] := ah_L.nil
  have hl : lv_has ls 3 [(0, .ref a0), (1, .int x1), (2, .int x2)] := hl
  unfold fX11_get at hf
  obtain ⟨-, -, hf⟩ := Option.bind_eq_some_iff.mp hf
  refine lv_aload_n K.1 K.2.1 dX11_get_0 rfl (lv_at hl 0 rfl) ?_
  obtain ⟨v1, ev1, hf⟩ := Option.bind_eq_some_iff.mp hf
  refine ah_getr K hG ev1 ffX11_9_11 dX11_get_1 ?_
  refine lv_bipush (v := 13) K.1 K.2.1 dX11_get_4 (by decide) ?_
  refine lv_iconst (v := 5) K.1 K.2.1 dX11_get_6 (by decide) ?_
  refine lv_iload_n K.1 K.2.1 dX11_get_7 rfl (lv_at hl 1 rfl) ?_
  refine lv_imul K.1 K.2.1 dX11_get_8 ?_
  refine lv_iadd K.1 K.2.1 dX11_get_9 ?_
  refine lv_iload_n K.1 K.2.1 dX11_get_10 rfl (lv_at hl 2 rfl) ?_
  refine lv_iadd K.1 K.2.1 dX11_get_11 ?_
  obtain ⟨v2, ev2, hf⟩ := Option.bind_eq_some_iff.mp hf
  refine ah_iald K hG ev2 dX11_get_12 ?_
  have hf := Option.some.inj hf
  subst hf
  exact ah_iret K hG hL (Nat.le_refl _) (Nat.le_refl _) dX11_get_13
def fX11_puts (M : ah_h) (a0 : Nat) (x1 : Int32) (x2 : Int32) (x3 : Int32) : Option (ah_h) := (ah_ob M a0 11).bind fun _ => (ah_gr M a0 11 0).bind fun v1 => (ah_si M v1 ((13 + (5 * x1)) + x2) x3).bind fun M2 => some M2
set_option maxRecDepth 100000 in
set_option maxHeartbeats 4000000 in
theorem ctX11_puts (l : Launch) (H0 : Heap) (D : va_G) (ca : Nat → ClassId) (M : ah_h) (z : Nat) (a0 : Nat) (x1 : Int32) (x2 : Int32) (x3 : Int32) (Z : ah_h) (hf : fX11_puts M a0 x1 x2 x3 = some Z) : ah_ct l H0 D ca yX11_puts cX11_puts 4 none 0 0 0 0 [.ref a0, .int x1, .int x2, .int x3] M z none Z z := by
  refine ah_of (by decide) (Nat.le_of_ble_eq_true rfl) ?_
  intro p e s m below meth c ls hin K hG hl
  have hL : ah_L H0 [] := ah_L.nil
  have hl : lv_has ls 4 [(0, .ref a0), (1, .int x1), (2, .int x2), (3, .int x3)] := hl
  unfold fX11_puts at hf
  obtain ⟨-, -, hf⟩ := Option.bind_eq_some_iff.mp hf
  refine lv_aload_n K.1 K.2.1 dX11_puts_0 rfl (lv_at hl 0 rfl) ?_
  obtain ⟨v1, ev1, hf⟩ := Option.bind_eq_some_iff.mp hf
  refine ah_getr K hG ev1 ffX11_9_11 dX11_puts_1 ?_
  refine lv_bipush (v := 13) K.1 K.2.1 dX11_puts_4 (by decide) ?_
  refine lv_iconst (v := 5) K.1 K.2.1 dX11_puts_6 (by decide) ?_
  refine lv_iload_n K.1 K.2.1 dX11_puts_7 rfl (lv_at hl 1 rfl) ?_
  refine lv_imul K.1 K.2.1 dX11_puts_8 ?_
  refine lv_iadd K.1 K.2.1 dX11_puts_9 ?_
  refine lv_iload_n K.1 K.2.1 dX11_puts_10 rfl (lv_at hl 2 rfl) ?_
  refine lv_iadd K.1 K.2.1 dX11_puts_11 ?_
  refine lv_iload_n K.1 K.2.1 dX11_puts_12 rfl (lv_at hl 3 rfl) ?_
  obtain ⟨M2, eM2, hf⟩ := Option.bind_eq_some_iff.mp hf
  refine ah_iast K hG hL eM2 dX11_puts_13 (fun H locs hG hL => ?_)
  have hf := Option.some.inj hf
  subst hf
  exact ah_vret K hG hL (Nat.le_refl _) (Nat.le_refl _) dX11_puts_14
def fX11_copies_2_b   (k2 : ah_h → Nat → Nat → Int32 → Option (ah_h))  (M : ah_h) (a0 : Nat) (a1 : Nat) (x2 : Int32) : Option (ah_h) := if 73 ≤ x2 then (some M) else ((ah_ai M a0 x2).bind fun v2 => (ah_si M a1 x2 v2).bind fun M3 => k2 M3 a0 a1 (x2 + 1))
def fX11_copies_2    : Nat → ah_h → Nat → Nat → Int32 → Option (ah_h)
  | 0 => fun _ _ _ _ => none
  | n + 1 => fun M a0 a1 x2 => fX11_copies_2_b   (fX11_copies_2    n)  M a0 a1 x2
set_option maxRecDepth 100000 in
set_option maxHeartbeats 4000000 in
theorem wX11_copies_2_b {p : Program} {l : Launch} {e : Env} {s : State} {m : MethodId} {args : Array Value} {below : List Frame} {meth : Method} {c : Code} {D : va_G} {ca : Nat → ClassId} {H0 : Heap} {z : Nat} (K : ah_K p s m args meth c D ca "ShipsThatMeetModel" cX11_copies 3 none)   (k2 : ah_h → Nat → Nat → Int32 → Option (ah_h)) (hk2 : ∀ (M : ah_h) (a0 : Nat) (a1 : Nat) (x2 : Int32)  (H : Heap) (locs : List Loc) (ls : Array Slot), ah_g H0 D ca M z H → ah_L H0 locs → lv_has ls 3 [(0, .ref a0), (1, .ref a1), (2, .int x2)] → ∀ Z, k2 M a0 a1 x2 = some Z → W p l e { frames := 0, cells := 0, slots := 0, locals := 0 } s m args below meth c H locs 0 0 (ah_Q below args s H0 D ca 0 0 none Z z) (F0 m 2 ls [])) : ∀ (M : ah_h) (a0 : Nat) (a1 : Nat) (x2 : Int32)  (H : Heap) (locs : List Loc) (ls : Array Slot), ah_g H0 D ca M z H → ah_L H0 locs → lv_has ls 3 [(0, .ref a0), (1, .ref a1), (2, .int x2)] → ∀ Z, fX11_copies_2_b   k2  M a0 a1 x2 = some Z → W p l e { frames := 0, cells := 0, slots := 0, locals := 0 } s m args below meth c H locs 0 0 (ah_Q below args s H0 D ca 0 0 none Z z) (F0 m 2 ls []) := by
  intro M a0 a1 x2 H locs ls hG hL hl Z hf
  unfold fX11_copies_2_b at hf
  refine lv_iload_n K.1 K.2.1 dX11_copies_2 rfl (lv_at hl 2 rfl) ?_
  refine lv_bipush (v := 73) K.1 K.2.1 dX11_copies_3 (by decide) ?_
  refine lv_icmp_ge (tgt := 20) K.1 K.2.1 dX11_copies_5 (by decide) (fun h1 => ?_) (fun h1 => ?_)
  · rw [if_pos h1] at hf
    have hf := Option.some.inj hf
    subst hf
    exact ah_vret K hG hL (Nat.le_refl _) (Nat.le_refl _) dX11_copies_20
  · rw [if_neg h1] at hf
    refine lv_aload_n K.1 K.2.1 dX11_copies_8 rfl (lv_at hl 1 rfl) ?_
    refine lv_iload_n K.1 K.2.1 dX11_copies_9 rfl (lv_at hl 2 rfl) ?_
    refine lv_aload_n K.1 K.2.1 dX11_copies_10 rfl (lv_at hl 0 rfl) ?_
    refine lv_iload_n K.1 K.2.1 dX11_copies_11 rfl (lv_at hl 2 rfl) ?_
    obtain ⟨v2, ev2, hf⟩ := Option.bind_eq_some_iff.mp hf
    refine ah_iald K hG ev2 dX11_copies_12 ?_
    obtain ⟨M3, eM3, hf⟩ := Option.bind_eq_some_iff.mp hf
    refine ah_iast K hG hL eM3 dX11_copies_13 (fun H locs hG hL => ?_)
    refine lv_iinc (v := x2 + 1) (lv' := [(2, .int (x2 + 1)), (0, .ref a0), (1, .ref a1)]) K.1 K.2.1 dX11_copies_14 hl (k := 2) rfl rfl (by decide) rfl (fun ls hl => ?_)
    refine lv_goto (tgt := 2) K.1 K.2.1 dX11_copies_17 (by decide) ?_
    exact hk2 M3 a0 a1 (x2 + 1) _ _ _ hG hL (lv_sub hl [1, 2, 0] rfl) _ hf
theorem wX11_copies_2 {p : Program} {l : Launch} {e : Env} {s : State} {m : MethodId} {args : Array Value} {below : List Frame} {meth : Method} {c : Code} {D : va_G} {ca : Nat → ClassId} {H0 : Heap} {z : Nat} (K : ah_K p s m args meth c D ca "ShipsThatMeetModel" cX11_copies 3 none)   (n : Nat) : ∀ (M : ah_h) (a0 : Nat) (a1 : Nat) (x2 : Int32)  (H : Heap) (locs : List Loc) (ls : Array Slot), ah_g H0 D ca M z H → ah_L H0 locs → lv_has ls 3 [(0, .ref a0), (1, .ref a1), (2, .int x2)] → ∀ Z, fX11_copies_2    n M a0 a1 x2 = some Z → W p l e { frames := 0, cells := 0, slots := 0, locals := 0 } s m args below meth c H locs 0 0 (ah_Q below args s H0 D ca 0 0 none Z z) (F0 m 2 ls []) := by
  induction n with
  | zero => intro M a0 a1 x2 H locs ls hG hL hl Z hf; cases hf
  | succ n ih => exact wX11_copies_2_b K  _ ih
def fX11_copies (M : ah_h) (x0 : Nat) (x1 : Nat) : Option (ah_h) := fX11_copies_2 ah_fu M x0 x1 0
set_option maxRecDepth 100000 in
set_option maxHeartbeats 4000000 in
theorem ctX11_copies (l : Launch) (H0 : Heap) (D : va_G) (ca : Nat → ClassId) (M : ah_h) (z : Nat) (x0 : Nat) (x1 : Nat) (Z : ah_h) (hf : fX11_copies M x0 x1 = some Z) : ah_ct l H0 D ca yX11_copies cX11_copies 3 none 0 0 0 0 [.ref x0, .ref x1] M z none Z z := by
  refine ah_of (by decide) (Nat.le_of_ble_eq_true rfl) ?_
  intro p e s m below meth c ls hin K hG hl
  have hL : ah_L H0 [] := ah_L.nil
  have hl : lv_has ls 3 [(0, .ref x0), (1, .ref x1)] := hl
  unfold fX11_copies at hf
  refine lv_iconst (v := 0) K.1 K.2.1 dX11_copies_0 (by decide) ?_
  refine lv_istore_n (lv' := [(2, .int 0), (0, .ref x0), (1, .ref x1)]) K.1 K.2.1 dX11_copies_1 rfl hl (by decide) rfl (fun ls hl => ?_)
  exact wX11_copies_2 K  ah_fu M x0 x1 0 _ _ _ hG hL (lv_sub hl [1, 2, 0] rfl) _ hf
def fX11_aboard_30  (k4 : Nat → Int32 → Int32 → Int32 → Option (Int32)) (M : ah_h) (a0 : Nat) (x1 : Int32) (x2 : Int32) (x3 : Int32) : Option (Int32) := k4 a0 x1 x2 (x3 + 1)
set_option maxRecDepth 100000 in
set_option maxHeartbeats 4000000 in
theorem wX11_aboard_30 {p : Program} {l : Launch} {e : Env} {s : State} {m : MethodId} {args : Array Value} {below : List Frame} {meth : Method} {c : Code} {D : va_G} {ca : Nat → ClassId} {H0 : Heap} {M : ah_h} {z : Nat} (K : ah_K p s m args meth c D ca "ShipsThatMeetModel" cX11_aboard 4 (some .int))  (k4 : Nat → Int32 → Int32 → Int32 → Option (Int32)) (hk4 : ∀ (a0 : Nat) (x1 : Int32) (x2 : Int32) (x3 : Int32)  (H : Heap) (locs : List Loc) (ls : Array Slot), ah_g H0 D ca M z H → ah_L H0 locs → lv_has ls 4 [(0, .ref a0), (1, .int x1), (2, .int x2), (3, .int x3)] → ∀ Z, k4 a0 x1 x2 x3 = some Z → W p l e { frames := 1, cells := 0, slots := 0, locals := 22 } s m args below meth c H locs 0 0 (ah_Q below args s H0 D ca 0 0 (some (.int Z)) M z) (F0 m 4 ls [])) : ∀ (a0 : Nat) (x1 : Int32) (x2 : Int32) (x3 : Int32)  (H : Heap) (locs : List Loc) (ls : Array Slot), ah_g H0 D ca M z H → ah_L H0 locs → lv_has ls 4 [(0, .ref a0), (1, .int x1), (2, .int x2), (3, .int x3)] → ∀ Z, fX11_aboard_30  k4 M a0 x1 x2 x3 = some Z → W p l e { frames := 1, cells := 0, slots := 0, locals := 22 } s m args below meth c H locs 0 0 (ah_Q below args s H0 D ca 0 0 (some (.int Z)) M z) (F0 m 30 ls []) := by
  intro a0 x1 x2 x3 H locs ls hG hL hl Z hf
  unfold fX11_aboard_30 at hf
  refine lv_iinc (v := x3 + 1) (lv' := [(3, .int (x3 + 1)), (0, .ref a0), (1, .int x1), (2, .int x2)]) K.1 K.2.1 dX11_aboard_30 hl (k := 3) rfl rfl (by decide) rfl (fun ls hl => ?_)
  refine lv_goto (tgt := 4) K.1 K.2.1 dX11_aboard_33 (by decide) ?_
  exact hk4 a0 x1 x2 (x3 + 1) _ _ _ hG hL (lv_sub hl [1, 2, 3, 0] rfl) _ hf
def fX11_aboard_4_b   (k4 : Nat → Int32 → Int32 → Int32 → Option (Int32)) (M : ah_h) (a0 : Nat) (x1 : Int32) (x2 : Int32) (x3 : Int32) : Option (Int32) := (ah_gr M a0 11 0).bind fun v1 => (ah_ai M v1 1).bind fun v2 => if v2 ≤ x3 then (some x2) else ((fX11_get M a0 x3 0).bind fun v4 => if v4 = x1 then (fX11_aboard_30 k4 M a0 x1 (x2 ||| ((1 : Int32) <<< (x3 &&& 31))) x3) else (fX11_aboard_30 k4 M a0 x1 x2 x3))
def fX11_aboard_4   (M : ah_h) : Nat → Nat → Int32 → Int32 → Int32 → Option (Int32)
  | 0 => fun _ _ _ _ => none
  | n + 1 => fun a0 x1 x2 x3 => fX11_aboard_4_b   (fX11_aboard_4   M n) M a0 x1 x2 x3
set_option maxRecDepth 100000 in
set_option maxHeartbeats 4000000 in
theorem wX11_aboard_4_b {p : Program} {l : Launch} {e : Env} {s : State} {m : MethodId} {args : Array Value} {below : List Frame} {meth : Method} {c : Code} {D : va_G} {ca : Nat → ClassId} {H0 : Heap} {M : ah_h} {z : Nat} (K : ah_K p s m args meth c D ca "ShipsThatMeetModel" cX11_aboard 4 (some .int))   (k4 : Nat → Int32 → Int32 → Int32 → Option (Int32)) (hk4 : ∀ (a0 : Nat) (x1 : Int32) (x2 : Int32) (x3 : Int32)  (H : Heap) (locs : List Loc) (ls : Array Slot), ah_g H0 D ca M z H → ah_L H0 locs → lv_has ls 4 [(0, .ref a0), (1, .int x1), (2, .int x2), (3, .int x3)] → ∀ Z, k4 a0 x1 x2 x3 = some Z → W p l e { frames := 1, cells := 0, slots := 0, locals := 22 } s m args below meth c H locs 0 0 (ah_Q below args s H0 D ca 0 0 (some (.int Z)) M z) (F0 m 4 ls [])) : ∀ (a0 : Nat) (x1 : Int32) (x2 : Int32) (x3 : Int32)  (H : Heap) (locs : List Loc) (ls : Array Slot), ah_g H0 D ca M z H → ah_L H0 locs → lv_has ls 4 [(0, .ref a0), (1, .int x1), (2, .int x2), (3, .int x3)] → ∀ Z, fX11_aboard_4_b   k4 M a0 x1 x2 x3 = some Z → W p l e { frames := 1, cells := 0, slots := 0, locals := 22 } s m args below meth c H locs 0 0 (ah_Q below args s H0 D ca 0 0 (some (.int Z)) M z) (F0 m 4 ls []) := by
  intro a0 x1 x2 x3 H locs ls hG hL hl Z hf
  unfold fX11_aboard_4_b at hf
  refine lv_iload_n K.1 K.2.1 dX11_aboard_4 rfl (lv_at hl 3 rfl) ?_
  refine lv_aload_n K.1 K.2.1 dX11_aboard_5 rfl (lv_at hl 0 rfl) ?_
  obtain ⟨v1, ev1, hf⟩ := Option.bind_eq_some_iff.mp hf
  refine ah_getr K hG ev1 ffX11_9_11 dX11_aboard_6 ?_
  refine lv_iconst (v := 1) K.1 K.2.1 dX11_aboard_9 (by decide) ?_
  obtain ⟨v2, ev2, hf⟩ := Option.bind_eq_some_iff.mp hf
  refine ah_iald K hG ev2 dX11_aboard_10 ?_
  refine lv_icmp_ge (tgt := 36) K.1 K.2.1 dX11_aboard_11 (by decide) (fun h3 => ?_) (fun h3 => ?_)
  · rw [if_pos h3] at hf
    refine lv_iload_n K.1 K.2.1 dX11_aboard_36 rfl (lv_at hl 2 rfl) ?_
    have hf := Option.some.inj hf
    subst hf
    exact ah_iret K hG hL (Nat.le_refl _) (Nat.le_refl _) dX11_aboard_37
  · rw [if_neg h3] at hf
    refine lv_aload_n K.1 K.2.1 dX11_aboard_14 rfl (lv_at hl 0 rfl) ?_
    refine lv_iload_n K.1 K.2.1 dX11_aboard_15 rfl (lv_at hl 3 rfl) ?_
    refine lv_iconst (v := 0) K.1 K.2.1 dX11_aboard_16 (by decide) ?_
    obtain ⟨v4, ev4, hf⟩ := Option.bind_eq_some_iff.mp hf
    obtain ⟨q5, eq5⟩ := ah_this ev4
    refine ah_callV (As := [.int x3, .int 0]) (rest := []) K hG hL hl.1 eq5 rfl (ctX11_get l H0 D ca M z a0 x3 0 v4 ev4) hdX11_get q_1012 q_1014 q_54 q_1015 q_20 ⟨Nat.le_of_ble_eq_true rfl, Nat.le_of_ble_eq_true rfl⟩ rfl rfl (Nat.le_of_ble_eq_true rfl) ⟨Nat.le_refl _, Nat.le_refl _⟩ dX11_aboard_17 (fun H locs hG hL => ?_)
    refine lv_iload_n K.1 K.2.1 dX11_aboard_20 rfl (lv_at hl 1 rfl) ?_
    refine lv_icmp_ne (tgt := 30) K.1 K.2.1 dX11_aboard_21 (by decide) (fun h6 => ?_) (fun h6 => ?_)
    · rw [if_neg h6] at hf
      exact wX11_aboard_30 K k4 hk4 a0 x1 x2 x3 _ _ _ hG hL (lv_sub hl [0, 1, 2, 3] rfl) _ hf
    · rw [if_pos h6] at hf
      refine lv_iload_n K.1 K.2.1 dX11_aboard_24 rfl (lv_at hl 2 rfl) ?_
      refine lv_iconst (v := 1) K.1 K.2.1 dX11_aboard_25 (by decide) ?_
      refine lv_iload_n K.1 K.2.1 dX11_aboard_26 rfl (lv_at hl 3 rfl) ?_
      refine lv_ishl K.1 K.2.1 dX11_aboard_27 ?_
      refine lv_ior K.1 K.2.1 dX11_aboard_28 ?_
      refine lv_istore_n (lv' := [(2, .int (x2 ||| ((1 : Int32) <<< (x3 &&& 31)))), (0, .ref a0), (1, .int x1), (3, .int x3)]) K.1 K.2.1 dX11_aboard_29 rfl hl (by decide) rfl (fun ls hl => ?_)
      exact wX11_aboard_30 K k4 hk4 a0 x1 (x2 ||| ((1 : Int32) <<< (x3 &&& 31))) x3 _ _ _ hG hL (lv_sub hl [1, 2, 0, 3] rfl) _ hf
theorem wX11_aboard_4 {p : Program} {l : Launch} {e : Env} {s : State} {m : MethodId} {args : Array Value} {below : List Frame} {meth : Method} {c : Code} {D : va_G} {ca : Nat → ClassId} {H0 : Heap} {M : ah_h} {z : Nat} (K : ah_K p s m args meth c D ca "ShipsThatMeetModel" cX11_aboard 4 (some .int))   (n : Nat) : ∀ (a0 : Nat) (x1 : Int32) (x2 : Int32) (x3 : Int32)  (H : Heap) (locs : List Loc) (ls : Array Slot), ah_g H0 D ca M z H → ah_L H0 locs → lv_has ls 4 [(0, .ref a0), (1, .int x1), (2, .int x2), (3, .int x3)] → ∀ Z, fX11_aboard_4   M n a0 x1 x2 x3 = some Z → W p l e { frames := 1, cells := 0, slots := 0, locals := 22 } s m args below meth c H locs 0 0 (ah_Q below args s H0 D ca 0 0 (some (.int Z)) M z) (F0 m 4 ls []) := by
  induction n with
  | zero => intro a0 x1 x2 x3 H locs ls hG hL hl Z hf; cases hf
  | succ n ih => exact wX11_aboard_4_b K  _ ih
def fX11_aboard (M : ah_h) (a0 : Nat) (x1 : Int32) : Option (Int32) := (ah_ob M a0 11).bind fun _ => fX11_aboard_4 M ah_fu a0 x1 0 0
set_option maxRecDepth 100000 in
set_option maxHeartbeats 4000000 in
theorem ctX11_aboard (l : Launch) (H0 : Heap) (D : va_G) (ca : Nat → ClassId) (M : ah_h) (z : Nat) (a0 : Nat) (x1 : Int32) (Z : Int32) (hf : fX11_aboard M a0 x1 = some Z) : ah_ct l H0 D ca yX11_aboard cX11_aboard 4 (some .int) 1 22 0 0 [.ref a0, .int x1] M z (some (.int Z)) M z := by
  refine ah_of (by decide) (Nat.le_of_ble_eq_true rfl) ?_
  intro p e s m below meth c ls hin K hG hl
  have hL : ah_L H0 [] := ah_L.nil
  have hl : lv_has ls 4 [(0, .ref a0), (1, .int x1)] := hl
  unfold fX11_aboard at hf
  obtain ⟨-, -, hf⟩ := Option.bind_eq_some_iff.mp hf
  refine lv_iconst (v := 0) K.1 K.2.1 dX11_aboard_0 (by decide) ?_
  refine lv_istore_n (lv' := [(2, .int 0), (0, .ref a0), (1, .int x1)]) K.1 K.2.1 dX11_aboard_1 rfl hl (by decide) rfl (fun ls hl => ?_)
  refine lv_iconst (v := 0) K.1 K.2.1 dX11_aboard_2 (by decide) ?_
  refine lv_istore_n (lv' := [(3, .int 0), (2, .int 0), (0, .ref a0), (1, .int x1)]) K.1 K.2.1 dX11_aboard_3 rfl hl (by decide) rfl (fun ls hl => ?_)
  exact wX11_aboard_4 K  ah_fu a0 x1 0 0 _ _ _ hG hL (lv_sub hl [2, 3, 1, 0] rfl) _ hf
def fX11_bits_4_b   (k4 : Int32 → Int32 → Option (Int32)) (M : ah_h) (x1 : Int32) (x2 : Int32) : Option (Int32) := if x2 ≤ 0 then (some x1) else (k4 (x1 + (x2 &&& 1)) (x2 >>> (1 &&& 31)))
def fX11_bits_4   (M : ah_h) : Nat → Int32 → Int32 → Option (Int32)
  | 0 => fun _ _ => none
  | n + 1 => fun x1 x2 => fX11_bits_4_b   (fX11_bits_4   M n) M x1 x2
set_option maxRecDepth 100000 in
set_option maxHeartbeats 4000000 in
theorem wX11_bits_4_b {p : Program} {l : Launch} {e : Env} {s : State} {m : MethodId} {args : Array Value} {below : List Frame} {meth : Method} {c : Code} {D : va_G} {ca : Nat → ClassId} {H0 : Heap} {M : ah_h} {z : Nat} (K : ah_K p s m args meth c D ca "ShipsThatMeetModel" cX11_bits 3 (some .int))   (k4 : Int32 → Int32 → Option (Int32)) (hk4 : ∀ (x1 : Int32) (x2 : Int32)  (H : Heap) (locs : List Loc) (ls : Array Slot), ah_g H0 D ca M z H → ah_L H0 locs → lv_has ls 3 [(1, .int x1), (2, .int x2)] → ∀ Z, k4 x1 x2 = some Z → W p l e { frames := 0, cells := 0, slots := 0, locals := 0 } s m args below meth c H locs 0 0 (ah_Q below args s H0 D ca 0 0 (some (.int Z)) M z) (F0 m 4 ls [])) : ∀ (x1 : Int32) (x2 : Int32)  (H : Heap) (locs : List Loc) (ls : Array Slot), ah_g H0 D ca M z H → ah_L H0 locs → lv_has ls 3 [(1, .int x1), (2, .int x2)] → ∀ Z, fX11_bits_4_b   k4 M x1 x2 = some Z → W p l e { frames := 0, cells := 0, slots := 0, locals := 0 } s m args below meth c H locs 0 0 (ah_Q below args s H0 D ca 0 0 (some (.int Z)) M z) (F0 m 4 ls []) := by
  intro x1 x2 H locs ls hG hL hl Z hf
  unfold fX11_bits_4_b at hf
  refine lv_iload_n K.1 K.2.1 dX11_bits_4 rfl (lv_at hl 1 rfl) ?_
  refine lv_if_le (tgt := 21) K.1 K.2.1 dX11_bits_5 (by decide) (fun h1 => ?_) (fun h1 => ?_)
  · rw [if_pos h1] at hf
    refine lv_iload_n K.1 K.2.1 dX11_bits_21 rfl (lv_at hl 0 rfl) ?_
    have hf := Option.some.inj hf
    subst hf
    exact ah_iret K hG hL (Nat.le_refl _) (Nat.le_refl _) dX11_bits_22
  · rw [if_neg h1] at hf
    refine lv_iload_n K.1 K.2.1 dX11_bits_8 rfl (lv_at hl 0 rfl) ?_
    refine lv_iload_n K.1 K.2.1 dX11_bits_9 rfl (lv_at hl 1 rfl) ?_
    refine lv_iconst (v := 1) K.1 K.2.1 dX11_bits_10 (by decide) ?_
    refine lv_iand K.1 K.2.1 dX11_bits_11 ?_
    refine lv_iadd K.1 K.2.1 dX11_bits_12 ?_
    refine lv_istore_n (lv' := [(1, .int (x1 + (x2 &&& 1))), (2, .int x2)]) K.1 K.2.1 dX11_bits_13 rfl hl (by decide) rfl (fun ls hl => ?_)
    refine lv_iload_n K.1 K.2.1 dX11_bits_14 rfl (lv_at hl 1 rfl) ?_
    refine lv_iconst (v := 1) K.1 K.2.1 dX11_bits_15 (by decide) ?_
    refine lv_ishr K.1 K.2.1 dX11_bits_16 ?_
    refine lv_istore_n (lv' := [(2, .int (x2 >>> (1 &&& 31))), (1, .int (x1 + (x2 &&& 1)))]) K.1 K.2.1 dX11_bits_17 rfl hl (by decide) rfl (fun ls hl => ?_)
    refine lv_goto (tgt := 4) K.1 K.2.1 dX11_bits_18 (by decide) ?_
    exact hk4 (x1 + (x2 &&& 1)) (x2 >>> (1 &&& 31)) _ _ _ hG hL (lv_sub hl [1, 0] rfl) _ hf
theorem wX11_bits_4 {p : Program} {l : Launch} {e : Env} {s : State} {m : MethodId} {args : Array Value} {below : List Frame} {meth : Method} {c : Code} {D : va_G} {ca : Nat → ClassId} {H0 : Heap} {M : ah_h} {z : Nat} (K : ah_K p s m args meth c D ca "ShipsThatMeetModel" cX11_bits 3 (some .int))   (n : Nat) : ∀ (x1 : Int32) (x2 : Int32)  (H : Heap) (locs : List Loc) (ls : Array Slot), ah_g H0 D ca M z H → ah_L H0 locs → lv_has ls 3 [(1, .int x1), (2, .int x2)] → ∀ Z, fX11_bits_4   M n x1 x2 = some Z → W p l e { frames := 0, cells := 0, slots := 0, locals := 0 } s m args below meth c H locs 0 0 (ah_Q below args s H0 D ca 0 0 (some (.int Z)) M z) (F0 m 4 ls []) := by
  induction n with
  | zero => intro x1 x2 H locs ls hG hL hl Z hf; cases hf
  | succ n ih => exact wX11_bits_4_b K  _ ih
def fX11_bits (M : ah_h) (x0 : Int32) : Option (Int32) := fX11_bits_4 M ah_fu 0 x0
set_option maxRecDepth 100000 in
set_option maxHeartbeats 4000000 in
theorem ctX11_bits (l : Launch) (H0 : Heap) (D : va_G) (ca : Nat → ClassId) (M : ah_h) (z : Nat) (x0 : Int32) (Z : Int32) (hf : fX11_bits M x0 = some Z) : ah_ct l H0 D ca yX11_bits cX11_bits 3 (some .int) 0 0 0 0 [.int x0] M z (some (.int Z)) M z := by
  refine ah_of (by decide) (Nat.le_of_ble_eq_true rfl) ?_
  intro p e s m below meth c ls hin K hG hl
  have hL : ah_L H0 [] := ah_L.nil
  have hl : lv_has ls 3 [(0, .int x0)] := hl
  unfold fX11_bits at hf
  refine lv_iconst (v := 0) K.1 K.2.1 dX11_bits_0 (by decide) ?_
  refine lv_istore_n (lv' := [(1, .int 0), (0, .int x0)]) K.1 K.2.1 dX11_bits_1 rfl hl (by decide) rfl (fun ls hl => ?_)
  refine lv_iload_n K.1 K.2.1 dX11_bits_2 rfl (lv_at hl 1 rfl) ?_
  refine lv_istore_n (lv' := [(2, .int x0), (1, .int 0), (0, .int x0)]) K.1 K.2.1 dX11_bits_3 rfl hl (by decide) rfl (fun ls hl => ?_)
  exact wX11_bits_4 K  ah_fu 0 x0 _ _ _ hG hL (lv_sub hl [1, 0] rfl) _ hf
def fX11_at_16  (k4 : Int32 → Int32 → Int32 → Option (Int32)) (M : ah_h) (x0 : Int32) (x2 : Int32) (x3 : Int32) : Option (Int32) := k4 x0 (x2 - ((x0 >>> (x3 &&& 31)) &&& 1)) (x3 + 1)
set_option maxRecDepth 100000 in
set_option maxHeartbeats 4000000 in
theorem wX11_at_16 {p : Program} {l : Launch} {e : Env} {s : State} {m : MethodId} {args : Array Value} {below : List Frame} {meth : Method} {c : Code} {D : va_G} {ca : Nat → ClassId} {H0 : Heap} {M : ah_h} {z : Nat} (K : ah_K p s m args meth c D ca "ShipsThatMeetModel" cX11_at 4 (some .int))  (k4 : Int32 → Int32 → Int32 → Option (Int32)) (hk4 : ∀ (x0 : Int32) (x2 : Int32) (x3 : Int32)  (H : Heap) (locs : List Loc) (ls : Array Slot), ah_g H0 D ca M z H → ah_L H0 locs → lv_has ls 4 [(0, .int x0), (2, .int x2), (3, .int x3)] → ∀ Z, k4 x0 x2 x3 = some Z → W p l e { frames := 0, cells := 0, slots := 0, locals := 0 } s m args below meth c H locs 0 0 (ah_Q below args s H0 D ca 0 0 (some (.int Z)) M z) (F0 m 4 ls [])) : ∀ (x0 : Int32) (x2 : Int32) (x3 : Int32)  (H : Heap) (locs : List Loc) (ls : Array Slot), ah_g H0 D ca M z H → ah_L H0 locs → lv_has ls 4 [(0, .int x0), (2, .int x2), (3, .int x3)] → ∀ Z, fX11_at_16  k4 M x0 x2 x3 = some Z → W p l e { frames := 0, cells := 0, slots := 0, locals := 0 } s m args below meth c H locs 0 0 (ah_Q below args s H0 D ca 0 0 (some (.int Z)) M z) (F0 m 16 ls []) := by
  intro x0 x2 x3 H locs ls hG hL hl Z hf
  unfold fX11_at_16 at hf
  refine lv_iload_n K.1 K.2.1 dX11_at_16 rfl (lv_at hl 1 rfl) ?_
  refine lv_iload_n K.1 K.2.1 dX11_at_17 rfl (lv_at hl 0 rfl) ?_
  refine lv_iload_n K.1 K.2.1 dX11_at_18 rfl (lv_at hl 2 rfl) ?_
  refine lv_ishr K.1 K.2.1 dX11_at_19 ?_
  refine lv_iconst (v := 1) K.1 K.2.1 dX11_at_20 (by decide) ?_
  refine lv_iand K.1 K.2.1 dX11_at_21 ?_
  refine lv_isub K.1 K.2.1 dX11_at_22 ?_
  refine lv_istore_n (lv' := [(2, .int (x2 - ((x0 >>> (x3 &&& 31)) &&& 1))), (0, .int x0), (3, .int x3)]) K.1 K.2.1 dX11_at_23 rfl hl (by decide) rfl (fun ls hl => ?_)
  refine lv_iinc (v := x3 + 1) (lv' := [(3, .int (x3 + 1)), (2, .int (x2 - ((x0 >>> (x3 &&& 31)) &&& 1))), (0, .int x0)]) K.1 K.2.1 dX11_at_24 hl (k := 2) rfl rfl (by decide) rfl (fun ls hl => ?_)
  refine lv_goto (tgt := 4) K.1 K.2.1 dX11_at_27 (by decide) ?_
  exact hk4 x0 (x2 - ((x0 >>> (x3 &&& 31)) &&& 1)) (x3 + 1) _ _ _ hG hL (lv_sub hl [2, 1, 0] rfl) _ hf
def fX11_at_4_b   (k4 : Int32 → Int32 → Int32 → Option (Int32)) (M : ah_h) (x0 : Int32) (x2 : Int32) (x3 : Int32) : Option (Int32) := if 0 < x2 then (fX11_at_16 k4 M x0 x2 x3) else (if ((x0 >>> (x3 &&& 31)) &&& 1) = 0 then (fX11_at_16 k4 M x0 x2 x3) else (some x3))
def fX11_at_4   (M : ah_h) : Nat → Int32 → Int32 → Int32 → Option (Int32)
  | 0 => fun _ _ _ => none
  | n + 1 => fun x0 x2 x3 => fX11_at_4_b   (fX11_at_4   M n) M x0 x2 x3
set_option maxRecDepth 100000 in
set_option maxHeartbeats 4000000 in
theorem wX11_at_4_b {p : Program} {l : Launch} {e : Env} {s : State} {m : MethodId} {args : Array Value} {below : List Frame} {meth : Method} {c : Code} {D : va_G} {ca : Nat → ClassId} {H0 : Heap} {M : ah_h} {z : Nat} (K : ah_K p s m args meth c D ca "ShipsThatMeetModel" cX11_at 4 (some .int))   (k4 : Int32 → Int32 → Int32 → Option (Int32)) (hk4 : ∀ (x0 : Int32) (x2 : Int32) (x3 : Int32)  (H : Heap) (locs : List Loc) (ls : Array Slot), ah_g H0 D ca M z H → ah_L H0 locs → lv_has ls 4 [(0, .int x0), (2, .int x2), (3, .int x3)] → ∀ Z, k4 x0 x2 x3 = some Z → W p l e { frames := 0, cells := 0, slots := 0, locals := 0 } s m args below meth c H locs 0 0 (ah_Q below args s H0 D ca 0 0 (some (.int Z)) M z) (F0 m 4 ls [])) : ∀ (x0 : Int32) (x2 : Int32) (x3 : Int32)  (H : Heap) (locs : List Loc) (ls : Array Slot), ah_g H0 D ca M z H → ah_L H0 locs → lv_has ls 4 [(0, .int x0), (2, .int x2), (3, .int x3)] → ∀ Z, fX11_at_4_b   k4 M x0 x2 x3 = some Z → W p l e { frames := 0, cells := 0, slots := 0, locals := 0 } s m args below meth c H locs 0 0 (ah_Q below args s H0 D ca 0 0 (some (.int Z)) M z) (F0 m 4 ls []) := by
  intro x0 x2 x3 H locs ls hG hL hl Z hf
  unfold fX11_at_4_b at hf
  refine lv_iload_n K.1 K.2.1 dX11_at_4 rfl (lv_at hl 1 rfl) ?_
  refine lv_if_gt (tgt := 16) K.1 K.2.1 dX11_at_5 (by decide) (fun h1 => ?_) (fun h1 => ?_)
  · rw [if_pos h1] at hf
    exact wX11_at_16 K k4 hk4 x0 x2 x3 _ _ _ hG hL (lv_sub hl [0, 1, 2] rfl) _ hf
  · rw [if_neg h1] at hf
    refine lv_iload_n K.1 K.2.1 dX11_at_8 rfl (lv_at hl 0 rfl) ?_
    refine lv_iload_n K.1 K.2.1 dX11_at_9 rfl (lv_at hl 2 rfl) ?_
    refine lv_ishr K.1 K.2.1 dX11_at_10 ?_
    refine lv_iconst (v := 1) K.1 K.2.1 dX11_at_11 (by decide) ?_
    refine lv_iand K.1 K.2.1 dX11_at_12 ?_
    refine lv_if_ne (tgt := 30) K.1 K.2.1 dX11_at_13 (by decide) (fun h2 => ?_) (fun h2 => ?_)
    · rw [if_neg h2] at hf
      refine lv_iload_n K.1 K.2.1 dX11_at_30 rfl (lv_at hl 2 rfl) ?_
      have hf := Option.some.inj hf
      subst hf
      exact ah_iret K hG hL (Nat.le_refl _) (Nat.le_refl _) dX11_at_31
    · rw [if_pos h2] at hf
      exact wX11_at_16 K k4 hk4 x0 x2 x3 _ _ _ hG hL (lv_sub hl [0, 1, 2] rfl) _ hf
theorem wX11_at_4 {p : Program} {l : Launch} {e : Env} {s : State} {m : MethodId} {args : Array Value} {below : List Frame} {meth : Method} {c : Code} {D : va_G} {ca : Nat → ClassId} {H0 : Heap} {M : ah_h} {z : Nat} (K : ah_K p s m args meth c D ca "ShipsThatMeetModel" cX11_at 4 (some .int))   (n : Nat) : ∀ (x0 : Int32) (x2 : Int32) (x3 : Int32)  (H : Heap) (locs : List Loc) (ls : Array Slot), ah_g H0 D ca M z H → ah_L H0 locs → lv_has ls 4 [(0, .int x0), (2, .int x2), (3, .int x3)] → ∀ Z, fX11_at_4   M n x0 x2 x3 = some Z → W p l e { frames := 0, cells := 0, slots := 0, locals := 0 } s m args below meth c H locs 0 0 (ah_Q below args s H0 D ca 0 0 (some (.int Z)) M z) (F0 m 4 ls []) := by
  induction n with
  | zero => intro x0 x2 x3 H locs ls hG hL hl Z hf; cases hf
  | succ n ih => exact wX11_at_4_b K  _ ih
def fX11_at (M : ah_h) (x0 : Int32) (x1 : Int32) : Option (Int32) := fX11_at_4 M ah_fu x0 x1 0
set_option maxRecDepth 100000 in
set_option maxHeartbeats 4000000 in
theorem ctX11_at (l : Launch) (H0 : Heap) (D : va_G) (ca : Nat → ClassId) (M : ah_h) (z : Nat) (x0 : Int32) (x1 : Int32) (Z : Int32) (hf : fX11_at M x0 x1 = some Z) : ah_ct l H0 D ca yX11_at cX11_at 4 (some .int) 0 0 0 0 [.int x0, .int x1] M z (some (.int Z)) M z := by
  refine ah_of (by decide) (Nat.le_of_ble_eq_true rfl) ?_
  intro p e s m below meth c ls hin K hG hl
  have hL : ah_L H0 [] := ah_L.nil
  have hl : lv_has ls 4 [(0, .int x0), (1, .int x1)] := hl
  unfold fX11_at at hf
  refine lv_iload_n K.1 K.2.1 dX11_at_0 rfl (lv_at hl 1 rfl) ?_
  refine lv_istore_n (lv' := [(2, .int x1), (0, .int x0), (1, .int x1)]) K.1 K.2.1 dX11_at_1 rfl hl (by decide) rfl (fun ls hl => ?_)
  refine lv_iconst (v := 0) K.1 K.2.1 dX11_at_2 (by decide) ?_
  refine lv_istore_n (lv' := [(3, .int 0), (2, .int x1), (0, .int x0), (1, .int x1)]) K.1 K.2.1 dX11_at_3 rfl hl (by decide) rfl (fun ls hl => ?_)
  exact wX11_at_4 K  ah_fu x0 x1 0 _ _ _ hG hL (lv_sub hl [2, 1, 0] rfl) _ hf
def fX11_bySince_75  (k6 : Nat → Int32 → Int32 → Int32 → Int32 → Option (Int32)) (M : ah_h) (a0 : Nat) (x1 : Int32) (x2 : Int32) (x3 : Int32) (x4 : Int32) : Option (Int32) := k6 a0 x1 x2 x3 (x4 + 1)
set_option maxRecDepth 100000 in
set_option maxHeartbeats 4000000 in
theorem wX11_bySince_75 {p : Program} {l : Launch} {e : Env} {s : State} {m : MethodId} {args : Array Value} {below : List Frame} {meth : Method} {c : Code} {D : va_G} {ca : Nat → ClassId} {H0 : Heap} {M : ah_h} {z : Nat} (K : ah_K p s m args meth c D ca "ShipsThatMeetModel" cX11_bySince 5 (some .int))  (k6 : Nat → Int32 → Int32 → Int32 → Int32 → Option (Int32)) (hk6 : ∀ (a0 : Nat) (x1 : Int32) (x2 : Int32) (x3 : Int32) (x4 : Int32)  (H : Heap) (locs : List Loc) (ls : Array Slot), ah_g H0 D ca M z H → ah_L H0 locs → lv_has ls 5 [(0, .ref a0), (1, .int x1), (2, .int x2), (3, .int x3), (4, .int x4)] → ∀ Z, k6 a0 x1 x2 x3 x4 = some Z → W p l e { frames := 1, cells := 0, slots := 0, locals := 22 } s m args below meth c H locs 0 0 (ah_Q below args s H0 D ca 0 0 (some (.int Z)) M z) (F0 m 6 ls [])) : ∀ (a0 : Nat) (x1 : Int32) (x2 : Int32) (x3 : Int32) (x4 : Int32)  (H : Heap) (locs : List Loc) (ls : Array Slot), ah_g H0 D ca M z H → ah_L H0 locs → lv_has ls 5 [(0, .ref a0), (1, .int x1), (2, .int x2), (3, .int x3), (4, .int x4)] → ∀ Z, fX11_bySince_75  k6 M a0 x1 x2 x3 x4 = some Z → W p l e { frames := 1, cells := 0, slots := 0, locals := 22 } s m args below meth c H locs 0 0 (ah_Q below args s H0 D ca 0 0 (some (.int Z)) M z) (F0 m 75 ls []) := by
  intro a0 x1 x2 x3 x4 H locs ls hG hL hl Z hf
  unfold fX11_bySince_75 at hf
  refine lv_iinc (v := x4 + 1) (lv' := [(4, .int (x4 + 1)), (0, .ref a0), (1, .int x1), (2, .int x2), (3, .int x3)]) K.1 K.2.1 dX11_bySince_75 hl (k := 4) rfl rfl (by decide) rfl (fun ls hl => ?_)
  refine lv_goto (tgt := 6) K.1 K.2.1 dX11_bySince_78 (by decide) ?_
  exact hk6 a0 x1 x2 x3 (x4 + 1) _ _ _ hG hL (lv_sub hl [1, 2, 3, 4, 0] rfl) _ hf
def fX11_bySince_72  (k6 : Nat → Int32 → Int32 → Int32 → Int32 → Option (Int32)) (M : ah_h) (a0 : Nat) (x1 : Int32) (x2 : Int32) (x4 : Int32) : Option (Int32) := fX11_bySince_75 k6 M a0 x1 x2 x4 x4
set_option maxRecDepth 100000 in
set_option maxHeartbeats 4000000 in
theorem wX11_bySince_72 {p : Program} {l : Launch} {e : Env} {s : State} {m : MethodId} {args : Array Value} {below : List Frame} {meth : Method} {c : Code} {D : va_G} {ca : Nat → ClassId} {H0 : Heap} {M : ah_h} {z : Nat} (K : ah_K p s m args meth c D ca "ShipsThatMeetModel" cX11_bySince 5 (some .int))  (k6 : Nat → Int32 → Int32 → Int32 → Int32 → Option (Int32)) (hk6 : ∀ (a0 : Nat) (x1 : Int32) (x2 : Int32) (x3 : Int32) (x4 : Int32)  (H : Heap) (locs : List Loc) (ls : Array Slot), ah_g H0 D ca M z H → ah_L H0 locs → lv_has ls 5 [(0, .ref a0), (1, .int x1), (2, .int x2), (3, .int x3), (4, .int x4)] → ∀ Z, k6 a0 x1 x2 x3 x4 = some Z → W p l e { frames := 1, cells := 0, slots := 0, locals := 22 } s m args below meth c H locs 0 0 (ah_Q below args s H0 D ca 0 0 (some (.int Z)) M z) (F0 m 6 ls [])) : ∀ (a0 : Nat) (x1 : Int32) (x2 : Int32) (x4 : Int32)  (H : Heap) (locs : List Loc) (ls : Array Slot), ah_g H0 D ca M z H → ah_L H0 locs → lv_has ls 5 [(0, .ref a0), (1, .int x1), (2, .int x2), (4, .int x4)] → ∀ Z, fX11_bySince_72  k6 M a0 x1 x2 x4 = some Z → W p l e { frames := 1, cells := 0, slots := 0, locals := 22 } s m args below meth c H locs 0 0 (ah_Q below args s H0 D ca 0 0 (some (.int Z)) M z) (F0 m 72 ls []) := by
  intro a0 x1 x2 x4 H locs ls hG hL hl Z hf
  unfold fX11_bySince_72 at hf
  refine lv_iload K.1 K.2.1 dX11_bySince_72 (lv_at hl 3 rfl) ?_
  refine lv_istore_n (lv' := [(3, .int x4), (0, .ref a0), (1, .int x1), (2, .int x2), (4, .int x4)]) K.1 K.2.1 dX11_bySince_74 rfl hl (by decide) rfl (fun ls hl => ?_)
  exact wX11_bySince_75 K k6 hk6 a0 x1 x2 x4 x4 _ _ _ hG hL (lv_sub hl [1, 2, 3, 0, 4] rfl) _ hf
def fX11_bySince_6_b   (k6 : Nat → Int32 → Int32 → Int32 → Int32 → Option (Int32)) (M : ah_h) (a0 : Nat) (x1 : Int32) (x2 : Int32) (x3 : Int32) (x4 : Int32) : Option (Int32) := (ah_gr M a0 11 0).bind fun v1 => (ah_ai M v1 1).bind fun v2 => if v2 ≤ x4 then (some x3) else (if ((x1 >>> (x4 &&& 31)) &&& 1) = 0 then (fX11_bySince_75 k6 M a0 x1 x2 x3 x4) else (if x3 < 0 then (fX11_bySince_72 k6 M a0 x1 x2 x4) else (if x2 = 0 then ((fX11_get M a0 x4 3).bind fun v7 => (fX11_get M a0 x3 3).bind fun v9 => if v9 ≤ v7 then (fX11_bySince_75 k6 M a0 x1 x2 x3 x4) else (fX11_bySince_72 k6 M a0 x1 x2 x4)) else ((fX11_get M a0 x4 3).bind fun v12 => (fX11_get M a0 x3 3).bind fun v14 => if v12 < v14 then (fX11_bySince_75 k6 M a0 x1 x2 x3 x4) else (fX11_bySince_72 k6 M a0 x1 x2 x4)))))
def fX11_bySince_6   (M : ah_h) : Nat → Nat → Int32 → Int32 → Int32 → Int32 → Option (Int32)
  | 0 => fun _ _ _ _ _ => none
  | n + 1 => fun a0 x1 x2 x3 x4 => fX11_bySince_6_b   (fX11_bySince_6   M n) M a0 x1 x2 x3 x4
set_option maxRecDepth 100000 in
set_option maxHeartbeats 4000000 in
theorem wX11_bySince_6_b {p : Program} {l : Launch} {e : Env} {s : State} {m : MethodId} {args : Array Value} {below : List Frame} {meth : Method} {c : Code} {D : va_G} {ca : Nat → ClassId} {H0 : Heap} {M : ah_h} {z : Nat} (K : ah_K p s m args meth c D ca "ShipsThatMeetModel" cX11_bySince 5 (some .int))   (k6 : Nat → Int32 → Int32 → Int32 → Int32 → Option (Int32)) (hk6 : ∀ (a0 : Nat) (x1 : Int32) (x2 : Int32) (x3 : Int32) (x4 : Int32)  (H : Heap) (locs : List Loc) (ls : Array Slot), ah_g H0 D ca M z H → ah_L H0 locs → lv_has ls 5 [(0, .ref a0), (1, .int x1), (2, .int x2), (3, .int x3), (4, .int x4)] → ∀ Z, k6 a0 x1 x2 x3 x4 = some Z → W p l e { frames := 1, cells := 0, slots := 0, locals := 22 } s m args below meth c H locs 0 0 (ah_Q below args s H0 D ca 0 0 (some (.int Z)) M z) (F0 m 6 ls [])) : ∀ (a0 : Nat) (x1 : Int32) (x2 : Int32) (x3 : Int32) (x4 : Int32)  (H : Heap) (locs : List Loc) (ls : Array Slot), ah_g H0 D ca M z H → ah_L H0 locs → lv_has ls 5 [(0, .ref a0), (1, .int x1), (2, .int x2), (3, .int x3), (4, .int x4)] → ∀ Z, fX11_bySince_6_b   k6 M a0 x1 x2 x3 x4 = some Z → W p l e { frames := 1, cells := 0, slots := 0, locals := 22 } s m args below meth c H locs 0 0 (ah_Q below args s H0 D ca 0 0 (some (.int Z)) M z) (F0 m 6 ls []) := by
  intro a0 x1 x2 x3 x4 H locs ls hG hL hl Z hf
  unfold fX11_bySince_6_b at hf
  refine lv_iload K.1 K.2.1 dX11_bySince_6 (lv_at hl 4 rfl) ?_
  refine lv_aload_n K.1 K.2.1 dX11_bySince_8 rfl (lv_at hl 0 rfl) ?_
  obtain ⟨v1, ev1, hf⟩ := Option.bind_eq_some_iff.mp hf
  refine ah_getr K hG ev1 ffX11_9_11 dX11_bySince_9 ?_
  refine lv_iconst (v := 1) K.1 K.2.1 dX11_bySince_12 (by decide) ?_
  obtain ⟨v2, ev2, hf⟩ := Option.bind_eq_some_iff.mp hf
  refine ah_iald K hG ev2 dX11_bySince_13 ?_
  refine lv_icmp_ge (tgt := 81) K.1 K.2.1 dX11_bySince_14 (by decide) (fun h3 => ?_) (fun h3 => ?_)
  · rw [if_pos h3] at hf
    refine lv_iload_n K.1 K.2.1 dX11_bySince_81 rfl (lv_at hl 3 rfl) ?_
    have hf := Option.some.inj hf
    subst hf
    exact ah_iret K hG hL (Nat.le_refl _) (Nat.le_refl _) dX11_bySince_82
  · rw [if_neg h3] at hf
    refine lv_iload_n K.1 K.2.1 dX11_bySince_17 rfl (lv_at hl 1 rfl) ?_
    refine lv_iload K.1 K.2.1 dX11_bySince_18 (lv_at hl 4 rfl) ?_
    refine lv_ishr K.1 K.2.1 dX11_bySince_20 ?_
    refine lv_iconst (v := 1) K.1 K.2.1 dX11_bySince_21 (by decide) ?_
    refine lv_iand K.1 K.2.1 dX11_bySince_22 ?_
    refine lv_if_ne (tgt := 29) K.1 K.2.1 dX11_bySince_23 (by decide) (fun h4 => ?_) (fun h4 => ?_)
    · rw [if_neg h4] at hf
      refine lv_iload_n K.1 K.2.1 dX11_bySince_29 rfl (lv_at hl 3 rfl) ?_
      refine lv_if_lt (tgt := 72) K.1 K.2.1 dX11_bySince_30 (by decide) (fun h5 => ?_) (fun h5 => ?_)
      · rw [if_pos h5] at hf
        exact wX11_bySince_72 K k6 hk6 a0 x1 x2 x4 _ _ _ hG hL (lv_sub hl [0, 1, 2, 4] rfl) _ hf
      · rw [if_neg h5] at hf
        refine lv_iload_n K.1 K.2.1 dX11_bySince_33 rfl (lv_at hl 2 rfl) ?_
        refine lv_if_eq (tgt := 56) K.1 K.2.1 dX11_bySince_34 (by decide) (fun h6 => ?_) (fun h6 => ?_)
        · rw [if_pos h6] at hf
          refine lv_aload_n K.1 K.2.1 dX11_bySince_56 rfl (lv_at hl 0 rfl) ?_
          refine lv_iload K.1 K.2.1 dX11_bySince_57 (lv_at hl 4 rfl) ?_
          refine lv_iconst (v := 3) K.1 K.2.1 dX11_bySince_59 (by decide) ?_
          obtain ⟨v7, ev7, hf⟩ := Option.bind_eq_some_iff.mp hf
          obtain ⟨q8, eq8⟩ := ah_this ev7
          refine ah_callV (As := [.int x4, .int 3]) (rest := []) K hG hL hl.1 eq8 rfl (ctX11_get l H0 D ca M z a0 x4 3 v7 ev7) hdX11_get q_1012 q_1014 q_54 q_1015 q_20 ⟨Nat.le_of_ble_eq_true rfl, Nat.le_of_ble_eq_true rfl⟩ rfl rfl (Nat.le_of_ble_eq_true rfl) ⟨Nat.le_refl _, Nat.le_refl _⟩ dX11_bySince_60 (fun H locs hG hL => ?_)
          refine lv_aload_n K.1 K.2.1 dX11_bySince_63 rfl (lv_at hl 0 rfl) ?_
          refine lv_iload_n K.1 K.2.1 dX11_bySince_64 rfl (lv_at hl 3 rfl) ?_
          refine lv_iconst (v := 3) K.1 K.2.1 dX11_bySince_65 (by decide) ?_
          obtain ⟨v9, ev9, hf⟩ := Option.bind_eq_some_iff.mp hf
          obtain ⟨q10, eq10⟩ := ah_this ev9
          refine ah_callV (As := [.int x3, .int 3]) (rest := [.int v7]) K hG hL hl.1 eq10 rfl (ctX11_get l H0 D ca M z a0 x3 3 v9 ev9) hdX11_get q_1012 q_1014 q_54 q_1015 q_20 ⟨Nat.le_of_ble_eq_true rfl, Nat.le_of_ble_eq_true rfl⟩ rfl rfl (Nat.le_of_ble_eq_true rfl) ⟨Nat.le_refl _, Nat.le_refl _⟩ dX11_bySince_66 (fun H locs hG hL => ?_)
          refine lv_icmp_ge (tgt := 75) K.1 K.2.1 dX11_bySince_69 (by decide) (fun h11 => ?_) (fun h11 => ?_)
          · rw [if_pos h11] at hf
            exact wX11_bySince_75 K k6 hk6 a0 x1 x2 x3 x4 _ _ _ hG hL (lv_sub hl [0, 1, 2, 3, 4] rfl) _ hf
          · rw [if_neg h11] at hf
            exact wX11_bySince_72 K k6 hk6 a0 x1 x2 x4 _ _ _ hG hL (lv_sub hl [0, 1, 2, 4] rfl) _ hf
        · rw [if_neg h6] at hf
          refine lv_aload_n K.1 K.2.1 dX11_bySince_37 rfl (lv_at hl 0 rfl) ?_
          refine lv_iload K.1 K.2.1 dX11_bySince_38 (lv_at hl 4 rfl) ?_
          refine lv_iconst (v := 3) K.1 K.2.1 dX11_bySince_40 (by decide) ?_
          obtain ⟨v12, ev12, hf⟩ := Option.bind_eq_some_iff.mp hf
          obtain ⟨q13, eq13⟩ := ah_this ev12
          refine ah_callV (As := [.int x4, .int 3]) (rest := []) K hG hL hl.1 eq13 rfl (ctX11_get l H0 D ca M z a0 x4 3 v12 ev12) hdX11_get q_1012 q_1014 q_54 q_1015 q_20 ⟨Nat.le_of_ble_eq_true rfl, Nat.le_of_ble_eq_true rfl⟩ rfl rfl (Nat.le_of_ble_eq_true rfl) ⟨Nat.le_refl _, Nat.le_refl _⟩ dX11_bySince_41 (fun H locs hG hL => ?_)
          refine lv_aload_n K.1 K.2.1 dX11_bySince_44 rfl (lv_at hl 0 rfl) ?_
          refine lv_iload_n K.1 K.2.1 dX11_bySince_45 rfl (lv_at hl 3 rfl) ?_
          refine lv_iconst (v := 3) K.1 K.2.1 dX11_bySince_46 (by decide) ?_
          obtain ⟨v14, ev14, hf⟩ := Option.bind_eq_some_iff.mp hf
          obtain ⟨q15, eq15⟩ := ah_this ev14
          refine ah_callV (As := [.int x3, .int 3]) (rest := [.int v12]) K hG hL hl.1 eq15 rfl (ctX11_get l H0 D ca M z a0 x3 3 v14 ev14) hdX11_get q_1012 q_1014 q_54 q_1015 q_20 ⟨Nat.le_of_ble_eq_true rfl, Nat.le_of_ble_eq_true rfl⟩ rfl rfl (Nat.le_of_ble_eq_true rfl) ⟨Nat.le_refl _, Nat.le_refl _⟩ dX11_bySince_47 (fun H locs hG hL => ?_)
          refine lv_icmp_lt (tgt := 75) K.1 K.2.1 dX11_bySince_50 (by decide) (fun h16 => ?_) (fun h16 => ?_)
          · rw [if_pos h16] at hf
            exact wX11_bySince_75 K k6 hk6 a0 x1 x2 x3 x4 _ _ _ hG hL (lv_sub hl [0, 1, 2, 3, 4] rfl) _ hf
          · rw [if_neg h16] at hf
            refine lv_goto (tgt := 72) K.1 K.2.1 dX11_bySince_53 (by decide) ?_
            exact wX11_bySince_72 K k6 hk6 a0 x1 x2 x4 _ _ _ hG hL (lv_sub hl [0, 1, 2, 4] rfl) _ hf
    · rw [if_pos h4] at hf
      refine lv_goto (tgt := 75) K.1 K.2.1 dX11_bySince_26 (by decide) ?_
      exact wX11_bySince_75 K k6 hk6 a0 x1 x2 x3 x4 _ _ _ hG hL (lv_sub hl [0, 1, 2, 3, 4] rfl) _ hf
theorem wX11_bySince_6 {p : Program} {l : Launch} {e : Env} {s : State} {m : MethodId} {args : Array Value} {below : List Frame} {meth : Method} {c : Code} {D : va_G} {ca : Nat → ClassId} {H0 : Heap} {M : ah_h} {z : Nat} (K : ah_K p s m args meth c D ca "ShipsThatMeetModel" cX11_bySince 5 (some .int))   (n : Nat) : ∀ (a0 : Nat) (x1 : Int32) (x2 : Int32) (x3 : Int32) (x4 : Int32)  (H : Heap) (locs : List Loc) (ls : Array Slot), ah_g H0 D ca M z H → ah_L H0 locs → lv_has ls 5 [(0, .ref a0), (1, .int x1), (2, .int x2), (3, .int x3), (4, .int x4)] → ∀ Z, fX11_bySince_6   M n a0 x1 x2 x3 x4 = some Z → W p l e { frames := 1, cells := 0, slots := 0, locals := 22 } s m args below meth c H locs 0 0 (ah_Q below args s H0 D ca 0 0 (some (.int Z)) M z) (F0 m 6 ls []) := by
  induction n with
  | zero => intro a0 x1 x2 x3 x4 H locs ls hG hL hl Z hf; cases hf
  | succ n ih => exact wX11_bySince_6_b K  _ ih
def fX11_bySince (M : ah_h) (a0 : Nat) (x1 : Int32) (x2 : Int32) : Option (Int32) := (ah_ob M a0 11).bind fun _ => fX11_bySince_6 M ah_fu a0 x1 x2 (-4) 0
set_option maxRecDepth 100000 in
set_option maxHeartbeats 4000000 in
theorem ctX11_bySince (l : Launch) (H0 : Heap) (D : va_G) (ca : Nat → ClassId) (M : ah_h) (z : Nat) (a0 : Nat) (x1 : Int32) (x2 : Int32) (Z : Int32) (hf : fX11_bySince M a0 x1 x2 = some Z) : ah_ct l H0 D ca yX11_bySince cX11_bySince 5 (some .int) 1 22 0 0 [.ref a0, .int x1, .int x2] M z (some (.int Z)) M z := by
  refine ah_of (by decide) (Nat.le_of_ble_eq_true rfl) ?_
  intro p e s m below meth c ls hin K hG hl
  have hL : ah_L H0 [] := ah_L.nil
  have hl : lv_has ls 5 [(0, .ref a0), (1, .int x1), (2, .int x2)] := hl
  unfold fX11_bySince at hf
  obtain ⟨-, -, hf⟩ := Option.bind_eq_some_iff.mp hf
  refine lv_bipush (v := (-4)) K.1 K.2.1 dX11_bySince_0 (by decide) ?_
  refine lv_istore_n (lv' := [(3, .int (-4)), (0, .ref a0), (1, .int x1), (2, .int x2)]) K.1 K.2.1 dX11_bySince_2 rfl hl (by decide) rfl (fun ls hl => ?_)
  refine lv_iconst (v := 0) K.1 K.2.1 dX11_bySince_3 (by decide) ?_
  refine lv_istore (lv' := [(4, .int 0), (3, .int (-4)), (0, .ref a0), (1, .int x1), (2, .int x2)]) K.1 K.2.1 dX11_bySince_4 hl (by decide) rfl (fun ls hl => ?_)
  exact wX11_bySince_6 K  ah_fu a0 x1 x2 (-4) 0 _ _ _ hG hL (lv_sub hl [2, 3, 4, 1, 0] rfl) _ hf
def fX11_notOf_44  (k5 : Nat → Int32 → Int32 → Int32 → Int32 → Option (Int32)) (M : ah_h) (a0 : Nat) (x1 : Int32) (x2 : Int32) (x3 : Int32) (x4 : Int32) : Option (Int32) := k5 a0 x1 x2 x3 (x4 + 1)
set_option maxRecDepth 100000 in
set_option maxHeartbeats 4000000 in
theorem wX11_notOf_44 {p : Program} {l : Launch} {e : Env} {s : State} {m : MethodId} {args : Array Value} {below : List Frame} {meth : Method} {c : Code} {D : va_G} {ca : Nat → ClassId} {H0 : Heap} {M : ah_h} {z : Nat} (K : ah_K p s m args meth c D ca "ShipsThatMeetModel" cX11_notOf 5 (some .int))  (k5 : Nat → Int32 → Int32 → Int32 → Int32 → Option (Int32)) (hk5 : ∀ (a0 : Nat) (x1 : Int32) (x2 : Int32) (x3 : Int32) (x4 : Int32)  (H : Heap) (locs : List Loc) (ls : Array Slot), ah_g H0 D ca M z H → ah_L H0 locs → lv_has ls 5 [(0, .ref a0), (1, .int x1), (2, .int x2), (3, .int x3), (4, .int x4)] → ∀ Z, k5 a0 x1 x2 x3 x4 = some Z → W p l e { frames := 1, cells := 0, slots := 0, locals := 22 } s m args below meth c H locs 0 0 (ah_Q below args s H0 D ca 0 0 (some (.int Z)) M z) (F0 m 5 ls [])) : ∀ (a0 : Nat) (x1 : Int32) (x2 : Int32) (x3 : Int32) (x4 : Int32)  (H : Heap) (locs : List Loc) (ls : Array Slot), ah_g H0 D ca M z H → ah_L H0 locs → lv_has ls 5 [(0, .ref a0), (1, .int x1), (2, .int x2), (3, .int x3), (4, .int x4)] → ∀ Z, fX11_notOf_44  k5 M a0 x1 x2 x3 x4 = some Z → W p l e { frames := 1, cells := 0, slots := 0, locals := 22 } s m args below meth c H locs 0 0 (ah_Q below args s H0 D ca 0 0 (some (.int Z)) M z) (F0 m 44 ls []) := by
  intro a0 x1 x2 x3 x4 H locs ls hG hL hl Z hf
  unfold fX11_notOf_44 at hf
  refine lv_iinc (v := x4 + 1) (lv' := [(4, .int (x4 + 1)), (0, .ref a0), (1, .int x1), (2, .int x2), (3, .int x3)]) K.1 K.2.1 dX11_notOf_44 hl (k := 4) rfl rfl (by decide) rfl (fun ls hl => ?_)
  refine lv_goto (tgt := 5) K.1 K.2.1 dX11_notOf_47 (by decide) ?_
  exact hk5 a0 x1 x2 x3 (x4 + 1) _ _ _ hG hL (lv_sub hl [1, 2, 3, 4, 0] rfl) _ hf
def fX11_notOf_5_b   (k5 : Nat → Int32 → Int32 → Int32 → Int32 → Option (Int32)) (M : ah_h) (a0 : Nat) (x1 : Int32) (x2 : Int32) (x3 : Int32) (x4 : Int32) : Option (Int32) := (ah_gr M a0 11 0).bind fun v1 => (ah_ai M v1 1).bind fun v2 => if v2 ≤ x4 then (some x3) else (if ((x1 >>> (x4 &&& 31)) &&& 1) = 1 then ((fX11_get M a0 x4 1).bind fun v5 => if v5 = x2 then (fX11_notOf_44 k5 M a0 x1 x2 x3 x4) else (fX11_notOf_44 k5 M a0 x1 x2 (x3 ||| ((1 : Int32) <<< (x4 &&& 31))) x4)) else (fX11_notOf_44 k5 M a0 x1 x2 x3 x4))
def fX11_notOf_5   (M : ah_h) : Nat → Nat → Int32 → Int32 → Int32 → Int32 → Option (Int32)
  | 0 => fun _ _ _ _ _ => none
  | n + 1 => fun a0 x1 x2 x3 x4 => fX11_notOf_5_b   (fX11_notOf_5   M n) M a0 x1 x2 x3 x4
set_option maxRecDepth 100000 in
set_option maxHeartbeats 4000000 in
theorem wX11_notOf_5_b {p : Program} {l : Launch} {e : Env} {s : State} {m : MethodId} {args : Array Value} {below : List Frame} {meth : Method} {c : Code} {D : va_G} {ca : Nat → ClassId} {H0 : Heap} {M : ah_h} {z : Nat} (K : ah_K p s m args meth c D ca "ShipsThatMeetModel" cX11_notOf 5 (some .int))   (k5 : Nat → Int32 → Int32 → Int32 → Int32 → Option (Int32)) (hk5 : ∀ (a0 : Nat) (x1 : Int32) (x2 : Int32) (x3 : Int32) (x4 : Int32)  (H : Heap) (locs : List Loc) (ls : Array Slot), ah_g H0 D ca M z H → ah_L H0 locs → lv_has ls 5 [(0, .ref a0), (1, .int x1), (2, .int x2), (3, .int x3), (4, .int x4)] → ∀ Z, k5 a0 x1 x2 x3 x4 = some Z → W p l e { frames := 1, cells := 0, slots := 0, locals := 22 } s m args below meth c H locs 0 0 (ah_Q below args s H0 D ca 0 0 (some (.int Z)) M z) (F0 m 5 ls [])) : ∀ (a0 : Nat) (x1 : Int32) (x2 : Int32) (x3 : Int32) (x4 : Int32)  (H : Heap) (locs : List Loc) (ls : Array Slot), ah_g H0 D ca M z H → ah_L H0 locs → lv_has ls 5 [(0, .ref a0), (1, .int x1), (2, .int x2), (3, .int x3), (4, .int x4)] → ∀ Z, fX11_notOf_5_b   k5 M a0 x1 x2 x3 x4 = some Z → W p l e { frames := 1, cells := 0, slots := 0, locals := 22 } s m args below meth c H locs 0 0 (ah_Q below args s H0 D ca 0 0 (some (.int Z)) M z) (F0 m 5 ls []) := by
  intro a0 x1 x2 x3 x4 H locs ls hG hL hl Z hf
  unfold fX11_notOf_5_b at hf
  refine lv_iload K.1 K.2.1 dX11_notOf_5 (lv_at hl 4 rfl) ?_
  refine lv_aload_n K.1 K.2.1 dX11_notOf_7 rfl (lv_at hl 0 rfl) ?_
  obtain ⟨v1, ev1, hf⟩ := Option.bind_eq_some_iff.mp hf
  refine ah_getr K hG ev1 ffX11_9_11 dX11_notOf_8 ?_
  refine lv_iconst (v := 1) K.1 K.2.1 dX11_notOf_11 (by decide) ?_
  obtain ⟨v2, ev2, hf⟩ := Option.bind_eq_some_iff.mp hf
  refine ah_iald K hG ev2 dX11_notOf_12 ?_
  refine lv_icmp_ge (tgt := 50) K.1 K.2.1 dX11_notOf_13 (by decide) (fun h3 => ?_) (fun h3 => ?_)
  · rw [if_pos h3] at hf
    refine lv_iload_n K.1 K.2.1 dX11_notOf_50 rfl (lv_at hl 3 rfl) ?_
    have hf := Option.some.inj hf
    subst hf
    exact ah_iret K hG hL (Nat.le_refl _) (Nat.le_refl _) dX11_notOf_51
  · rw [if_neg h3] at hf
    refine lv_iload_n K.1 K.2.1 dX11_notOf_16 rfl (lv_at hl 1 rfl) ?_
    refine lv_iload K.1 K.2.1 dX11_notOf_17 (lv_at hl 4 rfl) ?_
    refine lv_ishr K.1 K.2.1 dX11_notOf_19 ?_
    refine lv_iconst (v := 1) K.1 K.2.1 dX11_notOf_20 (by decide) ?_
    refine lv_iand K.1 K.2.1 dX11_notOf_21 ?_
    refine lv_iconst (v := 1) K.1 K.2.1 dX11_notOf_22 (by decide) ?_
    refine lv_icmp_ne (tgt := 44) K.1 K.2.1 dX11_notOf_23 (by decide) (fun h4 => ?_) (fun h4 => ?_)
    · rw [if_neg h4] at hf
      exact wX11_notOf_44 K k5 hk5 a0 x1 x2 x3 x4 _ _ _ hG hL (lv_sub hl [0, 1, 2, 3, 4] rfl) _ hf
    · rw [if_pos h4] at hf
      refine lv_aload_n K.1 K.2.1 dX11_notOf_26 rfl (lv_at hl 0 rfl) ?_
      refine lv_iload K.1 K.2.1 dX11_notOf_27 (lv_at hl 4 rfl) ?_
      refine lv_iconst (v := 1) K.1 K.2.1 dX11_notOf_29 (by decide) ?_
      obtain ⟨v5, ev5, hf⟩ := Option.bind_eq_some_iff.mp hf
      obtain ⟨q6, eq6⟩ := ah_this ev5
      refine ah_callV (As := [.int x4, .int 1]) (rest := []) K hG hL hl.1 eq6 rfl (ctX11_get l H0 D ca M z a0 x4 1 v5 ev5) hdX11_get q_1012 q_1014 q_54 q_1015 q_20 ⟨Nat.le_of_ble_eq_true rfl, Nat.le_of_ble_eq_true rfl⟩ rfl rfl (Nat.le_of_ble_eq_true rfl) ⟨Nat.le_refl _, Nat.le_refl _⟩ dX11_notOf_30 (fun H locs hG hL => ?_)
      refine lv_iload_n K.1 K.2.1 dX11_notOf_33 rfl (lv_at hl 2 rfl) ?_
      refine lv_icmp_eq (tgt := 44) K.1 K.2.1 dX11_notOf_34 (by decide) (fun h7 => ?_) (fun h7 => ?_)
      · rw [if_pos h7] at hf
        exact wX11_notOf_44 K k5 hk5 a0 x1 x2 x3 x4 _ _ _ hG hL (lv_sub hl [0, 1, 2, 3, 4] rfl) _ hf
      · rw [if_neg h7] at hf
        refine lv_iload_n K.1 K.2.1 dX11_notOf_37 rfl (lv_at hl 3 rfl) ?_
        refine lv_iconst (v := 1) K.1 K.2.1 dX11_notOf_38 (by decide) ?_
        refine lv_iload K.1 K.2.1 dX11_notOf_39 (lv_at hl 4 rfl) ?_
        refine lv_ishl K.1 K.2.1 dX11_notOf_41 ?_
        refine lv_ior K.1 K.2.1 dX11_notOf_42 ?_
        refine lv_istore_n (lv' := [(3, .int (x3 ||| ((1 : Int32) <<< (x4 &&& 31)))), (0, .ref a0), (1, .int x1), (2, .int x2), (4, .int x4)]) K.1 K.2.1 dX11_notOf_43 rfl hl (by decide) rfl (fun ls hl => ?_)
        exact wX11_notOf_44 K k5 hk5 a0 x1 x2 (x3 ||| ((1 : Int32) <<< (x4 &&& 31))) x4 _ _ _ hG hL (lv_sub hl [1, 2, 3, 0, 4] rfl) _ hf
theorem wX11_notOf_5 {p : Program} {l : Launch} {e : Env} {s : State} {m : MethodId} {args : Array Value} {below : List Frame} {meth : Method} {c : Code} {D : va_G} {ca : Nat → ClassId} {H0 : Heap} {M : ah_h} {z : Nat} (K : ah_K p s m args meth c D ca "ShipsThatMeetModel" cX11_notOf 5 (some .int))   (n : Nat) : ∀ (a0 : Nat) (x1 : Int32) (x2 : Int32) (x3 : Int32) (x4 : Int32)  (H : Heap) (locs : List Loc) (ls : Array Slot), ah_g H0 D ca M z H → ah_L H0 locs → lv_has ls 5 [(0, .ref a0), (1, .int x1), (2, .int x2), (3, .int x3), (4, .int x4)] → ∀ Z, fX11_notOf_5   M n a0 x1 x2 x3 x4 = some Z → W p l e { frames := 1, cells := 0, slots := 0, locals := 22 } s m args below meth c H locs 0 0 (ah_Q below args s H0 D ca 0 0 (some (.int Z)) M z) (F0 m 5 ls []) := by
  induction n with
  | zero => intro a0 x1 x2 x3 x4 H locs ls hG hL hl Z hf; cases hf
  | succ n ih => exact wX11_notOf_5_b K  _ ih
def fX11_notOf (M : ah_h) (a0 : Nat) (x1 : Int32) (x2 : Int32) : Option (Int32) := (ah_ob M a0 11).bind fun _ => fX11_notOf_5 M ah_fu a0 x1 x2 0 0
set_option maxRecDepth 100000 in
set_option maxHeartbeats 4000000 in
theorem ctX11_notOf (l : Launch) (H0 : Heap) (D : va_G) (ca : Nat → ClassId) (M : ah_h) (z : Nat) (a0 : Nat) (x1 : Int32) (x2 : Int32) (Z : Int32) (hf : fX11_notOf M a0 x1 x2 = some Z) : ah_ct l H0 D ca yX11_notOf cX11_notOf 5 (some .int) 1 22 0 0 [.ref a0, .int x1, .int x2] M z (some (.int Z)) M z := by
  refine ah_of (by decide) (Nat.le_of_ble_eq_true rfl) ?_
  intro p e s m below meth c ls hin K hG hl
  have hL : ah_L H0 [] := ah_L.nil
  have hl : lv_has ls 5 [(0, .ref a0), (1, .int x1), (2, .int x2)] := hl
  unfold fX11_notOf at hf
  obtain ⟨-, -, hf⟩ := Option.bind_eq_some_iff.mp hf
  refine lv_iconst (v := 0) K.1 K.2.1 dX11_notOf_0 (by decide) ?_
  refine lv_istore_n (lv' := [(3, .int 0), (0, .ref a0), (1, .int x1), (2, .int x2)]) K.1 K.2.1 dX11_notOf_1 rfl hl (by decide) rfl (fun ls hl => ?_)
  refine lv_iconst (v := 0) K.1 K.2.1 dX11_notOf_2 (by decide) ?_
  refine lv_istore (lv' := [(4, .int 0), (3, .int 0), (0, .ref a0), (1, .int x1), (2, .int x2)]) K.1 K.2.1 dX11_notOf_3 hl (by decide) rfl (fun ls hl => ?_)
  exact wX11_notOf_5 K  ah_fu a0 x1 x2 0 0 _ _ _ hG hL (lv_sub hl [2, 3, 4, 1, 0] rfl) _ hf
def fX11_likeTongue_48  (k5 : Nat → Int32 → Int32 → Int32 → Int32 → Option (Int32)) (M : ah_h) (a0 : Nat) (x1 : Int32) (x2 : Int32) (x4 : Int32) (s0 : Int32) (s1 : Int32) : Option (Int32) := k5 a0 x1 x2 (s0 + s1) (x4 + 1)
set_option maxRecDepth 100000 in
set_option maxHeartbeats 4000000 in
theorem wX11_likeTongue_48 {p : Program} {l : Launch} {e : Env} {s : State} {m : MethodId} {args : Array Value} {below : List Frame} {meth : Method} {c : Code} {D : va_G} {ca : Nat → ClassId} {H0 : Heap} {M : ah_h} {z : Nat} (K : ah_K p s m args meth c D ca "ShipsThatMeetModel" cX11_likeTongue 5 (some .int))  (k5 : Nat → Int32 → Int32 → Int32 → Int32 → Option (Int32)) (hk5 : ∀ (a0 : Nat) (x1 : Int32) (x2 : Int32) (x3 : Int32) (x4 : Int32)  (H : Heap) (locs : List Loc) (ls : Array Slot), ah_g H0 D ca M z H → ah_L H0 locs → lv_has ls 5 [(0, .ref a0), (1, .int x1), (2, .int x2), (3, .int x3), (4, .int x4)] → ∀ Z, k5 a0 x1 x2 x3 x4 = some Z → W p l e { frames := 1, cells := 0, slots := 0, locals := 22 } s m args below meth c H locs 0 0 (ah_Q below args s H0 D ca 0 0 (some (.int Z)) M z) (F0 m 5 ls [])) : ∀ (a0 : Nat) (x1 : Int32) (x2 : Int32) (x4 : Int32) (s0 : Int32) (s1 : Int32)  (H : Heap) (locs : List Loc) (ls : Array Slot), ah_g H0 D ca M z H → ah_L H0 locs → lv_has ls 5 [(0, .ref a0), (1, .int x1), (2, .int x2), (4, .int x4)] → ∀ Z, fX11_likeTongue_48  k5 M a0 x1 x2 x4 s0 s1 = some Z → W p l e { frames := 1, cells := 0, slots := 0, locals := 22 } s m args below meth c H locs 0 0 (ah_Q below args s H0 D ca 0 0 (some (.int Z)) M z) (F0 m 48 ls [.int s1, .int s0]) := by
  intro a0 x1 x2 x4 s0 s1 H locs ls hG hL hl Z hf
  unfold fX11_likeTongue_48 at hf
  refine lv_iadd K.1 K.2.1 dX11_likeTongue_48 ?_
  refine lv_istore_n (lv' := [(3, .int (s0 + s1)), (0, .ref a0), (1, .int x1), (2, .int x2), (4, .int x4)]) K.1 K.2.1 dX11_likeTongue_49 rfl hl (by decide) rfl (fun ls hl => ?_)
  refine lv_iinc (v := x4 + 1) (lv' := [(4, .int (x4 + 1)), (3, .int (s0 + s1)), (0, .ref a0), (1, .int x1), (2, .int x2)]) K.1 K.2.1 dX11_likeTongue_50 hl (k := 4) rfl rfl (by decide) rfl (fun ls hl => ?_)
  refine lv_goto (tgt := 5) K.1 K.2.1 dX11_likeTongue_53 (by decide) ?_
  exact hk5 a0 x1 x2 (s0 + s1) (x4 + 1) _ _ _ hG hL (lv_sub hl [2, 3, 4, 1, 0] rfl) _ hf
def fX11_likeTongue_47  (k5 : Nat → Int32 → Int32 → Int32 → Int32 → Option (Int32)) (M : ah_h) (a0 : Nat) (x1 : Int32) (x2 : Int32) (x4 : Int32) (s0 : Int32) : Option (Int32) := fX11_likeTongue_48 k5 M a0 x1 x2 x4 s0 0
set_option maxRecDepth 100000 in
set_option maxHeartbeats 4000000 in
theorem wX11_likeTongue_47 {p : Program} {l : Launch} {e : Env} {s : State} {m : MethodId} {args : Array Value} {below : List Frame} {meth : Method} {c : Code} {D : va_G} {ca : Nat → ClassId} {H0 : Heap} {M : ah_h} {z : Nat} (K : ah_K p s m args meth c D ca "ShipsThatMeetModel" cX11_likeTongue 5 (some .int))  (k5 : Nat → Int32 → Int32 → Int32 → Int32 → Option (Int32)) (hk5 : ∀ (a0 : Nat) (x1 : Int32) (x2 : Int32) (x3 : Int32) (x4 : Int32)  (H : Heap) (locs : List Loc) (ls : Array Slot), ah_g H0 D ca M z H → ah_L H0 locs → lv_has ls 5 [(0, .ref a0), (1, .int x1), (2, .int x2), (3, .int x3), (4, .int x4)] → ∀ Z, k5 a0 x1 x2 x3 x4 = some Z → W p l e { frames := 1, cells := 0, slots := 0, locals := 22 } s m args below meth c H locs 0 0 (ah_Q below args s H0 D ca 0 0 (some (.int Z)) M z) (F0 m 5 ls [])) : ∀ (a0 : Nat) (x1 : Int32) (x2 : Int32) (x4 : Int32) (s0 : Int32)  (H : Heap) (locs : List Loc) (ls : Array Slot), ah_g H0 D ca M z H → ah_L H0 locs → lv_has ls 5 [(0, .ref a0), (1, .int x1), (2, .int x2), (4, .int x4)] → ∀ Z, fX11_likeTongue_47  k5 M a0 x1 x2 x4 s0 = some Z → W p l e { frames := 1, cells := 0, slots := 0, locals := 22 } s m args below meth c H locs 0 0 (ah_Q below args s H0 D ca 0 0 (some (.int Z)) M z) (F0 m 47 ls [.int s0]) := by
  intro a0 x1 x2 x4 s0 H locs ls hG hL hl Z hf
  unfold fX11_likeTongue_47 at hf
  refine lv_iconst (v := 0) K.1 K.2.1 dX11_likeTongue_47 (by decide) ?_
  exact wX11_likeTongue_48 K k5 hk5 a0 x1 x2 x4 s0 0 _ _ _ hG hL (lv_sub hl [0, 1, 2, 3] rfl) _ hf
def fX11_likeTongue_5_b   (k5 : Nat → Int32 → Int32 → Int32 → Int32 → Option (Int32)) (M : ah_h) (a0 : Nat) (x1 : Int32) (x2 : Int32) (x3 : Int32) (x4 : Int32) : Option (Int32) := (ah_gr M a0 11 0).bind fun v1 => (ah_ai M v1 1).bind fun v2 => if v2 ≤ x4 then (some x3) else (if ((x1 >>> (x4 &&& 31)) &&& 1) = 1 then ((fX11_get M a0 x4 2).bind fun v5 => (fX11_get M a0 x2 2).bind fun v7 => if v5 = v7 then (fX11_likeTongue_48 k5 M a0 x1 x2 x4 x3 1) else (fX11_likeTongue_47 k5 M a0 x1 x2 x4 x3)) else (fX11_likeTongue_47 k5 M a0 x1 x2 x4 x3))
def fX11_likeTongue_5   (M : ah_h) : Nat → Nat → Int32 → Int32 → Int32 → Int32 → Option (Int32)
  | 0 => fun _ _ _ _ _ => none
  | n + 1 => fun a0 x1 x2 x3 x4 => fX11_likeTongue_5_b   (fX11_likeTongue_5   M n) M a0 x1 x2 x3 x4
set_option maxRecDepth 100000 in
set_option maxHeartbeats 4000000 in
theorem wX11_likeTongue_5_b {p : Program} {l : Launch} {e : Env} {s : State} {m : MethodId} {args : Array Value} {below : List Frame} {meth : Method} {c : Code} {D : va_G} {ca : Nat → ClassId} {H0 : Heap} {M : ah_h} {z : Nat} (K : ah_K p s m args meth c D ca "ShipsThatMeetModel" cX11_likeTongue 5 (some .int))   (k5 : Nat → Int32 → Int32 → Int32 → Int32 → Option (Int32)) (hk5 : ∀ (a0 : Nat) (x1 : Int32) (x2 : Int32) (x3 : Int32) (x4 : Int32)  (H : Heap) (locs : List Loc) (ls : Array Slot), ah_g H0 D ca M z H → ah_L H0 locs → lv_has ls 5 [(0, .ref a0), (1, .int x1), (2, .int x2), (3, .int x3), (4, .int x4)] → ∀ Z, k5 a0 x1 x2 x3 x4 = some Z → W p l e { frames := 1, cells := 0, slots := 0, locals := 22 } s m args below meth c H locs 0 0 (ah_Q below args s H0 D ca 0 0 (some (.int Z)) M z) (F0 m 5 ls [])) : ∀ (a0 : Nat) (x1 : Int32) (x2 : Int32) (x3 : Int32) (x4 : Int32)  (H : Heap) (locs : List Loc) (ls : Array Slot), ah_g H0 D ca M z H → ah_L H0 locs → lv_has ls 5 [(0, .ref a0), (1, .int x1), (2, .int x2), (3, .int x3), (4, .int x4)] → ∀ Z, fX11_likeTongue_5_b   k5 M a0 x1 x2 x3 x4 = some Z → W p l e { frames := 1, cells := 0, slots := 0, locals := 22 } s m args below meth c H locs 0 0 (ah_Q below args s H0 D ca 0 0 (some (.int Z)) M z) (F0 m 5 ls []) := by
  intro a0 x1 x2 x3 x4 H locs ls hG hL hl Z hf
  unfold fX11_likeTongue_5_b at hf
  refine lv_iload K.1 K.2.1 dX11_likeTongue_5 (lv_at hl 4 rfl) ?_
  refine lv_aload_n K.1 K.2.1 dX11_likeTongue_7 rfl (lv_at hl 0 rfl) ?_
  obtain ⟨v1, ev1, hf⟩ := Option.bind_eq_some_iff.mp hf
  refine ah_getr K hG ev1 ffX11_9_11 dX11_likeTongue_8 ?_
  refine lv_iconst (v := 1) K.1 K.2.1 dX11_likeTongue_11 (by decide) ?_
  obtain ⟨v2, ev2, hf⟩ := Option.bind_eq_some_iff.mp hf
  refine ah_iald K hG ev2 dX11_likeTongue_12 ?_
  refine lv_icmp_ge (tgt := 56) K.1 K.2.1 dX11_likeTongue_13 (by decide) (fun h3 => ?_) (fun h3 => ?_)
  · rw [if_pos h3] at hf
    refine lv_iload_n K.1 K.2.1 dX11_likeTongue_56 rfl (lv_at hl 3 rfl) ?_
    have hf := Option.some.inj hf
    subst hf
    exact ah_iret K hG hL (Nat.le_refl _) (Nat.le_refl _) dX11_likeTongue_57
  · rw [if_neg h3] at hf
    refine lv_iload_n K.1 K.2.1 dX11_likeTongue_16 rfl (lv_at hl 3 rfl) ?_
    refine lv_iload_n K.1 K.2.1 dX11_likeTongue_17 rfl (lv_at hl 1 rfl) ?_
    refine lv_iload K.1 K.2.1 dX11_likeTongue_18 (lv_at hl 4 rfl) ?_
    refine lv_ishr K.1 K.2.1 dX11_likeTongue_20 ?_
    refine lv_iconst (v := 1) K.1 K.2.1 dX11_likeTongue_21 (by decide) ?_
    refine lv_iand K.1 K.2.1 dX11_likeTongue_22 ?_
    refine lv_iconst (v := 1) K.1 K.2.1 dX11_likeTongue_23 (by decide) ?_
    refine lv_icmp_ne (tgt := 47) K.1 K.2.1 dX11_likeTongue_24 (by decide) (fun h4 => ?_) (fun h4 => ?_)
    · rw [if_neg h4] at hf
      exact wX11_likeTongue_47 K k5 hk5 a0 x1 x2 x4 x3 _ _ _ hG hL (lv_sub hl [0, 1, 2, 4] rfl) _ hf
    · rw [if_pos h4] at hf
      refine lv_aload_n K.1 K.2.1 dX11_likeTongue_27 rfl (lv_at hl 0 rfl) ?_
      refine lv_iload K.1 K.2.1 dX11_likeTongue_28 (lv_at hl 4 rfl) ?_
      refine lv_iconst (v := 2) K.1 K.2.1 dX11_likeTongue_30 (by decide) ?_
      obtain ⟨v5, ev5, hf⟩ := Option.bind_eq_some_iff.mp hf
      obtain ⟨q6, eq6⟩ := ah_this ev5
      refine ah_callV (As := [.int x4, .int 2]) (rest := [.int x3]) K hG hL hl.1 eq6 rfl (ctX11_get l H0 D ca M z a0 x4 2 v5 ev5) hdX11_get q_1012 q_1014 q_54 q_1015 q_20 ⟨Nat.le_of_ble_eq_true rfl, Nat.le_of_ble_eq_true rfl⟩ rfl rfl (Nat.le_of_ble_eq_true rfl) ⟨Nat.le_refl _, Nat.le_refl _⟩ dX11_likeTongue_31 (fun H locs hG hL => ?_)
      refine lv_aload_n K.1 K.2.1 dX11_likeTongue_34 rfl (lv_at hl 0 rfl) ?_
      refine lv_iload_n K.1 K.2.1 dX11_likeTongue_35 rfl (lv_at hl 2 rfl) ?_
      refine lv_iconst (v := 2) K.1 K.2.1 dX11_likeTongue_36 (by decide) ?_
      obtain ⟨v7, ev7, hf⟩ := Option.bind_eq_some_iff.mp hf
      obtain ⟨q8, eq8⟩ := ah_this ev7
      refine ah_callV (As := [.int x2, .int 2]) (rest := [.int v5, .int x3]) K hG hL hl.1 eq8 rfl (ctX11_get l H0 D ca M z a0 x2 2 v7 ev7) hdX11_get q_1012 q_1014 q_54 q_1015 q_20 ⟨Nat.le_of_ble_eq_true rfl, Nat.le_of_ble_eq_true rfl⟩ rfl rfl (Nat.le_of_ble_eq_true rfl) ⟨Nat.le_refl _, Nat.le_refl _⟩ dX11_likeTongue_37 (fun H locs hG hL => ?_)
      refine lv_icmp_ne (tgt := 47) K.1 K.2.1 dX11_likeTongue_40 (by decide) (fun h9 => ?_) (fun h9 => ?_)
      · rw [if_neg h9] at hf
        exact wX11_likeTongue_47 K k5 hk5 a0 x1 x2 x4 x3 _ _ _ hG hL (lv_sub hl [0, 1, 2, 4] rfl) _ hf
      · rw [if_pos h9] at hf
        refine lv_iconst (v := 1) K.1 K.2.1 dX11_likeTongue_43 (by decide) ?_
        refine lv_goto (tgt := 48) K.1 K.2.1 dX11_likeTongue_44 (by decide) ?_
        exact wX11_likeTongue_48 K k5 hk5 a0 x1 x2 x4 x3 1 _ _ _ hG hL (lv_sub hl [0, 1, 2, 4] rfl) _ hf
theorem wX11_likeTongue_5 {p : Program} {l : Launch} {e : Env} {s : State} {m : MethodId} {args : Array Value} {below : List Frame} {meth : Method} {c : Code} {D : va_G} {ca : Nat → ClassId} {H0 : Heap} {M : ah_h} {z : Nat} (K : ah_K p s m args meth c D ca "ShipsThatMeetModel" cX11_likeTongue 5 (some .int))   (n : Nat) : ∀ (a0 : Nat) (x1 : Int32) (x2 : Int32) (x3 : Int32) (x4 : Int32)  (H : Heap) (locs : List Loc) (ls : Array Slot), ah_g H0 D ca M z H → ah_L H0 locs → lv_has ls 5 [(0, .ref a0), (1, .int x1), (2, .int x2), (3, .int x3), (4, .int x4)] → ∀ Z, fX11_likeTongue_5   M n a0 x1 x2 x3 x4 = some Z → W p l e { frames := 1, cells := 0, slots := 0, locals := 22 } s m args below meth c H locs 0 0 (ah_Q below args s H0 D ca 0 0 (some (.int Z)) M z) (F0 m 5 ls []) := by
  induction n with
  | zero => intro a0 x1 x2 x3 x4 H locs ls hG hL hl Z hf; cases hf
  | succ n ih => exact wX11_likeTongue_5_b K  _ ih
def fX11_likeTongue (M : ah_h) (a0 : Nat) (x1 : Int32) (x2 : Int32) : Option (Int32) := (ah_ob M a0 11).bind fun _ => fX11_likeTongue_5 M ah_fu a0 x1 x2 0 0
set_option maxRecDepth 100000 in
set_option maxHeartbeats 4000000 in
theorem ctX11_likeTongue (l : Launch) (H0 : Heap) (D : va_G) (ca : Nat → ClassId) (M : ah_h) (z : Nat) (a0 : Nat) (x1 : Int32) (x2 : Int32) (Z : Int32) (hf : fX11_likeTongue M a0 x1 x2 = some Z) : ah_ct l H0 D ca yX11_likeTongue cX11_likeTongue 5 (some .int) 1 22 0 0 [.ref a0, .int x1, .int x2] M z (some (.int Z)) M z := by
  refine ah_of (by decide) (Nat.le_of_ble_eq_true rfl) ?_
  intro p e s m below meth c ls hin K hG hl
  have hL : ah_L H0 [] := ah_L.nil
  have hl : lv_has ls 5 [(0, .ref a0), (1, .int x1), (2, .int x2)] := hl
  unfold fX11_likeTongue at hf
  obtain ⟨-, -, hf⟩ := Option.bind_eq_some_iff.mp hf
  refine lv_iconst (v := 0) K.1 K.2.1 dX11_likeTongue_0 (by decide) ?_
  refine lv_istore_n (lv' := [(3, .int 0), (0, .ref a0), (1, .int x1), (2, .int x2)]) K.1 K.2.1 dX11_likeTongue_1 rfl hl (by decide) rfl (fun ls hl => ?_)
  refine lv_iconst (v := 0) K.1 K.2.1 dX11_likeTongue_2 (by decide) ?_
  refine lv_istore (lv' := [(4, .int 0), (3, .int 0), (0, .ref a0), (1, .int x1), (2, .int x2)]) K.1 K.2.1 dX11_likeTongue_3 hl (by decide) rfl (fun ls hl => ?_)
  exact wX11_likeTongue_5 K  ah_fu a0 x1 x2 0 0 _ _ _ hG hL (lv_sub hl [2, 3, 4, 1, 0] rfl) _ hf
def fX11_bestOf_50  (k6 : Nat → Int32 → Int32 → Int32 → Int32 → Option (Int32)) (M : ah_h) (a0 : Nat) (x1 : Int32) (x2 : Int32) (x3 : Int32) (x4 : Int32) : Option (Int32) := k6 a0 x1 x2 x3 (x4 + 1)
set_option maxRecDepth 100000 in
set_option maxHeartbeats 4000000 in
theorem wX11_bestOf_50 {p : Program} {l : Launch} {e : Env} {s : State} {m : MethodId} {args : Array Value} {below : List Frame} {meth : Method} {c : Code} {D : va_G} {ca : Nat → ClassId} {H0 : Heap} {M : ah_h} {z : Nat} (K : ah_K p s m args meth c D ca "ShipsThatMeetModel" cX11_bestOf 5 (some .int))  (k6 : Nat → Int32 → Int32 → Int32 → Int32 → Option (Int32)) (hk6 : ∀ (a0 : Nat) (x1 : Int32) (x2 : Int32) (x3 : Int32) (x4 : Int32)  (H : Heap) (locs : List Loc) (ls : Array Slot), ah_g H0 D ca M z H → ah_L H0 locs → lv_has ls 5 [(0, .ref a0), (1, .int x1), (2, .int x2), (3, .int x3), (4, .int x4)] → ∀ Z, k6 a0 x1 x2 x3 x4 = some Z → W p l e { frames := 2, cells := 0, slots := 0, locals := 46 } s m args below meth c H locs 0 0 (ah_Q below args s H0 D ca 0 0 (some (.int Z)) M z) (F0 m 6 ls [])) : ∀ (a0 : Nat) (x1 : Int32) (x2 : Int32) (x3 : Int32) (x4 : Int32)  (H : Heap) (locs : List Loc) (ls : Array Slot), ah_g H0 D ca M z H → ah_L H0 locs → lv_has ls 5 [(0, .ref a0), (1, .int x1), (2, .int x2), (3, .int x3), (4, .int x4)] → ∀ Z, fX11_bestOf_50  k6 M a0 x1 x2 x3 x4 = some Z → W p l e { frames := 2, cells := 0, slots := 0, locals := 46 } s m args below meth c H locs 0 0 (ah_Q below args s H0 D ca 0 0 (some (.int Z)) M z) (F0 m 50 ls []) := by
  intro a0 x1 x2 x3 x4 H locs ls hG hL hl Z hf
  unfold fX11_bestOf_50 at hf
  refine lv_iinc (v := x4 + 1) (lv' := [(4, .int (x4 + 1)), (0, .ref a0), (1, .int x1), (2, .int x2), (3, .int x3)]) K.1 K.2.1 dX11_bestOf_50 hl (k := 4) rfl rfl (by decide) rfl (fun ls hl => ?_)
  refine lv_goto (tgt := 6) K.1 K.2.1 dX11_bestOf_53 (by decide) ?_
  exact hk6 a0 x1 x2 x3 (x4 + 1) _ _ _ hG hL (lv_sub hl [1, 2, 3, 4, 0] rfl) _ hf
def fX11_bestOf_47  (k6 : Nat → Int32 → Int32 → Int32 → Int32 → Option (Int32)) (M : ah_h) (a0 : Nat) (x1 : Int32) (x2 : Int32) (x4 : Int32) : Option (Int32) := fX11_bestOf_50 k6 M a0 x1 x2 x4 x4
set_option maxRecDepth 100000 in
set_option maxHeartbeats 4000000 in
theorem wX11_bestOf_47 {p : Program} {l : Launch} {e : Env} {s : State} {m : MethodId} {args : Array Value} {below : List Frame} {meth : Method} {c : Code} {D : va_G} {ca : Nat → ClassId} {H0 : Heap} {M : ah_h} {z : Nat} (K : ah_K p s m args meth c D ca "ShipsThatMeetModel" cX11_bestOf 5 (some .int))  (k6 : Nat → Int32 → Int32 → Int32 → Int32 → Option (Int32)) (hk6 : ∀ (a0 : Nat) (x1 : Int32) (x2 : Int32) (x3 : Int32) (x4 : Int32)  (H : Heap) (locs : List Loc) (ls : Array Slot), ah_g H0 D ca M z H → ah_L H0 locs → lv_has ls 5 [(0, .ref a0), (1, .int x1), (2, .int x2), (3, .int x3), (4, .int x4)] → ∀ Z, k6 a0 x1 x2 x3 x4 = some Z → W p l e { frames := 2, cells := 0, slots := 0, locals := 46 } s m args below meth c H locs 0 0 (ah_Q below args s H0 D ca 0 0 (some (.int Z)) M z) (F0 m 6 ls [])) : ∀ (a0 : Nat) (x1 : Int32) (x2 : Int32) (x4 : Int32)  (H : Heap) (locs : List Loc) (ls : Array Slot), ah_g H0 D ca M z H → ah_L H0 locs → lv_has ls 5 [(0, .ref a0), (1, .int x1), (2, .int x2), (4, .int x4)] → ∀ Z, fX11_bestOf_47  k6 M a0 x1 x2 x4 = some Z → W p l e { frames := 2, cells := 0, slots := 0, locals := 46 } s m args below meth c H locs 0 0 (ah_Q below args s H0 D ca 0 0 (some (.int Z)) M z) (F0 m 47 ls []) := by
  intro a0 x1 x2 x4 H locs ls hG hL hl Z hf
  unfold fX11_bestOf_47 at hf
  refine lv_iload K.1 K.2.1 dX11_bestOf_47 (lv_at hl 3 rfl) ?_
  refine lv_istore_n (lv' := [(3, .int x4), (0, .ref a0), (1, .int x1), (2, .int x2), (4, .int x4)]) K.1 K.2.1 dX11_bestOf_49 rfl hl (by decide) rfl (fun ls hl => ?_)
  exact wX11_bestOf_50 K k6 hk6 a0 x1 x2 x4 x4 _ _ _ hG hL (lv_sub hl [1, 2, 3, 0, 4] rfl) _ hf
def fX11_bestOf_6_b   (k6 : Nat → Int32 → Int32 → Int32 → Int32 → Option (Int32)) (M : ah_h) (a0 : Nat) (x1 : Int32) (x2 : Int32) (x3 : Int32) (x4 : Int32) : Option (Int32) := (ah_gr M a0 11 0).bind fun v1 => (ah_ai M v1 1).bind fun v2 => if v2 ≤ x4 then (some x3) else (if ((x2 >>> (x4 &&& 31)) &&& 1) = 1 then (if x3 < 0 then (fX11_bestOf_47 k6 M a0 x1 x2 x4) else ((fX11_likeTongue M a0 x1 x4).bind fun v6 => (fX11_likeTongue M a0 x1 x3).bind fun v8 => if v6 ≤ v8 then (fX11_bestOf_50 k6 M a0 x1 x2 x3 x4) else (fX11_bestOf_47 k6 M a0 x1 x2 x4))) else (fX11_bestOf_50 k6 M a0 x1 x2 x3 x4))
def fX11_bestOf_6   (M : ah_h) : Nat → Nat → Int32 → Int32 → Int32 → Int32 → Option (Int32)
  | 0 => fun _ _ _ _ _ => none
  | n + 1 => fun a0 x1 x2 x3 x4 => fX11_bestOf_6_b   (fX11_bestOf_6   M n) M a0 x1 x2 x3 x4
set_option maxRecDepth 100000 in
set_option maxHeartbeats 4000000 in
theorem wX11_bestOf_6_b {p : Program} {l : Launch} {e : Env} {s : State} {m : MethodId} {args : Array Value} {below : List Frame} {meth : Method} {c : Code} {D : va_G} {ca : Nat → ClassId} {H0 : Heap} {M : ah_h} {z : Nat} (K : ah_K p s m args meth c D ca "ShipsThatMeetModel" cX11_bestOf 5 (some .int))   (k6 : Nat → Int32 → Int32 → Int32 → Int32 → Option (Int32)) (hk6 : ∀ (a0 : Nat) (x1 : Int32) (x2 : Int32) (x3 : Int32) (x4 : Int32)  (H : Heap) (locs : List Loc) (ls : Array Slot), ah_g H0 D ca M z H → ah_L H0 locs → lv_has ls 5 [(0, .ref a0), (1, .int x1), (2, .int x2), (3, .int x3), (4, .int x4)] → ∀ Z, k6 a0 x1 x2 x3 x4 = some Z → W p l e { frames := 2, cells := 0, slots := 0, locals := 46 } s m args below meth c H locs 0 0 (ah_Q below args s H0 D ca 0 0 (some (.int Z)) M z) (F0 m 6 ls [])) : ∀ (a0 : Nat) (x1 : Int32) (x2 : Int32) (x3 : Int32) (x4 : Int32)  (H : Heap) (locs : List Loc) (ls : Array Slot), ah_g H0 D ca M z H → ah_L H0 locs → lv_has ls 5 [(0, .ref a0), (1, .int x1), (2, .int x2), (3, .int x3), (4, .int x4)] → ∀ Z, fX11_bestOf_6_b   k6 M a0 x1 x2 x3 x4 = some Z → W p l e { frames := 2, cells := 0, slots := 0, locals := 46 } s m args below meth c H locs 0 0 (ah_Q below args s H0 D ca 0 0 (some (.int Z)) M z) (F0 m 6 ls []) := by
  intro a0 x1 x2 x3 x4 H locs ls hG hL hl Z hf
  unfold fX11_bestOf_6_b at hf
  refine lv_iload K.1 K.2.1 dX11_bestOf_6 (lv_at hl 4 rfl) ?_
  refine lv_aload_n K.1 K.2.1 dX11_bestOf_8 rfl (lv_at hl 0 rfl) ?_
  obtain ⟨v1, ev1, hf⟩ := Option.bind_eq_some_iff.mp hf
  refine ah_getr K hG ev1 ffX11_9_11 dX11_bestOf_9 ?_
  refine lv_iconst (v := 1) K.1 K.2.1 dX11_bestOf_12 (by decide) ?_
  obtain ⟨v2, ev2, hf⟩ := Option.bind_eq_some_iff.mp hf
  refine ah_iald K hG ev2 dX11_bestOf_13 ?_
  refine lv_icmp_ge (tgt := 56) K.1 K.2.1 dX11_bestOf_14 (by decide) (fun h3 => ?_) (fun h3 => ?_)
  · rw [if_pos h3] at hf
    refine lv_iload_n K.1 K.2.1 dX11_bestOf_56 rfl (lv_at hl 3 rfl) ?_
    have hf := Option.some.inj hf
    subst hf
    exact ah_iret K hG hL (Nat.le_refl _) (Nat.le_refl _) dX11_bestOf_57
  · rw [if_neg h3] at hf
    refine lv_iload_n K.1 K.2.1 dX11_bestOf_17 rfl (lv_at hl 2 rfl) ?_
    refine lv_iload K.1 K.2.1 dX11_bestOf_18 (lv_at hl 4 rfl) ?_
    refine lv_ishr K.1 K.2.1 dX11_bestOf_20 ?_
    refine lv_iconst (v := 1) K.1 K.2.1 dX11_bestOf_21 (by decide) ?_
    refine lv_iand K.1 K.2.1 dX11_bestOf_22 ?_
    refine lv_iconst (v := 1) K.1 K.2.1 dX11_bestOf_23 (by decide) ?_
    refine lv_icmp_ne (tgt := 50) K.1 K.2.1 dX11_bestOf_24 (by decide) (fun h4 => ?_) (fun h4 => ?_)
    · rw [if_neg h4] at hf
      exact wX11_bestOf_50 K k6 hk6 a0 x1 x2 x3 x4 _ _ _ hG hL (lv_sub hl [0, 1, 2, 3, 4] rfl) _ hf
    · rw [if_pos h4] at hf
      refine lv_iload_n K.1 K.2.1 dX11_bestOf_27 rfl (lv_at hl 3 rfl) ?_
      refine lv_if_lt (tgt := 47) K.1 K.2.1 dX11_bestOf_28 (by decide) (fun h5 => ?_) (fun h5 => ?_)
      · rw [if_pos h5] at hf
        exact wX11_bestOf_47 K k6 hk6 a0 x1 x2 x4 _ _ _ hG hL (lv_sub hl [0, 1, 2, 4] rfl) _ hf
      · rw [if_neg h5] at hf
        refine lv_aload_n K.1 K.2.1 dX11_bestOf_31 rfl (lv_at hl 0 rfl) ?_
        refine lv_iload_n K.1 K.2.1 dX11_bestOf_32 rfl (lv_at hl 1 rfl) ?_
        refine lv_iload K.1 K.2.1 dX11_bestOf_33 (lv_at hl 4 rfl) ?_
        obtain ⟨v6, ev6, hf⟩ := Option.bind_eq_some_iff.mp hf
        obtain ⟨q7, eq7⟩ := ah_this ev6
        refine ah_callV (As := [.int x1, .int x4]) (rest := []) K hG hL hl.1 eq7 rfl (ctX11_likeTongue l H0 D ca M z a0 x1 x4 v6 ev6) hdX11_likeTongue q_1054 q_1056 q_54 q_1057 q_29 ⟨Nat.le_of_ble_eq_true rfl, Nat.le_of_ble_eq_true rfl⟩ rfl rfl (Nat.le_of_ble_eq_true rfl) ⟨Nat.le_refl _, Nat.le_refl _⟩ dX11_bestOf_35 (fun H locs hG hL => ?_)
        refine lv_aload_n K.1 K.2.1 dX11_bestOf_38 rfl (lv_at hl 0 rfl) ?_
        refine lv_iload_n K.1 K.2.1 dX11_bestOf_39 rfl (lv_at hl 1 rfl) ?_
        refine lv_iload_n K.1 K.2.1 dX11_bestOf_40 rfl (lv_at hl 3 rfl) ?_
        obtain ⟨v8, ev8, hf⟩ := Option.bind_eq_some_iff.mp hf
        obtain ⟨q9, eq9⟩ := ah_this ev8
        refine ah_callV (As := [.int x1, .int x3]) (rest := [.int v6]) K hG hL hl.1 eq9 rfl (ctX11_likeTongue l H0 D ca M z a0 x1 x3 v8 ev8) hdX11_likeTongue q_1054 q_1056 q_54 q_1057 q_29 ⟨Nat.le_of_ble_eq_true rfl, Nat.le_of_ble_eq_true rfl⟩ rfl rfl (Nat.le_of_ble_eq_true rfl) ⟨Nat.le_refl _, Nat.le_refl _⟩ dX11_bestOf_41 (fun H locs hG hL => ?_)
        refine lv_icmp_le (tgt := 50) K.1 K.2.1 dX11_bestOf_44 (by decide) (fun h10 => ?_) (fun h10 => ?_)
        · rw [if_pos h10] at hf
          exact wX11_bestOf_50 K k6 hk6 a0 x1 x2 x3 x4 _ _ _ hG hL (lv_sub hl [0, 1, 2, 3, 4] rfl) _ hf
        · rw [if_neg h10] at hf
          exact wX11_bestOf_47 K k6 hk6 a0 x1 x2 x4 _ _ _ hG hL (lv_sub hl [0, 1, 2, 4] rfl) _ hf
theorem wX11_bestOf_6 {p : Program} {l : Launch} {e : Env} {s : State} {m : MethodId} {args : Array Value} {below : List Frame} {meth : Method} {c : Code} {D : va_G} {ca : Nat → ClassId} {H0 : Heap} {M : ah_h} {z : Nat} (K : ah_K p s m args meth c D ca "ShipsThatMeetModel" cX11_bestOf 5 (some .int))   (n : Nat) : ∀ (a0 : Nat) (x1 : Int32) (x2 : Int32) (x3 : Int32) (x4 : Int32)  (H : Heap) (locs : List Loc) (ls : Array Slot), ah_g H0 D ca M z H → ah_L H0 locs → lv_has ls 5 [(0, .ref a0), (1, .int x1), (2, .int x2), (3, .int x3), (4, .int x4)] → ∀ Z, fX11_bestOf_6   M n a0 x1 x2 x3 x4 = some Z → W p l e { frames := 2, cells := 0, slots := 0, locals := 46 } s m args below meth c H locs 0 0 (ah_Q below args s H0 D ca 0 0 (some (.int Z)) M z) (F0 m 6 ls []) := by
  induction n with
  | zero => intro a0 x1 x2 x3 x4 H locs ls hG hL hl Z hf; cases hf
  | succ n ih => exact wX11_bestOf_6_b K  _ ih
def fX11_bestOf (M : ah_h) (a0 : Nat) (x1 : Int32) (x2 : Int32) : Option (Int32) := (ah_ob M a0 11).bind fun _ => fX11_bestOf_6 M ah_fu a0 x1 x2 (-4) 0
set_option maxRecDepth 100000 in
set_option maxHeartbeats 4000000 in
theorem ctX11_bestOf (l : Launch) (H0 : Heap) (D : va_G) (ca : Nat → ClassId) (M : ah_h) (z : Nat) (a0 : Nat) (x1 : Int32) (x2 : Int32) (Z : Int32) (hf : fX11_bestOf M a0 x1 x2 = some Z) : ah_ct l H0 D ca yX11_bestOf cX11_bestOf 5 (some .int) 2 46 0 0 [.ref a0, .int x1, .int x2] M z (some (.int Z)) M z := by
  refine ah_of (by decide) (Nat.le_of_ble_eq_true rfl) ?_
  intro p e s m below meth c ls hin K hG hl
  have hL : ah_L H0 [] := ah_L.nil
  have hl : lv_has ls 5 [(0, .ref a0), (1, .int x1), (2, .int x2)] := hl
  unfold fX11_bestOf at hf
  obtain ⟨-, -, hf⟩ := Option.bind_eq_some_iff.mp hf
  refine lv_bipush (v := (-4)) K.1 K.2.1 dX11_bestOf_0 (by decide) ?_
  refine lv_istore_n (lv' := [(3, .int (-4)), (0, .ref a0), (1, .int x1), (2, .int x2)]) K.1 K.2.1 dX11_bestOf_2 rfl hl (by decide) rfl (fun ls hl => ?_)
  refine lv_iconst (v := 0) K.1 K.2.1 dX11_bestOf_3 (by decide) ?_
  refine lv_istore (lv' := [(4, .int 0), (3, .int (-4)), (0, .ref a0), (1, .int x1), (2, .int x2)]) K.1 K.2.1 dX11_bestOf_4 hl (by decide) rfl (fun ls hl => ?_)
  exact wX11_bestOf_6 K  ah_fu a0 x1 x2 (-4) 0 _ _ _ hG hL (lv_sub hl [2, 3, 4, 1, 0] rfl) _ hf
def fX11_gives_114   (M : ah_h) (s0 : Int32) : Option (Int32) := (fX11_at M s0 0).bind fun v1 => some v1
set_option maxRecDepth 100000 in
set_option maxHeartbeats 4000000 in
theorem wX11_gives_114 {p : Program} {l : Launch} {e : Env} {s : State} {m : MethodId} {args : Array Value} {below : List Frame} {meth : Method} {c : Code} {D : va_G} {ca : Nat → ClassId} {H0 : Heap} {M : ah_h} {z : Nat} (K : ah_K p s m args meth c D ca "ShipsThatMeetModel" cX11_gives 5 (some .int))   : ∀ (s0 : Int32)  (H : Heap) (locs : List Loc) (ls : Array Slot), ah_g H0 D ca M z H → ah_L H0 locs → lv_has ls 5 [] → ∀ Z, fX11_gives_114   M s0 = some Z → W p l e { frames := 3, cells := 0, slots := 0, locals := 70 } s m args below meth c H locs 0 0 (ah_Q below args s H0 D ca 0 0 (some (.int Z)) M z) (F0 m 114 ls [.int s0]) := by
  intro s0 H locs ls hG hL hl Z hf
  unfold fX11_gives_114 at hf
  refine lv_iconst (v := 0) K.1 K.2.1 dX11_gives_114 (by decide) ?_
  obtain ⟨v1, ev1, hf⟩ := Option.bind_eq_some_iff.mp hf
  refine ah_callS (As := [.int s0, .int 0]) (rest := []) K hG hL hl.1 (ctX11_at l H0 D ca M z s0 0 v1 ev1) hdX11_at q_1039 q_1040 q_54 q_1041 ⟨Nat.le_of_ble_eq_true rfl, Nat.le_of_ble_eq_true rfl⟩ rfl rfl (Nat.le_of_ble_eq_true rfl) ⟨Nat.le_refl _, Nat.le_refl _⟩ dX11_gives_115 (fun H locs hG hL => ?_)
  have hf := Option.some.inj hf
  subst hf
  exact ah_iret K hG hL (Nat.le_refl _) (Nat.le_refl _) dX11_gives_118
def fX11_gives_142   (M : ah_h) (s0 : Nat) (s1 : Int32) (s2 : Int32) : Option (Int32) := (fX11_bestOf M s0 s1 s2).bind fun v1 => some v1
set_option maxRecDepth 100000 in
set_option maxHeartbeats 4000000 in
theorem wX11_gives_142 {p : Program} {l : Launch} {e : Env} {s : State} {m : MethodId} {args : Array Value} {below : List Frame} {meth : Method} {c : Code} {D : va_G} {ca : Nat → ClassId} {H0 : Heap} {M : ah_h} {z : Nat} (K : ah_K p s m args meth c D ca "ShipsThatMeetModel" cX11_gives 5 (some .int))   : ∀ (s0 : Nat) (s1 : Int32) (s2 : Int32)  (H : Heap) (locs : List Loc) (ls : Array Slot), ah_g H0 D ca M z H → ah_L H0 locs → lv_has ls 5 [] → ∀ Z, fX11_gives_142   M s0 s1 s2 = some Z → W p l e { frames := 3, cells := 0, slots := 0, locals := 70 } s m args below meth c H locs 0 0 (ah_Q below args s H0 D ca 0 0 (some (.int Z)) M z) (F0 m 142 ls [.int s2, .int s1, .ref s0]) := by
  intro s0 s1 s2 H locs ls hG hL hl Z hf
  unfold fX11_gives_142 at hf
  obtain ⟨v1, ev1, hf⟩ := Option.bind_eq_some_iff.mp hf
  obtain ⟨q2, eq2⟩ := ah_this ev1
  refine ah_callV (As := [.int s1, .int s2]) (rest := []) K hG hL hl.1 eq2 rfl (ctX11_bestOf l H0 D ca M z s0 s1 s2 v1 ev1) hdX11_bestOf q_1050 q_1052 q_54 q_1053 q_28 ⟨Nat.le_of_ble_eq_true rfl, Nat.le_of_ble_eq_true rfl⟩ rfl rfl (Nat.le_of_ble_eq_true rfl) ⟨Nat.le_refl _, Nat.le_refl _⟩ dX11_gives_142 (fun H locs hG hL => ?_)
  have hf := Option.some.inj hf
  subst hf
  exact ah_iret K hG hL (Nat.le_refl _) (Nat.le_refl _) dX11_gives_145
def fX11_gives_186   (M : ah_h) (s0 : Nat) (s1 : Int32) : Option (Int32) := (fX11_bySince M s0 s1 0).bind fun v1 => some v1
set_option maxRecDepth 100000 in
set_option maxHeartbeats 4000000 in
theorem wX11_gives_186 {p : Program} {l : Launch} {e : Env} {s : State} {m : MethodId} {args : Array Value} {below : List Frame} {meth : Method} {c : Code} {D : va_G} {ca : Nat → ClassId} {H0 : Heap} {M : ah_h} {z : Nat} (K : ah_K p s m args meth c D ca "ShipsThatMeetModel" cX11_gives 5 (some .int))   : ∀ (s0 : Nat) (s1 : Int32)  (H : Heap) (locs : List Loc) (ls : Array Slot), ah_g H0 D ca M z H → ah_L H0 locs → lv_has ls 5 [] → ∀ Z, fX11_gives_186   M s0 s1 = some Z → W p l e { frames := 3, cells := 0, slots := 0, locals := 70 } s m args below meth c H locs 0 0 (ah_Q below args s H0 D ca 0 0 (some (.int Z)) M z) (F0 m 186 ls [.int s1, .ref s0]) := by
  intro s0 s1 H locs ls hG hL hl Z hf
  unfold fX11_gives_186 at hf
  refine lv_iconst (v := 0) K.1 K.2.1 dX11_gives_186 (by decide) ?_
  obtain ⟨v1, ev1, hf⟩ := Option.bind_eq_some_iff.mp hf
  obtain ⟨q2, eq2⟩ := ah_this ev1
  refine ah_callV (As := [.int s1, .int 0]) (rest := []) K hG hL hl.1 eq2 rfl (ctX11_bySince l H0 D ca M z s0 s1 0 v1 ev1) hdX11_bySince q_1042 q_1044 q_54 q_1045 q_26 ⟨Nat.le_of_ble_eq_true rfl, Nat.le_of_ble_eq_true rfl⟩ rfl rfl (Nat.le_of_ble_eq_true rfl) ⟨Nat.le_refl _, Nat.le_refl _⟩ dX11_gives_187 (fun H locs hG hL => ?_)
  have hf := Option.some.inj hf
  subst hf
  exact ah_iret K hG hL (Nat.le_refl _) (Nat.le_refl _) dX11_gives_190
def fX11_gives (M : ah_h) (a0 : Nat) (x1 : Int32) : Option (Int32) := (ah_ob M a0 11).bind fun _ => (fX11_aboard M a0 x1).bind fun v1 => (fX11_figure M a0 x1).bind fun v3 => if v1 = 0 then (some (-4)) else ((fX11_kind M a0 x1).bind fun v6 => if v6 = 1 then ((fX11_bits M v1).bind fun v9 => if v9 = 0 then none else (fX11_at M v1 (v3 - v3 / v9 * v9)).bind fun v11 => some v11) else if v6 = 2 then ((fX11_bySince M a0 v1 1).bind fun v13 => some v13) else if v6 = 3 then ((fX11_bySince M a0 v1 0).bind fun v16 => some v16) else if v6 = 4 then ((fX11_notOf M a0 v1 (v3 - v3 / 4 * 4)).bind fun v20 => if v20 = 0 then (fX11_gives_114 M v1) else (fX11_gives_114 M v20)) else if v6 = 5 then ((fX11_notOf M a0 v1 (v3 - v3 / 4 * 4)).bind fun v25 => if v25 = 0 then (fX11_gives_142 M a0 v1 v1) else (fX11_gives_142 M a0 v1 v25)) else if v6 = 6 then (if ((v1 >>> (v3 &&& 31)) &&& 1) = 1 then (some v3) else ((fX11_at M v1 0).bind fun v30 => some v30)) else if v6 = 7 then (if (v1 &&& (((1 : Int32) <<< (v3 &&& 31)) ^^^ (-1))) = 0 then (fX11_gives_186 M a0 v1) else (fX11_gives_186 M a0 (v1 &&& (((1 : Int32) <<< (v3 &&& 31)) ^^^ (-1))))) else ((fX11_at M v1 0).bind fun v33 => some v33))
set_option maxRecDepth 100000 in
set_option maxHeartbeats 4000000 in
theorem ctX11_gives (l : Launch) (H0 : Heap) (D : va_G) (ca : Nat → ClassId) (M : ah_h) (z : Nat) (a0 : Nat) (x1 : Int32) (Z : Int32) (hf : fX11_gives M a0 x1 = some Z) : ah_ct l H0 D ca yX11_gives cX11_gives 5 (some .int) 3 70 0 0 [.ref a0, .int x1] M z (some (.int Z)) M z := by
  refine ah_of (by decide) (Nat.le_of_ble_eq_true rfl) ?_
  intro p e s m below meth c ls hin K hG hl
  have hL : ah_L H0 [] := ah_L.nil
  have hl : lv_has ls 5 [(0, .ref a0), (1, .int x1)] := hl
  unfold fX11_gives at hf
  obtain ⟨-, -, hf⟩ := Option.bind_eq_some_iff.mp hf
  refine lv_aload_n K.1 K.2.1 dX11_gives_0 rfl (lv_at hl 0 rfl) ?_
  refine lv_iload_n K.1 K.2.1 dX11_gives_1 rfl (lv_at hl 1 rfl) ?_
  obtain ⟨v1, ev1, hf⟩ := Option.bind_eq_some_iff.mp hf
  obtain ⟨q2, eq2⟩ := ah_this ev1
  refine ah_callV (As := [.int x1]) (rest := []) K hG hL hl.1 eq2 rfl (ctX11_aboard l H0 D ca M z a0 x1 v1 ev1) hdX11_aboard q_1008 q_1010 q_54 q_1011 q_19 ⟨Nat.le_of_ble_eq_true rfl, Nat.le_of_ble_eq_true rfl⟩ rfl rfl (Nat.le_of_ble_eq_true rfl) ⟨Nat.le_refl _, Nat.le_refl _⟩ dX11_gives_2 (fun H locs hG hL => ?_)
  refine lv_istore_n (lv' := [(2, .int v1), (0, .ref a0), (1, .int x1)]) K.1 K.2.1 dX11_gives_5 rfl hl (by decide) rfl (fun ls hl => ?_)
  refine lv_aload_n K.1 K.2.1 dX11_gives_6 rfl (lv_at hl 1 rfl) ?_
  refine lv_iload_n K.1 K.2.1 dX11_gives_7 rfl (lv_at hl 2 rfl) ?_
  obtain ⟨v3, ev3, hf⟩ := Option.bind_eq_some_iff.mp hf
  obtain ⟨q4, eq4⟩ := ah_this ev3
  refine ah_callV (As := [.int x1]) (rest := []) K hG hL hl.1 eq4 rfl (ctX11_figure l H0 D ca M z a0 x1 v3 ev3) hdX11_figure q_1028 q_1030 q_54 q_1031 q_24 ⟨Nat.le_of_ble_eq_true rfl, Nat.le_of_ble_eq_true rfl⟩ rfl rfl (Nat.le_of_ble_eq_true rfl) ⟨Nat.le_refl _, Nat.le_refl _⟩ dX11_gives_8 (fun H locs hG hL => ?_)
  refine lv_istore_n (lv' := [(3, .int v3), (2, .int v1), (0, .ref a0), (1, .int x1)]) K.1 K.2.1 dX11_gives_11 rfl hl (by decide) rfl (fun ls hl => ?_)
  refine lv_iload_n K.1 K.2.1 dX11_gives_12 rfl (lv_at hl 1 rfl) ?_
  refine lv_if_ne (tgt := 19) K.1 K.2.1 dX11_gives_13 (by decide) (fun h5 => ?_) (fun h5 => ?_)
  · rw [if_neg h5] at hf
    refine lv_aload_n K.1 K.2.1 dX11_gives_19 rfl (lv_at hl 2 rfl) ?_
    refine lv_iload_n K.1 K.2.1 dX11_gives_20 rfl (lv_at hl 3 rfl) ?_
    obtain ⟨v6, ev6, hf⟩ := Option.bind_eq_some_iff.mp hf
    obtain ⟨q7, eq7⟩ := ah_this ev6
    refine ah_callV (As := [.int x1]) (rest := []) K hG hL hl.1 eq7 rfl (ctX11_kind l H0 D ca M z a0 x1 v6 ev6) hdX11_kind q_1032 q_1034 q_54 q_1035 q_25 ⟨Nat.le_of_ble_eq_true rfl, Nat.le_of_ble_eq_true rfl⟩ rfl rfl (Nat.le_of_ble_eq_true rfl) ⟨Nat.le_refl _, Nat.le_refl _⟩ dX11_gives_21 (fun H locs hG hL => ?_)
    by_cases h8 : v6 = 1
    · rw [if_pos h8] at hf
      refine lv_tableIn (off := 44) (tgt := 68) K.1 K.2.1 dX11_gives_24 (by rw [h8]; decide) (by rw [h8]; decide) (by rw [h8]; rfl) (by decide) ?_
      refine lv_iload_n K.1 K.2.1 dX11_gives_68 rfl (lv_at hl 1 rfl) ?_
      refine lv_iload_n K.1 K.2.1 dX11_gives_69 rfl (lv_at hl 0 rfl) ?_
      refine lv_iload_n K.1 K.2.1 dX11_gives_70 rfl (lv_at hl 1 rfl) ?_
      obtain ⟨v9, ev9, hf⟩ := Option.bind_eq_some_iff.mp hf
      refine ah_callS (As := [.int v1]) (rest := [.int v3, .int v1]) K hG hL hl.1 (ctX11_bits l H0 D ca M z v1 v9 ev9) hdX11_bits q_1036 q_1037 q_54 q_1038 ⟨Nat.le_of_ble_eq_true rfl, Nat.le_of_ble_eq_true rfl⟩ rfl rfl (Nat.le_of_ble_eq_true rfl) ⟨Nat.le_refl _, Nat.le_refl _⟩ dX11_gives_71 (fun H locs hG hL => ?_)
      by_cases h10 : v9 = 0
      · rw [if_pos h10] at hf; cases hf
      rw [if_neg h10] at hf
      refine lv_irem K.1 K.2.1 dX11_gives_74 h10 ?_
      obtain ⟨v11, ev11, hf⟩ := Option.bind_eq_some_iff.mp hf
      refine ah_callS (As := [.int v1, .int (v3 - v3 / v9 * v9)]) (rest := []) K hG hL hl.1 (ctX11_at l H0 D ca M z v1 (v3 - v3 / v9 * v9) v11 ev11) hdX11_at q_1039 q_1040 q_54 q_1041 ⟨Nat.le_of_ble_eq_true rfl, Nat.le_of_ble_eq_true rfl⟩ rfl rfl (Nat.le_of_ble_eq_true rfl) ⟨Nat.le_refl _, Nat.le_refl _⟩ dX11_gives_75 (fun H locs hG hL => ?_)
      have hf := Option.some.inj hf
      subst hf
      exact ah_iret K hG hL (Nat.le_refl _) (Nat.le_refl _) dX11_gives_78
    rw [if_neg h8] at hf
    by_cases h12 : v6 = 2
    · rw [if_pos h12] at hf
      refine lv_tableIn (off := 55) (tgt := 79) K.1 K.2.1 dX11_gives_24 (by rw [h12]; decide) (by rw [h12]; decide) (by rw [h12]; rfl) (by decide) ?_
      refine lv_aload_n K.1 K.2.1 dX11_gives_79 rfl (lv_at hl 2 rfl) ?_
      refine lv_iload_n K.1 K.2.1 dX11_gives_80 rfl (lv_at hl 1 rfl) ?_
      refine lv_iconst (v := 1) K.1 K.2.1 dX11_gives_81 (by decide) ?_
      obtain ⟨v13, ev13, hf⟩ := Option.bind_eq_some_iff.mp hf
      obtain ⟨q14, eq14⟩ := ah_this ev13
      refine ah_callV (As := [.int v1, .int 1]) (rest := []) K hG hL hl.1 eq14 rfl (ctX11_bySince l H0 D ca M z a0 v1 1 v13 ev13) hdX11_bySince q_1042 q_1044 q_54 q_1045 q_26 ⟨Nat.le_of_ble_eq_true rfl, Nat.le_of_ble_eq_true rfl⟩ rfl rfl (Nat.le_of_ble_eq_true rfl) ⟨Nat.le_refl _, Nat.le_refl _⟩ dX11_gives_82 (fun H locs hG hL => ?_)
      have hf := Option.some.inj hf
      subst hf
      exact ah_iret K hG hL (Nat.le_refl _) (Nat.le_refl _) dX11_gives_85
    rw [if_neg h12] at hf
    by_cases h15 : v6 = 3
    · rw [if_pos h15] at hf
      refine lv_tableIn (off := 62) (tgt := 86) K.1 K.2.1 dX11_gives_24 (by rw [h15]; decide) (by rw [h15]; decide) (by rw [h15]; rfl) (by decide) ?_
      refine lv_aload_n K.1 K.2.1 dX11_gives_86 rfl (lv_at hl 2 rfl) ?_
      refine lv_iload_n K.1 K.2.1 dX11_gives_87 rfl (lv_at hl 1 rfl) ?_
      refine lv_iconst (v := 0) K.1 K.2.1 dX11_gives_88 (by decide) ?_
      obtain ⟨v16, ev16, hf⟩ := Option.bind_eq_some_iff.mp hf
      obtain ⟨q17, eq17⟩ := ah_this ev16
      refine ah_callV (As := [.int v1, .int 0]) (rest := []) K hG hL hl.1 eq17 rfl (ctX11_bySince l H0 D ca M z a0 v1 0 v16 ev16) hdX11_bySince q_1042 q_1044 q_54 q_1045 q_26 ⟨Nat.le_of_ble_eq_true rfl, Nat.le_of_ble_eq_true rfl⟩ rfl rfl (Nat.le_of_ble_eq_true rfl) ⟨Nat.le_refl _, Nat.le_refl _⟩ dX11_gives_89 (fun H locs hG hL => ?_)
      have hf := Option.some.inj hf
      subst hf
      exact ah_iret K hG hL (Nat.le_refl _) (Nat.le_refl _) dX11_gives_92
    rw [if_neg h15] at hf
    by_cases h18 : v6 = 4
    · rw [if_pos h18] at hf
      refine lv_tableIn (off := 69) (tgt := 93) K.1 K.2.1 dX11_gives_24 (by rw [h18]; decide) (by rw [h18]; decide) (by rw [h18]; rfl) (by decide) ?_
      refine lv_aload_n K.1 K.2.1 dX11_gives_93 rfl (lv_at hl 2 rfl) ?_
      refine lv_iload_n K.1 K.2.1 dX11_gives_94 rfl (lv_at hl 1 rfl) ?_
      refine lv_iload_n K.1 K.2.1 dX11_gives_95 rfl (lv_at hl 0 rfl) ?_
      refine lv_iconst (v := 4) K.1 K.2.1 dX11_gives_96 (by decide) ?_
      refine lv_irem K.1 K.2.1 dX11_gives_97 (by decide) ?_
      obtain ⟨v20, ev20, hf⟩ := Option.bind_eq_some_iff.mp hf
      obtain ⟨q21, eq21⟩ := ah_this ev20
      refine ah_callV (As := [.int v1, .int (v3 - v3 / 4 * 4)]) (rest := []) K hG hL hl.1 eq21 rfl (ctX11_notOf l H0 D ca M z a0 v1 (v3 - v3 / 4 * 4) v20 ev20) hdX11_notOf q_1046 q_1048 q_54 q_1049 q_27 ⟨Nat.le_of_ble_eq_true rfl, Nat.le_of_ble_eq_true rfl⟩ rfl rfl (Nat.le_of_ble_eq_true rfl) ⟨Nat.le_refl _, Nat.le_refl _⟩ dX11_gives_98 (fun H locs hG hL => ?_)
      refine lv_istore (lv' := [(4, .int v20), (3, .int v3), (2, .int v1), (0, .ref a0), (1, .int x1)]) K.1 K.2.1 dX11_gives_101 hl (by decide) rfl (fun ls hl => ?_)
      refine lv_iload K.1 K.2.1 dX11_gives_103 (lv_at hl 0 rfl) ?_
      refine lv_if_ne (tgt := 112) K.1 K.2.1 dX11_gives_105 (by decide) (fun h22 => ?_) (fun h22 => ?_)
      · rw [if_neg h22] at hf
        refine lv_iload K.1 K.2.1 dX11_gives_112 (lv_at hl 0 rfl) ?_
        exact wX11_gives_114 K  v20 _ _ _ hG hL (lv_sub hl [] rfl) _ hf
      · rw [if_pos h22] at hf
        refine lv_iload_n K.1 K.2.1 dX11_gives_108 rfl (lv_at hl 2 rfl) ?_
        refine lv_goto (tgt := 114) K.1 K.2.1 dX11_gives_109 (by decide) ?_
        exact wX11_gives_114 K  v1 _ _ _ hG hL (lv_sub hl [] rfl) _ hf
    rw [if_neg h18] at hf
    by_cases h23 : v6 = 5
    · rw [if_pos h23] at hf
      refine lv_tableIn (off := 95) (tgt := 119) K.1 K.2.1 dX11_gives_24 (by rw [h23]; decide) (by rw [h23]; decide) (by rw [h23]; rfl) (by decide) ?_
      refine lv_aload_n K.1 K.2.1 dX11_gives_119 rfl (lv_at hl 2 rfl) ?_
      refine lv_iload_n K.1 K.2.1 dX11_gives_120 rfl (lv_at hl 1 rfl) ?_
      refine lv_iload_n K.1 K.2.1 dX11_gives_121 rfl (lv_at hl 0 rfl) ?_
      refine lv_iconst (v := 4) K.1 K.2.1 dX11_gives_122 (by decide) ?_
      refine lv_irem K.1 K.2.1 dX11_gives_123 (by decide) ?_
      obtain ⟨v25, ev25, hf⟩ := Option.bind_eq_some_iff.mp hf
      obtain ⟨q26, eq26⟩ := ah_this ev25
      refine ah_callV (As := [.int v1, .int (v3 - v3 / 4 * 4)]) (rest := []) K hG hL hl.1 eq26 rfl (ctX11_notOf l H0 D ca M z a0 v1 (v3 - v3 / 4 * 4) v25 ev25) hdX11_notOf q_1046 q_1048 q_54 q_1049 q_27 ⟨Nat.le_of_ble_eq_true rfl, Nat.le_of_ble_eq_true rfl⟩ rfl rfl (Nat.le_of_ble_eq_true rfl) ⟨Nat.le_refl _, Nat.le_refl _⟩ dX11_gives_124 (fun H locs hG hL => ?_)
      refine lv_istore (lv' := [(4, .int v25), (3, .int v3), (2, .int v1), (0, .ref a0), (1, .int x1)]) K.1 K.2.1 dX11_gives_127 hl (by decide) rfl (fun ls hl => ?_)
      refine lv_aload_n K.1 K.2.1 dX11_gives_129 rfl (lv_at hl 3 rfl) ?_
      refine lv_iload_n K.1 K.2.1 dX11_gives_130 rfl (lv_at hl 2 rfl) ?_
      refine lv_iload K.1 K.2.1 dX11_gives_131 (lv_at hl 0 rfl) ?_
      refine lv_if_ne (tgt := 140) K.1 K.2.1 dX11_gives_133 (by decide) (fun h27 => ?_) (fun h27 => ?_)
      · rw [if_neg h27] at hf
        refine lv_iload K.1 K.2.1 dX11_gives_140 (lv_at hl 0 rfl) ?_
        exact wX11_gives_142 K  a0 v1 v25 _ _ _ hG hL (lv_sub hl [] rfl) _ hf
      · rw [if_pos h27] at hf
        refine lv_iload_n K.1 K.2.1 dX11_gives_136 rfl (lv_at hl 2 rfl) ?_
        refine lv_goto (tgt := 142) K.1 K.2.1 dX11_gives_137 (by decide) ?_
        exact wX11_gives_142 K  a0 v1 v1 _ _ _ hG hL (lv_sub hl [] rfl) _ hf
    rw [if_neg h23] at hf
    by_cases h28 : v6 = 6
    · rw [if_pos h28] at hf
      refine lv_tableIn (off := 122) (tgt := 146) K.1 K.2.1 dX11_gives_24 (by rw [h28]; decide) (by rw [h28]; decide) (by rw [h28]; rfl) (by decide) ?_
      refine lv_iload_n K.1 K.2.1 dX11_gives_146 rfl (lv_at hl 1 rfl) ?_
      refine lv_iload_n K.1 K.2.1 dX11_gives_147 rfl (lv_at hl 0 rfl) ?_
      refine lv_ishr K.1 K.2.1 dX11_gives_148 ?_
      refine lv_iconst (v := 1) K.1 K.2.1 dX11_gives_149 (by decide) ?_
      refine lv_iand K.1 K.2.1 dX11_gives_150 ?_
      refine lv_iconst (v := 1) K.1 K.2.1 dX11_gives_151 (by decide) ?_
      refine lv_icmp_ne (tgt := 159) K.1 K.2.1 dX11_gives_152 (by decide) (fun h29 => ?_) (fun h29 => ?_)
      · rw [if_neg h29] at hf
        refine lv_iload_n K.1 K.2.1 dX11_gives_159 rfl (lv_at hl 1 rfl) ?_
        refine lv_iconst (v := 0) K.1 K.2.1 dX11_gives_160 (by decide) ?_
        obtain ⟨v30, ev30, hf⟩ := Option.bind_eq_some_iff.mp hf
        refine ah_callS (As := [.int v1, .int 0]) (rest := []) K hG hL hl.1 (ctX11_at l H0 D ca M z v1 0 v30 ev30) hdX11_at q_1039 q_1040 q_54 q_1041 ⟨Nat.le_of_ble_eq_true rfl, Nat.le_of_ble_eq_true rfl⟩ rfl rfl (Nat.le_of_ble_eq_true rfl) ⟨Nat.le_refl _, Nat.le_refl _⟩ dX11_gives_161 (fun H locs hG hL => ?_)
        have hf := Option.some.inj hf
        subst hf
        exact ah_iret K hG hL (Nat.le_refl _) (Nat.le_refl _) dX11_gives_164
      · rw [if_pos h29] at hf
        refine lv_iload_n K.1 K.2.1 dX11_gives_155 rfl (lv_at hl 0 rfl) ?_
        refine lv_goto (tgt := 164) K.1 K.2.1 dX11_gives_156 (by decide) ?_
        have hf := Option.some.inj hf
        subst hf
        exact ah_iret K hG hL (Nat.le_refl _) (Nat.le_refl _) dX11_gives_164
    rw [if_neg h28] at hf
    by_cases h31 : v6 = 7
    · rw [if_pos h31] at hf
      refine lv_tableIn (off := 141) (tgt := 165) K.1 K.2.1 dX11_gives_24 (by rw [h31]; decide) (by rw [h31]; decide) (by rw [h31]; rfl) (by decide) ?_
      refine lv_iload_n K.1 K.2.1 dX11_gives_165 rfl (lv_at hl 1 rfl) ?_
      refine lv_iconst (v := 1) K.1 K.2.1 dX11_gives_166 (by decide) ?_
      refine lv_iload_n K.1 K.2.1 dX11_gives_167 rfl (lv_at hl 0 rfl) ?_
      refine lv_ishl K.1 K.2.1 dX11_gives_168 ?_
      refine lv_iconst (v := (-1)) K.1 K.2.1 dX11_gives_169 (by decide) ?_
      refine lv_ixor K.1 K.2.1 dX11_gives_170 ?_
      refine lv_iand K.1 K.2.1 dX11_gives_171 ?_
      refine lv_istore (lv' := [(4, .int (v1 &&& (((1 : Int32) <<< (v3 &&& 31)) ^^^ (-1)))), (3, .int v3), (2, .int v1), (0, .ref a0), (1, .int x1)]) K.1 K.2.1 dX11_gives_172 hl (by decide) rfl (fun ls hl => ?_)
      refine lv_aload_n K.1 K.2.1 dX11_gives_174 rfl (lv_at hl 3 rfl) ?_
      refine lv_iload K.1 K.2.1 dX11_gives_175 (lv_at hl 0 rfl) ?_
      refine lv_if_ne (tgt := 184) K.1 K.2.1 dX11_gives_177 (by decide) (fun h32 => ?_) (fun h32 => ?_)
      · rw [if_neg h32] at hf
        refine lv_iload K.1 K.2.1 dX11_gives_184 (lv_at hl 0 rfl) ?_
        exact wX11_gives_186 K  a0 (v1 &&& (((1 : Int32) <<< (v3 &&& 31)) ^^^ (-1))) _ _ _ hG hL (lv_sub hl [] rfl) _ hf
      · rw [if_pos h32] at hf
        refine lv_iload_n K.1 K.2.1 dX11_gives_180 rfl (lv_at hl 2 rfl) ?_
        refine lv_goto (tgt := 186) K.1 K.2.1 dX11_gives_181 (by decide) ?_
        exact wX11_gives_186 K  a0 v1 _ _ _ hG hL (lv_sub hl [] rfl) _ hf
    rw [if_neg h31] at hf
    have th8 := lv_neT (a := 1) h8 (by decide)
    have th12 := lv_neT (a := 2) h12 (by decide)
    have th15 := lv_neT (a := 3) h15 (by decide)
    have th18 := lv_neT (a := 4) h18 (by decide)
    have th23 := lv_neT (a := 5) h23 (by decide)
    have th28 := lv_neT (a := 6) h28 (by decide)
    have th31 := lv_neT (a := 7) h31 (by decide)
    refine lv_tableOut (tgt := 191) K.1 K.2.1 dX11_gives_24 (by omega) (by decide) ?_
    refine lv_iload_n K.1 K.2.1 dX11_gives_191 rfl (lv_at hl 1 rfl) ?_
    refine lv_iconst (v := 0) K.1 K.2.1 dX11_gives_192 (by decide) ?_
    obtain ⟨v33, ev33, hf⟩ := Option.bind_eq_some_iff.mp hf
    refine ah_callS (As := [.int v1, .int 0]) (rest := []) K hG hL hl.1 (ctX11_at l H0 D ca M z v1 0 v33 ev33) hdX11_at q_1039 q_1040 q_54 q_1041 ⟨Nat.le_of_ble_eq_true rfl, Nat.le_of_ble_eq_true rfl⟩ rfl rfl (Nat.le_of_ble_eq_true rfl) ⟨Nat.le_refl _, Nat.le_refl _⟩ dX11_gives_193 (fun H locs hG hL => ?_)
    have hf := Option.some.inj hf
    subst hf
    exact ah_iret K hG hL (Nat.le_refl _) (Nat.le_refl _) dX11_gives_196
  · rw [if_pos h5] at hf
    refine lv_bipush (v := (-4)) K.1 K.2.1 dX11_gives_16 (by decide) ?_
    have hf := Option.some.inj hf
    subst hf
    exact ah_iret K hG hL (Nat.le_refl _) (Nat.le_refl _) dX11_gives_18
def fX11_sails_47  (k8 : ah_h → Nat → Int32 → Int32 → Option (ah_h))  (M : ah_h) (a0 : Nat) (x2 : Int32) (x3 : Int32) : Option (ah_h) := k8 M a0 x2 (x3 + 1)
set_option maxRecDepth 100000 in
set_option maxHeartbeats 4000000 in
theorem wX11_sails_47 {p : Program} {l : Launch} {e : Env} {s : State} {m : MethodId} {args : Array Value} {below : List Frame} {meth : Method} {c : Code} {D : va_G} {ca : Nat → ClassId} {H0 : Heap} {z : Nat} (K : ah_K p s m args meth c D ca "ShipsThatMeetModel" cX11_sails 4 none)  (k8 : ah_h → Nat → Int32 → Int32 → Option (ah_h)) (hk8 : ∀ (M : ah_h) (a0 : Nat) (x2 : Int32) (x3 : Int32)  (H : Heap) (locs : List Loc) (ls : Array Slot), ah_g H0 D ca M z H → ah_L H0 locs → lv_has ls 4 [(0, .ref a0), (2, .int x2), (3, .int x3)] → ∀ Z, k8 M a0 x2 x3 = some Z → W p l e { frames := 2, cells := 0, slots := 0, locals := 45 } s m args below meth c H locs 0 0 (ah_Q below args s H0 D ca 0 0 none Z z) (F0 m 8 ls [])) : ∀ (M : ah_h) (a0 : Nat) (x2 : Int32) (x3 : Int32)  (H : Heap) (locs : List Loc) (ls : Array Slot), ah_g H0 D ca M z H → ah_L H0 locs → lv_has ls 4 [(0, .ref a0), (2, .int x2), (3, .int x3)] → ∀ Z, fX11_sails_47  k8  M a0 x2 x3 = some Z → W p l e { frames := 2, cells := 0, slots := 0, locals := 45 } s m args below meth c H locs 0 0 (ah_Q below args s H0 D ca 0 0 none Z z) (F0 m 47 ls []) := by
  intro M a0 x2 x3 H locs ls hG hL hl Z hf
  unfold fX11_sails_47 at hf
  refine lv_iinc (v := x3 + 1) (lv' := [(3, .int (x3 + 1)), (0, .ref a0), (2, .int x2)]) K.1 K.2.1 dX11_sails_47 hl (k := 2) rfl rfl (by decide) rfl (fun ls hl => ?_)
  refine lv_goto (tgt := 8) K.1 K.2.1 dX11_sails_50 (by decide) ?_
  exact hk8 M a0 x2 (x3 + 1) _ _ _ hG hL (lv_sub hl [1, 2, 0] rfl) _ hf
def fX11_sails_8_b   (k8 : ah_h → Nat → Int32 → Int32 → Option (ah_h))  (M : ah_h) (a0 : Nat) (x2 : Int32) (x3 : Int32) : Option (ah_h) := (ah_gr M a0 11 0).bind fun v1 => (ah_ai M v1 1).bind fun v2 => if v2 ≤ x3 then (some M) else (if ((x2 >>> (x3 &&& 31)) &&& 1) = 1 then ((fX11_get M a0 x3 4).bind fun v5 => (fX11_puts M a0 x3 4 (v5 ||| (x2 &&& (((1 : Int32) <<< (x3 &&& 31)) ^^^ (-1))))).bind fun v7 => fX11_sails_47 k8 v7 a0 x2 x3) else (fX11_sails_47 k8 M a0 x2 x3))
def fX11_sails_8    : Nat → ah_h → Nat → Int32 → Int32 → Option (ah_h)
  | 0 => fun _ _ _ _ => none
  | n + 1 => fun M a0 x2 x3 => fX11_sails_8_b   (fX11_sails_8    n)  M a0 x2 x3
set_option maxRecDepth 100000 in
set_option maxHeartbeats 4000000 in
theorem wX11_sails_8_b {p : Program} {l : Launch} {e : Env} {s : State} {m : MethodId} {args : Array Value} {below : List Frame} {meth : Method} {c : Code} {D : va_G} {ca : Nat → ClassId} {H0 : Heap} {z : Nat} (K : ah_K p s m args meth c D ca "ShipsThatMeetModel" cX11_sails 4 none)   (k8 : ah_h → Nat → Int32 → Int32 → Option (ah_h)) (hk8 : ∀ (M : ah_h) (a0 : Nat) (x2 : Int32) (x3 : Int32)  (H : Heap) (locs : List Loc) (ls : Array Slot), ah_g H0 D ca M z H → ah_L H0 locs → lv_has ls 4 [(0, .ref a0), (2, .int x2), (3, .int x3)] → ∀ Z, k8 M a0 x2 x3 = some Z → W p l e { frames := 2, cells := 0, slots := 0, locals := 45 } s m args below meth c H locs 0 0 (ah_Q below args s H0 D ca 0 0 none Z z) (F0 m 8 ls [])) : ∀ (M : ah_h) (a0 : Nat) (x2 : Int32) (x3 : Int32)  (H : Heap) (locs : List Loc) (ls : Array Slot), ah_g H0 D ca M z H → ah_L H0 locs → lv_has ls 4 [(0, .ref a0), (2, .int x2), (3, .int x3)] → ∀ Z, fX11_sails_8_b   k8  M a0 x2 x3 = some Z → W p l e { frames := 2, cells := 0, slots := 0, locals := 45 } s m args below meth c H locs 0 0 (ah_Q below args s H0 D ca 0 0 none Z z) (F0 m 8 ls []) := by
  intro M a0 x2 x3 H locs ls hG hL hl Z hf
  unfold fX11_sails_8_b at hf
  refine lv_iload_n K.1 K.2.1 dX11_sails_8 rfl (lv_at hl 2 rfl) ?_
  refine lv_aload_n K.1 K.2.1 dX11_sails_9 rfl (lv_at hl 0 rfl) ?_
  obtain ⟨v1, ev1, hf⟩ := Option.bind_eq_some_iff.mp hf
  refine ah_getr K hG ev1 ffX11_9_11 dX11_sails_10 ?_
  refine lv_iconst (v := 1) K.1 K.2.1 dX11_sails_13 (by decide) ?_
  obtain ⟨v2, ev2, hf⟩ := Option.bind_eq_some_iff.mp hf
  refine ah_iald K hG ev2 dX11_sails_14 ?_
  refine lv_icmp_ge (tgt := 53) K.1 K.2.1 dX11_sails_15 (by decide) (fun h3 => ?_) (fun h3 => ?_)
  · rw [if_pos h3] at hf
    have hf := Option.some.inj hf
    subst hf
    exact ah_vret K hG hL (Nat.le_refl _) (Nat.le_refl _) dX11_sails_53
  · rw [if_neg h3] at hf
    refine lv_iload_n K.1 K.2.1 dX11_sails_18 rfl (lv_at hl 1 rfl) ?_
    refine lv_iload_n K.1 K.2.1 dX11_sails_19 rfl (lv_at hl 2 rfl) ?_
    refine lv_ishr K.1 K.2.1 dX11_sails_20 ?_
    refine lv_iconst (v := 1) K.1 K.2.1 dX11_sails_21 (by decide) ?_
    refine lv_iand K.1 K.2.1 dX11_sails_22 ?_
    refine lv_iconst (v := 1) K.1 K.2.1 dX11_sails_23 (by decide) ?_
    refine lv_icmp_ne (tgt := 47) K.1 K.2.1 dX11_sails_24 (by decide) (fun h4 => ?_) (fun h4 => ?_)
    · rw [if_neg h4] at hf
      exact wX11_sails_47 K k8 hk8 M a0 x2 x3 _ _ _ hG hL (lv_sub hl [0, 1, 2] rfl) _ hf
    · rw [if_pos h4] at hf
      refine lv_aload_n K.1 K.2.1 dX11_sails_27 rfl (lv_at hl 0 rfl) ?_
      refine lv_iload_n K.1 K.2.1 dX11_sails_28 rfl (lv_at hl 2 rfl) ?_
      refine lv_iconst (v := 4) K.1 K.2.1 dX11_sails_29 (by decide) ?_
      refine lv_aload_n K.1 K.2.1 dX11_sails_30 rfl (lv_at hl 0 rfl) ?_
      refine lv_iload_n K.1 K.2.1 dX11_sails_31 rfl (lv_at hl 2 rfl) ?_
      refine lv_iconst (v := 4) K.1 K.2.1 dX11_sails_32 (by decide) ?_
      obtain ⟨v5, ev5, hf⟩ := Option.bind_eq_some_iff.mp hf
      obtain ⟨q6, eq6⟩ := ah_this ev5
      refine ah_callV (As := [.int x3, .int 4]) (rest := [.int 4, .int x3, .ref a0]) K hG hL hl.1 eq6 rfl (ctX11_get l H0 D ca M z a0 x3 4 v5 ev5) hdX11_get q_1012 q_1014 q_54 q_1015 q_20 ⟨Nat.le_of_ble_eq_true rfl, Nat.le_of_ble_eq_true rfl⟩ rfl rfl (Nat.le_of_ble_eq_true rfl) ⟨Nat.le_refl _, Nat.le_refl _⟩ dX11_sails_33 (fun H locs hG hL => ?_)
      refine lv_iload_n K.1 K.2.1 dX11_sails_36 rfl (lv_at hl 1 rfl) ?_
      refine lv_iconst (v := 1) K.1 K.2.1 dX11_sails_37 (by decide) ?_
      refine lv_iload_n K.1 K.2.1 dX11_sails_38 rfl (lv_at hl 2 rfl) ?_
      refine lv_ishl K.1 K.2.1 dX11_sails_39 ?_
      refine lv_iconst (v := (-1)) K.1 K.2.1 dX11_sails_40 (by decide) ?_
      refine lv_ixor K.1 K.2.1 dX11_sails_41 ?_
      refine lv_iand K.1 K.2.1 dX11_sails_42 ?_
      refine lv_ior K.1 K.2.1 dX11_sails_43 ?_
      obtain ⟨v7, ev7, hf⟩ := Option.bind_eq_some_iff.mp hf
      obtain ⟨q8, eq8⟩ := ah_this ev7
      refine ah_callV (As := [.int x3, .int 4, .int (v5 ||| (x2 &&& (((1 : Int32) <<< (x3 &&& 31)) ^^^ (-1))))]) (rest := []) K hG hL hl.1 eq8 rfl (ctX11_puts l H0 D ca M z a0 x3 4 (v5 ||| (x2 &&& (((1 : Int32) <<< (x3 &&& 31)) ^^^ (-1)))) v7 ev7) hdX11_puts q_1000 q_1002 q_54 q_1003 q_17 ⟨Nat.le_of_ble_eq_true rfl, Nat.le_of_ble_eq_true rfl⟩ rfl rfl (Nat.le_of_ble_eq_true rfl) ⟨Nat.le_refl _, Nat.le_refl _⟩ dX11_sails_44 (fun H locs hG hL => ?_)
      exact wX11_sails_47 K k8 hk8 v7 a0 x2 x3 _ _ _ hG hL (lv_sub hl [0, 1, 2] rfl) _ hf
theorem wX11_sails_8 {p : Program} {l : Launch} {e : Env} {s : State} {m : MethodId} {args : Array Value} {below : List Frame} {meth : Method} {c : Code} {D : va_G} {ca : Nat → ClassId} {H0 : Heap} {z : Nat} (K : ah_K p s m args meth c D ca "ShipsThatMeetModel" cX11_sails 4 none)   (n : Nat) : ∀ (M : ah_h) (a0 : Nat) (x2 : Int32) (x3 : Int32)  (H : Heap) (locs : List Loc) (ls : Array Slot), ah_g H0 D ca M z H → ah_L H0 locs → lv_has ls 4 [(0, .ref a0), (2, .int x2), (3, .int x3)] → ∀ Z, fX11_sails_8    n M a0 x2 x3 = some Z → W p l e { frames := 2, cells := 0, slots := 0, locals := 45 } s m args below meth c H locs 0 0 (ah_Q below args s H0 D ca 0 0 none Z z) (F0 m 8 ls []) := by
  induction n with
  | zero => intro M a0 x2 x3 H locs ls hG hL hl Z hf; cases hf
  | succ n ih => exact wX11_sails_8_b K  _ ih
def fX11_sails (M : ah_h) (a0 : Nat) (x1 : Int32) : Option (ah_h) := (ah_ob M a0 11).bind fun _ => (fX11_aboard M a0 x1).bind fun v1 => fX11_sails_8 ah_fu M a0 v1 0
set_option maxRecDepth 100000 in
set_option maxHeartbeats 4000000 in
theorem ctX11_sails (l : Launch) (H0 : Heap) (D : va_G) (ca : Nat → ClassId) (M : ah_h) (z : Nat) (a0 : Nat) (x1 : Int32) (Z : ah_h) (hf : fX11_sails M a0 x1 = some Z) : ah_ct l H0 D ca yX11_sails cX11_sails 4 none 2 45 0 0 [.ref a0, .int x1] M z none Z z := by
  refine ah_of (by decide) (Nat.le_of_ble_eq_true rfl) ?_
  intro p e s m below meth c ls hin K hG hl
  have hL : ah_L H0 [] := ah_L.nil
  have hl : lv_has ls 4 [(0, .ref a0), (1, .int x1)] := hl
  unfold fX11_sails at hf
  obtain ⟨-, -, hf⟩ := Option.bind_eq_some_iff.mp hf
  refine lv_aload_n K.1 K.2.1 dX11_sails_0 rfl (lv_at hl 0 rfl) ?_
  refine lv_iload_n K.1 K.2.1 dX11_sails_1 rfl (lv_at hl 1 rfl) ?_
  obtain ⟨v1, ev1, hf⟩ := Option.bind_eq_some_iff.mp hf
  obtain ⟨q2, eq2⟩ := ah_this ev1
  refine ah_callV (As := [.int x1]) (rest := []) K hG hL hl.1 eq2 rfl (ctX11_aboard l H0 D ca M z a0 x1 v1 ev1) hdX11_aboard q_1008 q_1010 q_54 q_1011 q_19 ⟨Nat.le_of_ble_eq_true rfl, Nat.le_of_ble_eq_true rfl⟩ rfl rfl (Nat.le_of_ble_eq_true rfl) ⟨Nat.le_refl _, Nat.le_refl _⟩ dX11_sails_2 (fun H locs hG hL => ?_)
  refine lv_istore_n (lv' := [(2, .int v1), (0, .ref a0), (1, .int x1)]) K.1 K.2.1 dX11_sails_5 rfl hl (by decide) rfl (fun ls hl => ?_)
  refine lv_iconst (v := 0) K.1 K.2.1 dX11_sails_6 (by decide) ?_
  refine lv_istore_n (lv' := [(3, .int 0), (2, .int v1), (0, .ref a0), (1, .int x1)]) K.1 K.2.1 dX11_sails_7 rfl hl (by decide) rfl (fun ls hl => ?_)
  exact wX11_sails_8 K  ah_fu M a0 v1 0 _ _ _ hG hL (lv_sub hl [2, 1, 0] rfl) _ hf
def fX11_mayMeet (M : ah_h) (a0 : Nat) (x1 : Int32) (x2 : Int32) : Option (Int32) := (ah_ob M a0 11).bind fun _ => (fX11_isShip M a0 x1).bind fun v1 => if v1 = 0 then (some 0) else ((fX11_isShip M a0 x2).bind fun v4 => if v4 = 0 then (some 0) else (if x1 = x2 then (some 0) else ((fX11_aboard M a0 x1).bind fun v8 => if v8 = 0 then (some 0) else ((fX11_aboard M a0 x2).bind fun v11 => if v11 = 0 then (some 0) else (some 1)))))
set_option maxRecDepth 100000 in
set_option maxHeartbeats 4000000 in
theorem ctX11_mayMeet (l : Launch) (H0 : Heap) (D : va_G) (ca : Nat → ClassId) (M : ah_h) (z : Nat) (a0 : Nat) (x1 : Int32) (x2 : Int32) (Z : Int32) (hf : fX11_mayMeet M a0 x1 x2 = some Z) : ah_ct l H0 D ca yX11_mayMeet cX11_mayMeet 3 (some .boolean) 2 46 0 0 [.ref a0, .int x1, .int x2] M z (some (.int Z)) M z := by
  refine ah_of (by decide) (Nat.le_of_ble_eq_true rfl) ?_
  intro p e s m below meth c ls hin K hG hl
  have hL : ah_L H0 [] := ah_L.nil
  have hl : lv_has ls 3 [(0, .ref a0), (1, .int x1), (2, .int x2)] := hl
  unfold fX11_mayMeet at hf
  obtain ⟨-, -, hf⟩ := Option.bind_eq_some_iff.mp hf
  refine lv_aload_n K.1 K.2.1 dX11_mayMeet_0 rfl (lv_at hl 0 rfl) ?_
  refine lv_iload_n K.1 K.2.1 dX11_mayMeet_1 rfl (lv_at hl 1 rfl) ?_
  obtain ⟨v1, ev1, hf⟩ := Option.bind_eq_some_iff.mp hf
  obtain ⟨q2, eq2⟩ := ah_this ev1
  refine ah_callV (As := [.int x1]) (rest := []) K hG hL hl.1 eq2 rfl (ctX11_isShip l H0 D ca M z a0 x1 v1 ev1) hdX11_isShip q_996 q_998 q_54 q_999 q_16 ⟨Nat.le_of_ble_eq_true rfl, Nat.le_of_ble_eq_true rfl⟩ rfl rfl (Nat.le_of_ble_eq_true rfl) ⟨Nat.le_refl _, Nat.le_refl _⟩ dX11_mayMeet_2 (fun H locs hG hL => ?_)
  refine lv_if_eq (tgt := 41) K.1 K.2.1 dX11_mayMeet_5 (by decide) (fun h3 => ?_) (fun h3 => ?_)
  · rw [if_pos h3] at hf
    refine lv_iconst (v := 0) K.1 K.2.1 dX11_mayMeet_41 (by decide) ?_
    have hf := Option.some.inj hf
    subst hf
    exact ah_zret K hG hL (Or.inl rfl) (Nat.le_refl _) (Nat.le_refl _) dX11_mayMeet_42
  · rw [if_neg h3] at hf
    refine lv_aload_n K.1 K.2.1 dX11_mayMeet_8 rfl (lv_at hl 0 rfl) ?_
    refine lv_iload_n K.1 K.2.1 dX11_mayMeet_9 rfl (lv_at hl 2 rfl) ?_
    obtain ⟨v4, ev4, hf⟩ := Option.bind_eq_some_iff.mp hf
    obtain ⟨q5, eq5⟩ := ah_this ev4
    refine ah_callV (As := [.int x2]) (rest := []) K hG hL hl.1 eq5 rfl (ctX11_isShip l H0 D ca M z a0 x2 v4 ev4) hdX11_isShip q_996 q_998 q_54 q_999 q_16 ⟨Nat.le_of_ble_eq_true rfl, Nat.le_of_ble_eq_true rfl⟩ rfl rfl (Nat.le_of_ble_eq_true rfl) ⟨Nat.le_refl _, Nat.le_refl _⟩ dX11_mayMeet_10 (fun H locs hG hL => ?_)
    refine lv_if_eq (tgt := 41) K.1 K.2.1 dX11_mayMeet_13 (by decide) (fun h6 => ?_) (fun h6 => ?_)
    · rw [if_pos h6] at hf
      refine lv_iconst (v := 0) K.1 K.2.1 dX11_mayMeet_41 (by decide) ?_
      have hf := Option.some.inj hf
      subst hf
      exact ah_zret K hG hL (Or.inl rfl) (Nat.le_refl _) (Nat.le_refl _) dX11_mayMeet_42
    · rw [if_neg h6] at hf
      refine lv_iload_n K.1 K.2.1 dX11_mayMeet_16 rfl (lv_at hl 1 rfl) ?_
      refine lv_iload_n K.1 K.2.1 dX11_mayMeet_17 rfl (lv_at hl 2 rfl) ?_
      refine lv_icmp_eq (tgt := 41) K.1 K.2.1 dX11_mayMeet_18 (by decide) (fun h7 => ?_) (fun h7 => ?_)
      · rw [if_pos h7] at hf
        refine lv_iconst (v := 0) K.1 K.2.1 dX11_mayMeet_41 (by decide) ?_
        have hf := Option.some.inj hf
        subst hf
        exact ah_zret K hG hL (Or.inl rfl) (Nat.le_refl _) (Nat.le_refl _) dX11_mayMeet_42
      · rw [if_neg h7] at hf
        refine lv_aload_n K.1 K.2.1 dX11_mayMeet_21 rfl (lv_at hl 0 rfl) ?_
        refine lv_iload_n K.1 K.2.1 dX11_mayMeet_22 rfl (lv_at hl 1 rfl) ?_
        obtain ⟨v8, ev8, hf⟩ := Option.bind_eq_some_iff.mp hf
        obtain ⟨q9, eq9⟩ := ah_this ev8
        refine ah_callV (As := [.int x1]) (rest := []) K hG hL hl.1 eq9 rfl (ctX11_aboard l H0 D ca M z a0 x1 v8 ev8) hdX11_aboard q_1008 q_1010 q_54 q_1011 q_19 ⟨Nat.le_of_ble_eq_true rfl, Nat.le_of_ble_eq_true rfl⟩ rfl rfl (Nat.le_of_ble_eq_true rfl) ⟨Nat.le_refl _, Nat.le_refl _⟩ dX11_mayMeet_23 (fun H locs hG hL => ?_)
        refine lv_if_eq (tgt := 41) K.1 K.2.1 dX11_mayMeet_26 (by decide) (fun h10 => ?_) (fun h10 => ?_)
        · rw [if_pos h10] at hf
          refine lv_iconst (v := 0) K.1 K.2.1 dX11_mayMeet_41 (by decide) ?_
          have hf := Option.some.inj hf
          subst hf
          exact ah_zret K hG hL (Or.inl rfl) (Nat.le_refl _) (Nat.le_refl _) dX11_mayMeet_42
        · rw [if_neg h10] at hf
          refine lv_aload_n K.1 K.2.1 dX11_mayMeet_29 rfl (lv_at hl 0 rfl) ?_
          refine lv_iload_n K.1 K.2.1 dX11_mayMeet_30 rfl (lv_at hl 2 rfl) ?_
          obtain ⟨v11, ev11, hf⟩ := Option.bind_eq_some_iff.mp hf
          obtain ⟨q12, eq12⟩ := ah_this ev11
          refine ah_callV (As := [.int x2]) (rest := []) K hG hL hl.1 eq12 rfl (ctX11_aboard l H0 D ca M z a0 x2 v11 ev11) hdX11_aboard q_1008 q_1010 q_54 q_1011 q_19 ⟨Nat.le_of_ble_eq_true rfl, Nat.le_of_ble_eq_true rfl⟩ rfl rfl (Nat.le_of_ble_eq_true rfl) ⟨Nat.le_refl _, Nat.le_refl _⟩ dX11_mayMeet_31 (fun H locs hG hL => ?_)
          refine lv_if_eq (tgt := 41) K.1 K.2.1 dX11_mayMeet_34 (by decide) (fun h13 => ?_) (fun h13 => ?_)
          · rw [if_pos h13] at hf
            refine lv_iconst (v := 0) K.1 K.2.1 dX11_mayMeet_41 (by decide) ?_
            have hf := Option.some.inj hf
            subst hf
            exact ah_zret K hG hL (Or.inl rfl) (Nat.le_refl _) (Nat.le_refl _) dX11_mayMeet_42
          · rw [if_neg h13] at hf
            refine lv_iconst (v := 1) K.1 K.2.1 dX11_mayMeet_37 (by decide) ?_
            refine lv_goto (tgt := 42) K.1 K.2.1 dX11_mayMeet_38 (by decide) ?_
            have hf := Option.some.inj hf
            subst hf
            exact ah_zret K hG hL (Or.inr rfl) (Nat.le_refl _) (Nat.le_refl _) dX11_mayMeet_42
def fX11_meets (M : ah_h) (a0 : Nat) (x1 : Int32) (x2 : Int32) : Option (ah_h) := (ah_ob M a0 11).bind fun _ => (fX11_gives M a0 x1).bind fun v1 => (ah_pf M a0 11 12 (.int v1)).bind fun M3 => (fX11_gives M3 a0 x2).bind fun v4 => (ah_pf M3 a0 11 13 (.int v4)).bind fun M6 => (ah_gr M6 a0 11 0).bind fun v7 => (ah_ai M6 v7 2).bind fun v8 => (ah_si M6 v7 2 (v8 + 1)).bind fun M9 => (ah_gi M9 a0 11 12).bind fun v10 => (fX11_puts M9 a0 v10 0 x2).bind fun v11 => (ah_gi v11 a0 11 13).bind fun v13 => (fX11_puts v11 a0 v13 0 x1).bind fun v14 => (ah_gi v14 a0 11 12).bind fun v16 => (ah_gr v14 a0 11 0).bind fun v17 => (ah_ai v14 v17 2).bind fun v18 => (fX11_puts v14 a0 v16 3 v18).bind fun v19 => (ah_gi v19 a0 11 13).bind fun v21 => (ah_gr v19 a0 11 0).bind fun v22 => (ah_ai v19 v22 2).bind fun v23 => (fX11_puts v19 a0 v21 3 v23).bind fun v24 => (fX11_sails v24 a0 x1).bind fun v26 => (fX11_sails v26 a0 x2).bind fun v28 => some v28
set_option maxRecDepth 100000 in
set_option maxHeartbeats 4000000 in
theorem ctX11_meets (l : Launch) (H0 : Heap) (D : va_G) (ca : Nat → ClassId) (M : ah_h) (z : Nat) (a0 : Nat) (x1 : Int32) (x2 : Int32) (Z : ah_h) (hf : fX11_meets M a0 x1 x2 = some Z) : ah_ct l H0 D ca yX11_meets cX11_meets 3 none 4 94 0 0 [.ref a0, .int x1, .int x2] M z none Z z := by
  refine ah_of (by decide) (Nat.le_of_ble_eq_true rfl) ?_
  intro p e s m below meth c ls hin K hG hl
  have hL : ah_L H0 [] := ah_L.nil
  have hl : lv_has ls 3 [(0, .ref a0), (1, .int x1), (2, .int x2)] := hl
  unfold fX11_meets at hf
  obtain ⟨-, -, hf⟩ := Option.bind_eq_some_iff.mp hf
  refine lv_aload_n K.1 K.2.1 dX11_meets_0 rfl (lv_at hl 0 rfl) ?_
  refine lv_aload_n K.1 K.2.1 dX11_meets_1 rfl (lv_at hl 0 rfl) ?_
  refine lv_iload_n K.1 K.2.1 dX11_meets_2 rfl (lv_at hl 1 rfl) ?_
  obtain ⟨v1, ev1, hf⟩ := Option.bind_eq_some_iff.mp hf
  obtain ⟨q2, eq2⟩ := ah_this ev1
  refine ah_callV (As := [.int x1]) (rest := [.ref a0]) K hG hL hl.1 eq2 rfl (ctX11_gives l H0 D ca M z a0 x1 v1 ev1) hdX11_gives q_1024 q_1026 q_54 q_1027 q_23 ⟨Nat.le_of_ble_eq_true rfl, Nat.le_of_ble_eq_true rfl⟩ rfl rfl (Nat.le_of_ble_eq_true rfl) ⟨Nat.le_refl _, Nat.le_refl _⟩ dX11_meets_3 (fun H locs hG hL => ?_)
  obtain ⟨M3, eM3, hf⟩ := Option.bind_eq_some_iff.mp hf
  refine ah_put K hG hL eM3 fwX11_111_11 rfl rfl dX11_meets_6 (fun H locs hG hL => ?_)
  refine lv_aload_n K.1 K.2.1 dX11_meets_9 rfl (lv_at hl 0 rfl) ?_
  refine lv_aload_n K.1 K.2.1 dX11_meets_10 rfl (lv_at hl 0 rfl) ?_
  refine lv_iload_n K.1 K.2.1 dX11_meets_11 rfl (lv_at hl 2 rfl) ?_
  obtain ⟨v4, ev4, hf⟩ := Option.bind_eq_some_iff.mp hf
  obtain ⟨q5, eq5⟩ := ah_this ev4
  refine ah_callV (As := [.int x2]) (rest := [.ref a0]) K hG hL hl.1 eq5 rfl (ctX11_gives l H0 D ca M3 z a0 x2 v4 ev4) hdX11_gives q_1024 q_1026 q_54 q_1027 q_23 ⟨Nat.le_of_ble_eq_true rfl, Nat.le_of_ble_eq_true rfl⟩ rfl rfl (Nat.le_of_ble_eq_true rfl) ⟨Nat.le_refl _, Nat.le_refl _⟩ dX11_meets_12 (fun H locs hG hL => ?_)
  obtain ⟨M6, eM6, hf⟩ := Option.bind_eq_some_iff.mp hf
  refine ah_put K hG hL eM6 fwX11_114_11 rfl rfl dX11_meets_15 (fun H locs hG hL => ?_)
  refine lv_aload_n K.1 K.2.1 dX11_meets_18 rfl (lv_at hl 0 rfl) ?_
  obtain ⟨v7, ev7, hf⟩ := Option.bind_eq_some_iff.mp hf
  refine ah_getr K hG ev7 ffX11_9_11 dX11_meets_19 ?_
  refine lv_iconst (v := 2) K.1 K.2.1 dX11_meets_22 (by decide) ?_
  refine lv_dup2_11 K.1 K.2.1 dX11_meets_23 rfl rfl ?_
  obtain ⟨v8, ev8, hf⟩ := Option.bind_eq_some_iff.mp hf
  refine ah_iald K hG ev8 dX11_meets_24 ?_
  refine lv_iconst (v := 1) K.1 K.2.1 dX11_meets_25 (by decide) ?_
  refine lv_iadd K.1 K.2.1 dX11_meets_26 ?_
  obtain ⟨M9, eM9, hf⟩ := Option.bind_eq_some_iff.mp hf
  refine ah_iast K hG hL eM9 dX11_meets_27 (fun H locs hG hL => ?_)
  refine lv_aload_n K.1 K.2.1 dX11_meets_28 rfl (lv_at hl 0 rfl) ?_
  refine lv_aload_n K.1 K.2.1 dX11_meets_29 rfl (lv_at hl 0 rfl) ?_
  obtain ⟨v10, ev10, hf⟩ := Option.bind_eq_some_iff.mp hf
  refine ah_geti K hG ev10 ffX11_111_11 dX11_meets_30 ?_
  refine lv_iconst (v := 0) K.1 K.2.1 dX11_meets_33 (by decide) ?_
  refine lv_iload_n K.1 K.2.1 dX11_meets_34 rfl (lv_at hl 2 rfl) ?_
  obtain ⟨v11, ev11, hf⟩ := Option.bind_eq_some_iff.mp hf
  obtain ⟨q12, eq12⟩ := ah_this ev11
  refine ah_callV (As := [.int v10, .int 0, .int x2]) (rest := []) K hG hL hl.1 eq12 rfl (ctX11_puts l H0 D ca M9 z a0 v10 0 x2 v11 ev11) hdX11_puts q_1000 q_1002 q_54 q_1003 q_17 ⟨Nat.le_of_ble_eq_true rfl, Nat.le_of_ble_eq_true rfl⟩ rfl rfl (Nat.le_of_ble_eq_true rfl) ⟨Nat.le_refl _, Nat.le_refl _⟩ dX11_meets_35 (fun H locs hG hL => ?_)
  refine lv_aload_n K.1 K.2.1 dX11_meets_38 rfl (lv_at hl 0 rfl) ?_
  refine lv_aload_n K.1 K.2.1 dX11_meets_39 rfl (lv_at hl 0 rfl) ?_
  obtain ⟨v13, ev13, hf⟩ := Option.bind_eq_some_iff.mp hf
  refine ah_geti K hG ev13 ffX11_114_11 dX11_meets_40 ?_
  refine lv_iconst (v := 0) K.1 K.2.1 dX11_meets_43 (by decide) ?_
  refine lv_iload_n K.1 K.2.1 dX11_meets_44 rfl (lv_at hl 1 rfl) ?_
  obtain ⟨v14, ev14, hf⟩ := Option.bind_eq_some_iff.mp hf
  obtain ⟨q15, eq15⟩ := ah_this ev14
  refine ah_callV (As := [.int v13, .int 0, .int x1]) (rest := []) K hG hL hl.1 eq15 rfl (ctX11_puts l H0 D ca v11 z a0 v13 0 x1 v14 ev14) hdX11_puts q_1000 q_1002 q_54 q_1003 q_17 ⟨Nat.le_of_ble_eq_true rfl, Nat.le_of_ble_eq_true rfl⟩ rfl rfl (Nat.le_of_ble_eq_true rfl) ⟨Nat.le_refl _, Nat.le_refl _⟩ dX11_meets_45 (fun H locs hG hL => ?_)
  refine lv_aload_n K.1 K.2.1 dX11_meets_48 rfl (lv_at hl 0 rfl) ?_
  refine lv_aload_n K.1 K.2.1 dX11_meets_49 rfl (lv_at hl 0 rfl) ?_
  obtain ⟨v16, ev16, hf⟩ := Option.bind_eq_some_iff.mp hf
  refine ah_geti K hG ev16 ffX11_111_11 dX11_meets_50 ?_
  refine lv_iconst (v := 3) K.1 K.2.1 dX11_meets_53 (by decide) ?_
  refine lv_aload_n K.1 K.2.1 dX11_meets_54 rfl (lv_at hl 0 rfl) ?_
  obtain ⟨v17, ev17, hf⟩ := Option.bind_eq_some_iff.mp hf
  refine ah_getr K hG ev17 ffX11_9_11 dX11_meets_55 ?_
  refine lv_iconst (v := 2) K.1 K.2.1 dX11_meets_58 (by decide) ?_
  obtain ⟨v18, ev18, hf⟩ := Option.bind_eq_some_iff.mp hf
  refine ah_iald K hG ev18 dX11_meets_59 ?_
  obtain ⟨v19, ev19, hf⟩ := Option.bind_eq_some_iff.mp hf
  obtain ⟨q20, eq20⟩ := ah_this ev19
  refine ah_callV (As := [.int v16, .int 3, .int v18]) (rest := []) K hG hL hl.1 eq20 rfl (ctX11_puts l H0 D ca v14 z a0 v16 3 v18 v19 ev19) hdX11_puts q_1000 q_1002 q_54 q_1003 q_17 ⟨Nat.le_of_ble_eq_true rfl, Nat.le_of_ble_eq_true rfl⟩ rfl rfl (Nat.le_of_ble_eq_true rfl) ⟨Nat.le_refl _, Nat.le_refl _⟩ dX11_meets_60 (fun H locs hG hL => ?_)
  refine lv_aload_n K.1 K.2.1 dX11_meets_63 rfl (lv_at hl 0 rfl) ?_
  refine lv_aload_n K.1 K.2.1 dX11_meets_64 rfl (lv_at hl 0 rfl) ?_
  obtain ⟨v21, ev21, hf⟩ := Option.bind_eq_some_iff.mp hf
  refine ah_geti K hG ev21 ffX11_114_11 dX11_meets_65 ?_
  refine lv_iconst (v := 3) K.1 K.2.1 dX11_meets_68 (by decide) ?_
  refine lv_aload_n K.1 K.2.1 dX11_meets_69 rfl (lv_at hl 0 rfl) ?_
  obtain ⟨v22, ev22, hf⟩ := Option.bind_eq_some_iff.mp hf
  refine ah_getr K hG ev22 ffX11_9_11 dX11_meets_70 ?_
  refine lv_iconst (v := 2) K.1 K.2.1 dX11_meets_73 (by decide) ?_
  obtain ⟨v23, ev23, hf⟩ := Option.bind_eq_some_iff.mp hf
  refine ah_iald K hG ev23 dX11_meets_74 ?_
  obtain ⟨v24, ev24, hf⟩ := Option.bind_eq_some_iff.mp hf
  obtain ⟨q25, eq25⟩ := ah_this ev24
  refine ah_callV (As := [.int v21, .int 3, .int v23]) (rest := []) K hG hL hl.1 eq25 rfl (ctX11_puts l H0 D ca v19 z a0 v21 3 v23 v24 ev24) hdX11_puts q_1000 q_1002 q_54 q_1003 q_17 ⟨Nat.le_of_ble_eq_true rfl, Nat.le_of_ble_eq_true rfl⟩ rfl rfl (Nat.le_of_ble_eq_true rfl) ⟨Nat.le_refl _, Nat.le_refl _⟩ dX11_meets_75 (fun H locs hG hL => ?_)
  refine lv_aload_n K.1 K.2.1 dX11_meets_78 rfl (lv_at hl 0 rfl) ?_
  refine lv_iload_n K.1 K.2.1 dX11_meets_79 rfl (lv_at hl 1 rfl) ?_
  obtain ⟨v26, ev26, hf⟩ := Option.bind_eq_some_iff.mp hf
  obtain ⟨q27, eq27⟩ := ah_this ev26
  refine ah_callV (As := [.int x1]) (rest := []) K hG hL hl.1 eq27 rfl (ctX11_sails l H0 D ca v24 z a0 x1 v26 ev26) hdX11_sails q_1004 q_1006 q_54 q_1007 q_18 ⟨Nat.le_of_ble_eq_true rfl, Nat.le_of_ble_eq_true rfl⟩ rfl rfl (Nat.le_of_ble_eq_true rfl) ⟨Nat.le_refl _, Nat.le_refl _⟩ dX11_meets_80 (fun H locs hG hL => ?_)
  refine lv_aload_n K.1 K.2.1 dX11_meets_83 rfl (lv_at hl 0 rfl) ?_
  refine lv_iload_n K.1 K.2.1 dX11_meets_84 rfl (lv_at hl 2 rfl) ?_
  obtain ⟨v28, ev28, hf⟩ := Option.bind_eq_some_iff.mp hf
  obtain ⟨q29, eq29⟩ := ah_this ev28
  refine ah_callV (As := [.int x2]) (rest := []) K hG hL hl.1 eq29 rfl (ctX11_sails l H0 D ca v26 z a0 x2 v28 ev28) hdX11_sails q_1004 q_1006 q_54 q_1007 q_18 ⟨Nat.le_of_ble_eq_true rfl, Nat.le_of_ble_eq_true rfl⟩ rfl rfl (Nat.le_of_ble_eq_true rfl) ⟨Nat.le_refl _, Nat.le_refl _⟩ dX11_meets_85 (fun H locs hG hL => ?_)
  have hf := Option.some.inj hf
  subst hf
  exact ah_vret K hG hL (Nat.le_refl _) (Nat.le_refl _) dX11_meets_88
def fX11_here (M : ah_h) (a0 : Nat) : Option (Int32) := (ah_ob M a0 11).bind fun _ => (ah_gi M a0 11 14).bind fun v1 => (ah_gi M a0 11 16).bind fun v2 => if v2 ≤ v1 then (some (-1000)) else ((ah_gr M a0 11 7).bind fun v4 => (ah_gi M a0 11 15).bind fun v5 => (ah_gi M a0 11 14).bind fun v6 => (ah_ai M v4 (v5 + v6)).bind fun v7 => some v7)
set_option maxRecDepth 100000 in
set_option maxHeartbeats 4000000 in
theorem ctX11_here (l : Launch) (H0 : Heap) (D : va_G) (ca : Nat → ClassId) (M : ah_h) (z : Nat) (a0 : Nat) (Z : Int32) (hf : fX11_here M a0 = some Z) : ah_ct l H0 D ca yX11_here cX11_here 1 (some .int) 0 0 0 0 [.ref a0] M z (some (.int Z)) M z := by
  refine ah_of (by decide) (Nat.le_of_ble_eq_true rfl) ?_
  intro p e s m below meth c ls hin K hG hl
  have hL : ah_L H0 [] := ah_L.nil
  have hl : lv_has ls 1 [(0, .ref a0)] := hl
  unfold fX11_here at hf
  obtain ⟨-, -, hf⟩ := Option.bind_eq_some_iff.mp hf
  refine lv_aload_n K.1 K.2.1 dX11_here_0 rfl (lv_at hl 0 rfl) ?_
  obtain ⟨v1, ev1, hf⟩ := Option.bind_eq_some_iff.mp hf
  refine ah_geti K hG ev1 ffX11_121_11 dX11_here_1 ?_
  refine lv_aload_n K.1 K.2.1 dX11_here_4 rfl (lv_at hl 0 rfl) ?_
  obtain ⟨v2, ev2, hf⟩ := Option.bind_eq_some_iff.mp hf
  refine ah_geti K hG ev2 ffX11_124_11 dX11_here_5 ?_
  refine lv_icmp_ge (tgt := 28) K.1 K.2.1 dX11_here_8 (by decide) (fun h3 => ?_) (fun h3 => ?_)
  · rw [if_pos h3] at hf
    refine lv_sipush (v := (-1000)) K.1 K.2.1 dX11_here_28 (by decide) ?_
    have hf := Option.some.inj hf
    subst hf
    exact ah_iret K hG hL (Nat.le_refl _) (Nat.le_refl _) dX11_here_31
  · rw [if_neg h3] at hf
    refine lv_aload_n K.1 K.2.1 dX11_here_11 rfl (lv_at hl 0 rfl) ?_
    obtain ⟨v4, ev4, hf⟩ := Option.bind_eq_some_iff.mp hf
    refine ah_getr K hG ev4 ffX11_31_11 dX11_here_12 ?_
    refine lv_aload_n K.1 K.2.1 dX11_here_15 rfl (lv_at hl 0 rfl) ?_
    obtain ⟨v5, ev5, hf⟩ := Option.bind_eq_some_iff.mp hf
    refine ah_geti K hG ev5 ffX11_127_11 dX11_here_16 ?_
    refine lv_aload_n K.1 K.2.1 dX11_here_19 rfl (lv_at hl 0 rfl) ?_
    obtain ⟨v6, ev6, hf⟩ := Option.bind_eq_some_iff.mp hf
    refine ah_geti K hG ev6 ffX11_121_11 dX11_here_20 ?_
    refine lv_iadd K.1 K.2.1 dX11_here_23 ?_
    obtain ⟨v7, ev7, hf⟩ := Option.bind_eq_some_iff.mp hf
    refine ah_iald K hG ev7 dX11_here_24 ?_
    refine lv_goto (tgt := 31) K.1 K.2.1 dX11_here_25 (by decide) ?_
    have hf := Option.some.inj hf
    subst hf
    exact ah_iret K hG hL (Nat.le_refl _) (Nat.le_refl _) dX11_here_31
def fX11_readsDigits_2_b   (k2 : ah_h → Nat → Int32 → Int32 → Option (Int32 × ah_h))  (M : ah_h) (a0 : Nat) (x1 : Int32) (x2 : Int32) : Option (Int32 × ah_h) := if x1 ≤ x2 then (some (1, M)) else ((fX11_here M a0).bind fun v2 => (fX11_isIn M v2.toInt64 48 57).bind fun v4 => if v4 = 0 then (some (0, M)) else ((ah_gr M a0 11 18).bind fun v6 => (fX11_here M a0).bind fun v7 => (ah_si M v6 x2 (v7 - 48)).bind fun M9 => (ah_gi M9 a0 11 14).bind fun v10 => (ah_pf M9 a0 11 14 (.int (v10 + 1))).bind fun M11 => k2 M11 a0 x1 (x2 + 1)))
def fX11_readsDigits_2    : Nat → ah_h → Nat → Int32 → Int32 → Option (Int32 × ah_h)
  | 0 => fun _ _ _ _ => none
  | n + 1 => fun M a0 x1 x2 => fX11_readsDigits_2_b   (fX11_readsDigits_2    n)  M a0 x1 x2
set_option maxRecDepth 100000 in
set_option maxHeartbeats 4000000 in
theorem wX11_readsDigits_2_b {p : Program} {l : Launch} {e : Env} {s : State} {m : MethodId} {args : Array Value} {below : List Frame} {meth : Method} {c : Code} {D : va_G} {ca : Nat → ClassId} {H0 : Heap} {z : Nat} (K : ah_K p s m args meth c D ca "ShipsThatMeetModel" cX11_readsDigits 3 (some .boolean))   (k2 : ah_h → Nat → Int32 → Int32 → Option (Int32 × ah_h)) (hk2 : ∀ (M : ah_h) (a0 : Nat) (x1 : Int32) (x2 : Int32)  (H : Heap) (locs : List Loc) (ls : Array Slot), ah_g H0 D ca M z H → ah_L H0 locs → lv_has ls 3 [(0, .ref a0), (1, .int x1), (2, .int x2)] → ∀ Z, k2 M a0 x1 x2 = some Z → W p l e { frames := 1, cells := 0, slots := 0, locals := 25 } s m args below meth c H locs 0 0 (ah_Q below args s H0 D ca 0 0 (some (.int Z.1)) Z.2 z) (F0 m 2 ls [])) : ∀ (M : ah_h) (a0 : Nat) (x1 : Int32) (x2 : Int32)  (H : Heap) (locs : List Loc) (ls : Array Slot), ah_g H0 D ca M z H → ah_L H0 locs → lv_has ls 3 [(0, .ref a0), (1, .int x1), (2, .int x2)] → ∀ Z, fX11_readsDigits_2_b   k2  M a0 x1 x2 = some Z → W p l e { frames := 1, cells := 0, slots := 0, locals := 25 } s m args below meth c H locs 0 0 (ah_Q below args s H0 D ca 0 0 (some (.int Z.1)) Z.2 z) (F0 m 2 ls []) := by
  intro M a0 x1 x2 H locs ls hG hL hl Z hf
  unfold fX11_readsDigits_2_b at hf
  refine lv_iload_n K.1 K.2.1 dX11_readsDigits_2 rfl (lv_at hl 2 rfl) ?_
  refine lv_iload_n K.1 K.2.1 dX11_readsDigits_3 rfl (lv_at hl 1 rfl) ?_
  refine lv_icmp_ge (tgt := 55) K.1 K.2.1 dX11_readsDigits_4 (by decide) (fun h1 => ?_) (fun h1 => ?_)
  · rw [if_pos h1] at hf
    refine lv_iconst (v := 1) K.1 K.2.1 dX11_readsDigits_55 (by decide) ?_
    have hf := Option.some.inj hf
    subst hf
    exact ah_zret K hG hL (Or.inr rfl) (Nat.le_refl _) (Nat.le_refl _) dX11_readsDigits_56
  · rw [if_neg h1] at hf
    refine lv_aload_n K.1 K.2.1 dX11_readsDigits_7 rfl (lv_at hl 0 rfl) ?_
    obtain ⟨v2, ev2, hf⟩ := Option.bind_eq_some_iff.mp hf
    obtain ⟨q3, eq3⟩ := ah_this ev2
    refine ah_callV (As := []) (rest := []) K hG hL hl.1 eq3 rfl (ctX11_here l H0 D ca M z a0 v2 ev2) hdX11_here q_979 q_981 q_54 q_982 q_13 ⟨Nat.le_of_ble_eq_true rfl, Nat.le_of_ble_eq_true rfl⟩ rfl rfl (Nat.le_of_ble_eq_true rfl) ⟨Nat.le_refl _, Nat.le_refl _⟩ dX11_readsDigits_8 (fun H locs hG hL => ?_)
    refine lv_i2l (v := v2.toInt64) K.1 K.2.1 dX11_readsDigits_11 rfl ?_
    refine lv_ldc2 (v := 48) K.1 K.2.1 K.2.2.2.1 (K.2.2.2.2.1 _ q_987) dX11_readsDigits_12 ?_
    refine lv_ldc2 (v := 57) K.1 K.2.1 K.2.2.2.1 (K.2.2.2.2.1 _ q_988) dX11_readsDigits_15 ?_
    obtain ⟨v4, ev4, hf⟩ := Option.bind_eq_some_iff.mp hf
    refine ah_callS (As := [.long v2.toInt64, .long 48, .long 57]) (rest := []) K hG hL hl.1 (ctX11_isIn l H0 D ca M z v2.toInt64 48 57 v4 ev4) hdX11_isIn q_972 q_973 q_54 q_974 ⟨Nat.le_of_ble_eq_true rfl, Nat.le_of_ble_eq_true rfl⟩ rfl rfl (Nat.le_of_ble_eq_true rfl) ⟨Nat.le_refl _, Nat.le_refl _⟩ dX11_readsDigits_18 (fun H locs hG hL => ?_)
    refine lv_if_ne (tgt := 26) K.1 K.2.1 dX11_readsDigits_21 (by decide) (fun h5 => ?_) (fun h5 => ?_)
    · rw [if_neg h5] at hf
      refine lv_aload_n K.1 K.2.1 dX11_readsDigits_26 rfl (lv_at hl 0 rfl) ?_
      obtain ⟨v6, ev6, hf⟩ := Option.bind_eq_some_iff.mp hf
      refine ah_getr K hG ev6 ffX11_40_11 dX11_readsDigits_27 ?_
      refine lv_iload_n K.1 K.2.1 dX11_readsDigits_30 rfl (lv_at hl 2 rfl) ?_
      refine lv_aload_n K.1 K.2.1 dX11_readsDigits_31 rfl (lv_at hl 0 rfl) ?_
      obtain ⟨v7, ev7, hf⟩ := Option.bind_eq_some_iff.mp hf
      obtain ⟨q8, eq8⟩ := ah_this ev7
      refine ah_callV (As := []) (rest := [.int x2, .ref v6]) K hG hL hl.1 eq8 rfl (ctX11_here l H0 D ca M z a0 v7 ev7) hdX11_here q_979 q_981 q_54 q_982 q_13 ⟨Nat.le_of_ble_eq_true rfl, Nat.le_of_ble_eq_true rfl⟩ rfl rfl (Nat.le_of_ble_eq_true rfl) ⟨Nat.le_refl _, Nat.le_refl _⟩ dX11_readsDigits_32 (fun H locs hG hL => ?_)
      refine lv_bipush (v := 48) K.1 K.2.1 dX11_readsDigits_35 (by decide) ?_
      refine lv_isub K.1 K.2.1 dX11_readsDigits_37 ?_
      obtain ⟨M9, eM9, hf⟩ := Option.bind_eq_some_iff.mp hf
      refine ah_iast K hG hL eM9 dX11_readsDigits_38 (fun H locs hG hL => ?_)
      refine lv_aload_n K.1 K.2.1 dX11_readsDigits_39 rfl (lv_at hl 0 rfl) ?_
      refine lv_dup K.1 K.2.1 dX11_readsDigits_40 rfl ?_
      obtain ⟨v10, ev10, hf⟩ := Option.bind_eq_some_iff.mp hf
      refine ah_geti K hG ev10 ffX11_121_11 dX11_readsDigits_41 ?_
      refine lv_iconst (v := 1) K.1 K.2.1 dX11_readsDigits_44 (by decide) ?_
      refine lv_iadd K.1 K.2.1 dX11_readsDigits_45 ?_
      obtain ⟨M11, eM11, hf⟩ := Option.bind_eq_some_iff.mp hf
      refine ah_put K hG hL eM11 fwX11_121_11 rfl rfl dX11_readsDigits_46 (fun H locs hG hL => ?_)
      refine lv_iinc (v := x2 + 1) (lv' := [(2, .int (x2 + 1)), (0, .ref a0), (1, .int x1)]) K.1 K.2.1 dX11_readsDigits_49 hl (k := 2) rfl rfl (by decide) rfl (fun ls hl => ?_)
      refine lv_goto (tgt := 2) K.1 K.2.1 dX11_readsDigits_52 (by decide) ?_
      exact hk2 M11 a0 x1 (x2 + 1) _ _ _ hG hL (lv_sub hl [1, 2, 0] rfl) _ hf
    · rw [if_pos h5] at hf
      refine lv_iconst (v := 0) K.1 K.2.1 dX11_readsDigits_24 (by decide) ?_
      have hf := Option.some.inj hf
      subst hf
      exact ah_zret K hG hL (Or.inl rfl) (Nat.le_refl _) (Nat.le_refl _) dX11_readsDigits_25
theorem wX11_readsDigits_2 {p : Program} {l : Launch} {e : Env} {s : State} {m : MethodId} {args : Array Value} {below : List Frame} {meth : Method} {c : Code} {D : va_G} {ca : Nat → ClassId} {H0 : Heap} {z : Nat} (K : ah_K p s m args meth c D ca "ShipsThatMeetModel" cX11_readsDigits 3 (some .boolean))   (n : Nat) : ∀ (M : ah_h) (a0 : Nat) (x1 : Int32) (x2 : Int32)  (H : Heap) (locs : List Loc) (ls : Array Slot), ah_g H0 D ca M z H → ah_L H0 locs → lv_has ls 3 [(0, .ref a0), (1, .int x1), (2, .int x2)] → ∀ Z, fX11_readsDigits_2    n M a0 x1 x2 = some Z → W p l e { frames := 1, cells := 0, slots := 0, locals := 25 } s m args below meth c H locs 0 0 (ah_Q below args s H0 D ca 0 0 (some (.int Z.1)) Z.2 z) (F0 m 2 ls []) := by
  induction n with
  | zero => intro M a0 x1 x2 H locs ls hG hL hl Z hf; cases hf
  | succ n ih => exact wX11_readsDigits_2_b K  _ ih
def fX11_readsDigits (M : ah_h) (a0 : Nat) (x1 : Int32) : Option (Int32 × ah_h) := (ah_ob M a0 11).bind fun _ => fX11_readsDigits_2 ah_fu M a0 x1 0
set_option maxRecDepth 100000 in
set_option maxHeartbeats 4000000 in
theorem ctX11_readsDigits (l : Launch) (H0 : Heap) (D : va_G) (ca : Nat → ClassId) (M : ah_h) (z : Nat) (a0 : Nat) (x1 : Int32) (Z : Int32 × ah_h) (hf : fX11_readsDigits M a0 x1 = some Z) : ah_ct l H0 D ca yX11_readsDigits cX11_readsDigits 3 (some .boolean) 1 25 0 0 [.ref a0, .int x1] M z (some (.int Z.1)) Z.2 z := by
  refine ah_of (by decide) (Nat.le_of_ble_eq_true rfl) ?_
  intro p e s m below meth c ls hin K hG hl
  have hL : ah_L H0 [] := ah_L.nil
  have hl : lv_has ls 3 [(0, .ref a0), (1, .int x1)] := hl
  unfold fX11_readsDigits at hf
  obtain ⟨-, -, hf⟩ := Option.bind_eq_some_iff.mp hf
  refine lv_iconst (v := 0) K.1 K.2.1 dX11_readsDigits_0 (by decide) ?_
  refine lv_istore_n (lv' := [(2, .int 0), (0, .ref a0), (1, .int x1)]) K.1 K.2.1 dX11_readsDigits_1 rfl hl (by decide) rfl (fun ls hl => ?_)
  exact wX11_readsDigits_2 K  ah_fu M a0 x1 0 _ _ _ hG hL (lv_sub hl [1, 2, 0] rfl) _ hf
def fX11_readsStatement_47    (M : ah_h) (a0 : Nat) (s0 : Nat) (s1 : Int32) : Option (Int32 × ah_h) := (fX11_readsDigits M s0 s1).bind fun v1 => if v1.1 = 0 then (some (0, v1.2)) else ((fX11_here v1.2 a0).bind fun v4 => if v4 = 59 then ((ah_gi v1.2 a0 11 14).bind fun v7 => (ah_pf v1.2 a0 11 14 (.int (v7 + 1))).bind fun M8 => some (1, M8)) else (some (0, v1.2)))
set_option maxRecDepth 100000 in
set_option maxHeartbeats 4000000 in
theorem wX11_readsStatement_47 {p : Program} {l : Launch} {e : Env} {s : State} {m : MethodId} {args : Array Value} {below : List Frame} {meth : Method} {c : Code} {D : va_G} {ca : Nat → ClassId} {H0 : Heap} {z : Nat} (K : ah_K p s m args meth c D ca "ShipsThatMeetModel" cX11_readsStatement 2 (some .boolean))   : ∀ (M : ah_h) (a0 : Nat) (s0 : Nat) (s1 : Int32)  (H : Heap) (locs : List Loc) (ls : Array Slot), ah_g H0 D ca M z H → ah_L H0 locs → lv_has ls 2 [(0, .ref a0)] → ∀ Z, fX11_readsStatement_47    M a0 s0 s1 = some Z → W p l e { frames := 2, cells := 0, slots := 0, locals := 47 } s m args below meth c H locs 0 0 (ah_Q below args s H0 D ca 0 0 (some (.int Z.1)) Z.2 z) (F0 m 47 ls [.int s1, .ref s0]) := by
  intro M a0 s0 s1 H locs ls hG hL hl Z hf
  unfold fX11_readsStatement_47 at hf
  obtain ⟨v1, ev1, hf⟩ := Option.bind_eq_some_iff.mp hf
  obtain ⟨q2, eq2⟩ := ah_this ev1
  refine ah_callV (As := [.int s1]) (rest := []) K hG hL hl.1 eq2 rfl (ctX11_readsDigits l H0 D ca M z s0 s1 v1 ev1) hdX11_readsDigits q_983 q_985 q_54 q_986 q_14 ⟨Nat.le_of_ble_eq_true rfl, Nat.le_of_ble_eq_true rfl⟩ rfl rfl (Nat.le_of_ble_eq_true rfl) ⟨Nat.le_refl _, Nat.le_refl _⟩ dX11_readsStatement_47 (fun H locs hG hL => ?_)
  refine lv_if_eq (tgt := 62) K.1 K.2.1 dX11_readsStatement_50 (by decide) (fun h3 => ?_) (fun h3 => ?_)
  · rw [if_pos h3] at hf
    refine lv_iconst (v := 0) K.1 K.2.1 dX11_readsStatement_62 (by decide) ?_
    have hf := Option.some.inj hf
    subst hf
    exact ah_zret K hG hL (Or.inl rfl) (Nat.le_refl _) (Nat.le_refl _) dX11_readsStatement_63
  · rw [if_neg h3] at hf
    refine lv_aload_n K.1 K.2.1 dX11_readsStatement_53 rfl (lv_at hl 0 rfl) ?_
    obtain ⟨v4, ev4, hf⟩ := Option.bind_eq_some_iff.mp hf
    obtain ⟨q5, eq5⟩ := ah_this ev4
    refine ah_callV (As := []) (rest := []) K hG hL hl.1 eq5 rfl (ctX11_here l H0 D ca v1.2 z a0 v4 ev4) hdX11_here q_979 q_981 q_54 q_982 q_13 ⟨Nat.le_of_ble_eq_true rfl, Nat.le_of_ble_eq_true rfl⟩ rfl rfl (Nat.le_of_ble_eq_true rfl) ⟨Nat.le_refl _, Nat.le_refl _⟩ dX11_readsStatement_54 (fun H locs hG hL => ?_)
    refine lv_bipush (v := 59) K.1 K.2.1 dX11_readsStatement_57 (by decide) ?_
    refine lv_icmp_eq (tgt := 64) K.1 K.2.1 dX11_readsStatement_59 (by decide) (fun h6 => ?_) (fun h6 => ?_)
    · rw [if_pos h6] at hf
      refine lv_aload_n K.1 K.2.1 dX11_readsStatement_64 rfl (lv_at hl 0 rfl) ?_
      refine lv_dup K.1 K.2.1 dX11_readsStatement_65 rfl ?_
      obtain ⟨v7, ev7, hf⟩ := Option.bind_eq_some_iff.mp hf
      refine ah_geti K hG ev7 ffX11_121_11 dX11_readsStatement_66 ?_
      refine lv_iconst (v := 1) K.1 K.2.1 dX11_readsStatement_69 (by decide) ?_
      refine lv_iadd K.1 K.2.1 dX11_readsStatement_70 ?_
      obtain ⟨M8, eM8, hf⟩ := Option.bind_eq_some_iff.mp hf
      refine ah_put K hG hL eM8 fwX11_121_11 rfl rfl dX11_readsStatement_71 (fun H locs hG hL => ?_)
      refine lv_iconst (v := 1) K.1 K.2.1 dX11_readsStatement_74 (by decide) ?_
      have hf := Option.some.inj hf
      subst hf
      exact ah_zret K hG hL (Or.inr rfl) (Nat.le_refl _) (Nat.le_refl _) dX11_readsStatement_75
    · rw [if_neg h6] at hf
      refine lv_iconst (v := 0) K.1 K.2.1 dX11_readsStatement_62 (by decide) ?_
      have hf := Option.some.inj hf
      subst hf
      exact ah_zret K hG hL (Or.inl rfl) (Nat.le_refl _) (Nat.le_refl _) dX11_readsStatement_63
def fX11_readsStatement_25    (M : ah_h) (a0 : Nat) (x1 : Int32) : Option (Int32 × ah_h) := (ah_gi M a0 11 14).bind fun v1 => (ah_pf M a0 11 14 (.int (v1 + 1))).bind fun M2 => if x1 = 109 then (fX11_readsStatement_47 M2 a0 a0 3) else (fX11_readsStatement_47 M2 a0 a0 2)
set_option maxRecDepth 100000 in
set_option maxHeartbeats 4000000 in
theorem wX11_readsStatement_25 {p : Program} {l : Launch} {e : Env} {s : State} {m : MethodId} {args : Array Value} {below : List Frame} {meth : Method} {c : Code} {D : va_G} {ca : Nat → ClassId} {H0 : Heap} {z : Nat} (K : ah_K p s m args meth c D ca "ShipsThatMeetModel" cX11_readsStatement 2 (some .boolean))   : ∀ (M : ah_h) (a0 : Nat) (x1 : Int32)  (H : Heap) (locs : List Loc) (ls : Array Slot), ah_g H0 D ca M z H → ah_L H0 locs → lv_has ls 2 [(0, .ref a0), (1, .int x1)] → ∀ Z, fX11_readsStatement_25    M a0 x1 = some Z → W p l e { frames := 2, cells := 0, slots := 0, locals := 47 } s m args below meth c H locs 0 0 (ah_Q below args s H0 D ca 0 0 (some (.int Z.1)) Z.2 z) (F0 m 25 ls []) := by
  intro M a0 x1 H locs ls hG hL hl Z hf
  unfold fX11_readsStatement_25 at hf
  refine lv_aload_n K.1 K.2.1 dX11_readsStatement_25 rfl (lv_at hl 0 rfl) ?_
  refine lv_dup K.1 K.2.1 dX11_readsStatement_26 rfl ?_
  obtain ⟨v1, ev1, hf⟩ := Option.bind_eq_some_iff.mp hf
  refine ah_geti K hG ev1 ffX11_121_11 dX11_readsStatement_27 ?_
  refine lv_iconst (v := 1) K.1 K.2.1 dX11_readsStatement_30 (by decide) ?_
  refine lv_iadd K.1 K.2.1 dX11_readsStatement_31 ?_
  obtain ⟨M2, eM2, hf⟩ := Option.bind_eq_some_iff.mp hf
  refine ah_put K hG hL eM2 fwX11_121_11 rfl rfl dX11_readsStatement_32 (fun H locs hG hL => ?_)
  refine lv_aload_n K.1 K.2.1 dX11_readsStatement_35 rfl (lv_at hl 0 rfl) ?_
  refine lv_iload_n K.1 K.2.1 dX11_readsStatement_36 rfl (lv_at hl 1 rfl) ?_
  refine lv_bipush (v := 109) K.1 K.2.1 dX11_readsStatement_37 (by decide) ?_
  refine lv_icmp_ne (tgt := 46) K.1 K.2.1 dX11_readsStatement_39 (by decide) (fun h3 => ?_) (fun h3 => ?_)
  · rw [if_neg h3] at hf
    refine lv_iconst (v := 2) K.1 K.2.1 dX11_readsStatement_46 (by decide) ?_
    exact wX11_readsStatement_47 K  M2 a0 a0 2 _ _ _ hG hL (lv_sub hl [0] rfl) _ hf
  · rw [if_pos h3] at hf
    refine lv_iconst (v := 3) K.1 K.2.1 dX11_readsStatement_42 (by decide) ?_
    refine lv_goto (tgt := 47) K.1 K.2.1 dX11_readsStatement_43 (by decide) ?_
    exact wX11_readsStatement_47 K  M2 a0 a0 3 _ _ _ hG hL (lv_sub hl [0] rfl) _ hf
def fX11_readsStatement (M : ah_h) (a0 : Nat) : Option (Int32 × ah_h) := (ah_ob M a0 11).bind fun _ => (fX11_here M a0).bind fun v1 => if v1 = 115 then (fX11_readsStatement_25 M a0 v1) else (if v1 = 109 then (fX11_readsStatement_25 M a0 v1) else (if v1 = 120 then (fX11_readsStatement_25 M a0 v1) else (some (0, M))))
set_option maxRecDepth 100000 in
set_option maxHeartbeats 4000000 in
theorem ctX11_readsStatement (l : Launch) (H0 : Heap) (D : va_G) (ca : Nat → ClassId) (M : ah_h) (z : Nat) (a0 : Nat) (Z : Int32 × ah_h) (hf : fX11_readsStatement M a0 = some Z) : ah_ct l H0 D ca yX11_readsStatement cX11_readsStatement 2 (some .boolean) 2 47 0 0 [.ref a0] M z (some (.int Z.1)) Z.2 z := by
  refine ah_of (by decide) (Nat.le_of_ble_eq_true rfl) ?_
  intro p e s m below meth c ls hin K hG hl
  have hL : ah_L H0 [] := ah_L.nil
  have hl : lv_has ls 2 [(0, .ref a0)] := hl
  unfold fX11_readsStatement at hf
  obtain ⟨-, -, hf⟩ := Option.bind_eq_some_iff.mp hf
  refine lv_aload_n K.1 K.2.1 dX11_readsStatement_0 rfl (lv_at hl 0 rfl) ?_
  obtain ⟨v1, ev1, hf⟩ := Option.bind_eq_some_iff.mp hf
  obtain ⟨q2, eq2⟩ := ah_this ev1
  refine ah_callV (As := []) (rest := []) K hG hL hl.1 eq2 rfl (ctX11_here l H0 D ca M z a0 v1 ev1) hdX11_here q_979 q_981 q_54 q_982 q_13 ⟨Nat.le_of_ble_eq_true rfl, Nat.le_of_ble_eq_true rfl⟩ rfl rfl (Nat.le_of_ble_eq_true rfl) ⟨Nat.le_refl _, Nat.le_refl _⟩ dX11_readsStatement_1 (fun H locs hG hL => ?_)
  refine lv_istore_n (lv' := [(1, .int v1), (0, .ref a0)]) K.1 K.2.1 dX11_readsStatement_4 rfl hl (by decide) rfl (fun ls hl => ?_)
  refine lv_iload_n K.1 K.2.1 dX11_readsStatement_5 rfl (lv_at hl 0 rfl) ?_
  refine lv_bipush (v := 115) K.1 K.2.1 dX11_readsStatement_6 (by decide) ?_
  refine lv_icmp_eq (tgt := 25) K.1 K.2.1 dX11_readsStatement_8 (by decide) (fun h3 => ?_) (fun h3 => ?_)
  · rw [if_pos h3] at hf
    exact wX11_readsStatement_25 K  M a0 v1 _ _ _ hG hL (lv_sub hl [1, 0] rfl) _ hf
  · rw [if_neg h3] at hf
    refine lv_iload_n K.1 K.2.1 dX11_readsStatement_11 rfl (lv_at hl 0 rfl) ?_
    refine lv_bipush (v := 109) K.1 K.2.1 dX11_readsStatement_12 (by decide) ?_
    refine lv_icmp_eq (tgt := 25) K.1 K.2.1 dX11_readsStatement_14 (by decide) (fun h4 => ?_) (fun h4 => ?_)
    · rw [if_pos h4] at hf
      exact wX11_readsStatement_25 K  M a0 v1 _ _ _ hG hL (lv_sub hl [1, 0] rfl) _ hf
    · rw [if_neg h4] at hf
      refine lv_iload_n K.1 K.2.1 dX11_readsStatement_17 rfl (lv_at hl 0 rfl) ?_
      refine lv_bipush (v := 120) K.1 K.2.1 dX11_readsStatement_18 (by decide) ?_
      refine lv_icmp_eq (tgt := 25) K.1 K.2.1 dX11_readsStatement_20 (by decide) (fun h5 => ?_) (fun h5 => ?_)
      · rw [if_pos h5] at hf
        exact wX11_readsStatement_25 K  M a0 v1 _ _ _ hG hL (lv_sub hl [1, 0] rfl) _ hf
      · rw [if_neg h5] at hf
        refine lv_iconst (v := 0) K.1 K.2.1 dX11_readsStatement_23 (by decide) ?_
        have hf := Option.some.inj hf
        subst hf
        exact ah_zret K hG hL (Or.inl rfl) (Nat.le_refl _) (Nat.le_refl _) dX11_readsStatement_24
def fX11_comes (M : ah_h) (a0 : Nat) (x1 : Int32) : Option (Int32 × ah_h) := (ah_ob M a0 11).bind fun _ => (ah_gr M a0 11 18).bind fun v1 => (ah_ai M v1 0).bind fun v2 => (ah_gr M a0 11 18).bind fun v3 => (ah_ai M v3 1).bind fun v4 => if x1 = 109 then ((fX11_isShip M a0 v2).bind fun v6 => if v6 = 0 then (some (0, M)) else (if 3 < v4 then (some (0, M)) else ((ah_gr M a0 11 18).bind fun v10 => (ah_ai M v10 2).bind fun v11 => if 3 < v11 then (some (0, M)) else ((ah_gr M a0 11 0).bind fun v13 => (ah_ai M v13 1).bind fun v14 => if v14 = 12 then (some (0, M)) else ((ah_gr M a0 11 0).bind fun v16 => (ah_ai M v16 1).bind fun v17 => (fX11_puts M a0 v17 0 v2).bind fun v18 => (fX11_puts v18 a0 v17 1 v4).bind fun v20 => (ah_gr v20 a0 11 18).bind fun v22 => (ah_ai v20 v22 2).bind fun v23 => (fX11_puts v20 a0 v17 2 v23).bind fun v24 => (fX11_puts v24 a0 v17 3 0).bind fun v26 => (fX11_puts v26 a0 v17 4 0).bind fun v28 => (ah_gr v28 a0 11 0).bind fun v30 => (ah_ai v28 v30 1).bind fun v31 => (ah_si v28 v30 1 (v31 + 1)).bind fun M32 => (fX11_sails M32 a0 v2).bind fun v33 => some (1, v33)))))) else if x1 = 115 then (if 7 < v2 then (some (0, M)) else ((ah_gr M a0 11 0).bind fun v37 => (ah_ai M v37 0).bind fun v38 => if v38 = 5 then (some (0, M)) else ((ah_gr M a0 11 0).bind fun v40 => (ah_gr M a0 11 0).bind fun v41 => (ah_ai M v41 0).bind fun v42 => (ah_si M v40 (3 + (2 * v42)) v2).bind fun M43 => (ah_gr M43 a0 11 0).bind fun v44 => (ah_gr M43 a0 11 0).bind fun v45 => (ah_ai M43 v45 0).bind fun v46 => (ah_si M43 v44 ((3 + (2 * v46)) + 1) v4).bind fun M47 => (ah_gr M47 a0 11 0).bind fun v48 => (ah_ai M47 v48 0).bind fun v49 => (ah_si M47 v48 0 (v49 + 1)).bind fun M50 => some (1, M50)))) else ((fX11_mayMeet M a0 v2 v4).bind fun v51 => if v51 = 0 then (some (0, M)) else ((fX11_meets M a0 v2 v4).bind fun v54 => some (1, v54)))
set_option maxRecDepth 100000 in
set_option maxHeartbeats 4000000 in
theorem ctX11_comes (l : Launch) (H0 : Heap) (D : va_G) (ca : Nat → ClassId) (M : ah_h) (z : Nat) (a0 : Nat) (x1 : Int32) (Z : Int32 × ah_h) (hf : fX11_comes M a0 x1 = some Z) : ah_ct l H0 D ca yX11_comes cX11_comes 5 (some .boolean) 5 116 0 0 [.ref a0, .int x1] M z (some (.int Z.1)) Z.2 z := by
  refine ah_of (by decide) (Nat.le_of_ble_eq_true rfl) ?_
  intro p e s m below meth c ls hin K hG hl
  have hL : ah_L H0 [] := ah_L.nil
  have hl : lv_has ls 5 [(0, .ref a0), (1, .int x1)] := hl
  unfold fX11_comes at hf
  obtain ⟨-, -, hf⟩ := Option.bind_eq_some_iff.mp hf
  refine lv_aload_n K.1 K.2.1 dX11_comes_0 rfl (lv_at hl 0 rfl) ?_
  obtain ⟨v1, ev1, hf⟩ := Option.bind_eq_some_iff.mp hf
  refine ah_getr K hG ev1 ffX11_40_11 dX11_comes_1 ?_
  refine lv_iconst (v := 0) K.1 K.2.1 dX11_comes_4 (by decide) ?_
  obtain ⟨v2, ev2, hf⟩ := Option.bind_eq_some_iff.mp hf
  refine ah_iald K hG ev2 dX11_comes_5 ?_
  refine lv_istore_n (lv' := [(2, .int v2), (0, .ref a0), (1, .int x1)]) K.1 K.2.1 dX11_comes_6 rfl hl (by decide) rfl (fun ls hl => ?_)
  refine lv_aload_n K.1 K.2.1 dX11_comes_7 rfl (lv_at hl 1 rfl) ?_
  obtain ⟨v3, ev3, hf⟩ := Option.bind_eq_some_iff.mp hf
  refine ah_getr K hG ev3 ffX11_40_11 dX11_comes_8 ?_
  refine lv_iconst (v := 1) K.1 K.2.1 dX11_comes_11 (by decide) ?_
  obtain ⟨v4, ev4, hf⟩ := Option.bind_eq_some_iff.mp hf
  refine ah_iald K hG ev4 dX11_comes_12 ?_
  refine lv_istore_n (lv' := [(3, .int v4), (2, .int v2), (0, .ref a0), (1, .int x1)]) K.1 K.2.1 dX11_comes_13 rfl hl (by decide) rfl (fun ls hl => ?_)
  refine lv_iload_n K.1 K.2.1 dX11_comes_14 rfl (lv_at hl 3 rfl) ?_
  by_cases h5 : x1 = 109
  · rw [if_pos h5] at hf
    refine lv_lookup (off := 89) (tgt := 104) K.1 K.2.1 dX11_comes_15 (by decide) (by rw [h5]; rfl) (by decide) ?_
    refine lv_aload_n K.1 K.2.1 dX11_comes_104 rfl (lv_at hl 2 rfl) ?_
    refine lv_iload_n K.1 K.2.1 dX11_comes_105 rfl (lv_at hl 1 rfl) ?_
    obtain ⟨v6, ev6, hf⟩ := Option.bind_eq_some_iff.mp hf
    obtain ⟨q7, eq7⟩ := ah_this ev6
    refine ah_callV (As := [.int v2]) (rest := []) K hG hL hl.1 eq7 rfl (ctX11_isShip l H0 D ca M z a0 v2 v6 ev6) hdX11_isShip q_996 q_998 q_54 q_999 q_16 ⟨Nat.le_of_ble_eq_true rfl, Nat.le_of_ble_eq_true rfl⟩ rfl rfl (Nat.le_of_ble_eq_true rfl) ⟨Nat.le_refl _, Nat.le_refl _⟩ dX11_comes_106 (fun H locs hG hL => ?_)
    refine lv_if_eq (tgt := 138) K.1 K.2.1 dX11_comes_109 (by decide) (fun h8 => ?_) (fun h8 => ?_)
    · rw [if_pos h8] at hf
      refine lv_iconst (v := 0) K.1 K.2.1 dX11_comes_138 (by decide) ?_
      have hf := Option.some.inj hf
      subst hf
      exact ah_zret K hG hL (Or.inl rfl) (Nat.le_refl _) (Nat.le_refl _) dX11_comes_139
    · rw [if_neg h8] at hf
      refine lv_iload_n K.1 K.2.1 dX11_comes_112 rfl (lv_at hl 0 rfl) ?_
      refine lv_iconst (v := 3) K.1 K.2.1 dX11_comes_113 (by decide) ?_
      refine lv_icmp_gt (tgt := 138) K.1 K.2.1 dX11_comes_114 (by decide) (fun h9 => ?_) (fun h9 => ?_)
      · rw [if_pos h9] at hf
        refine lv_iconst (v := 0) K.1 K.2.1 dX11_comes_138 (by decide) ?_
        have hf := Option.some.inj hf
        subst hf
        exact ah_zret K hG hL (Or.inl rfl) (Nat.le_refl _) (Nat.le_refl _) dX11_comes_139
      · rw [if_neg h9] at hf
        refine lv_aload_n K.1 K.2.1 dX11_comes_117 rfl (lv_at hl 2 rfl) ?_
        obtain ⟨v10, ev10, hf⟩ := Option.bind_eq_some_iff.mp hf
        refine ah_getr K hG ev10 ffX11_40_11 dX11_comes_118 ?_
        refine lv_iconst (v := 2) K.1 K.2.1 dX11_comes_121 (by decide) ?_
        obtain ⟨v11, ev11, hf⟩ := Option.bind_eq_some_iff.mp hf
        refine ah_iald K hG ev11 dX11_comes_122 ?_
        refine lv_iconst (v := 3) K.1 K.2.1 dX11_comes_123 (by decide) ?_
        refine lv_icmp_gt (tgt := 138) K.1 K.2.1 dX11_comes_124 (by decide) (fun h12 => ?_) (fun h12 => ?_)
        · rw [if_pos h12] at hf
          refine lv_iconst (v := 0) K.1 K.2.1 dX11_comes_138 (by decide) ?_
          have hf := Option.some.inj hf
          subst hf
          exact ah_zret K hG hL (Or.inl rfl) (Nat.le_refl _) (Nat.le_refl _) dX11_comes_139
        · rw [if_neg h12] at hf
          refine lv_aload_n K.1 K.2.1 dX11_comes_127 rfl (lv_at hl 2 rfl) ?_
          obtain ⟨v13, ev13, hf⟩ := Option.bind_eq_some_iff.mp hf
          refine ah_getr K hG ev13 ffX11_9_11 dX11_comes_128 ?_
          refine lv_iconst (v := 1) K.1 K.2.1 dX11_comes_131 (by decide) ?_
          obtain ⟨v14, ev14, hf⟩ := Option.bind_eq_some_iff.mp hf
          refine ah_iald K hG ev14 dX11_comes_132 ?_
          refine lv_bipush (v := 12) K.1 K.2.1 dX11_comes_133 (by decide) ?_
          refine lv_icmp_ne (tgt := 140) K.1 K.2.1 dX11_comes_135 (by decide) (fun h15 => ?_) (fun h15 => ?_)
          · rw [if_neg h15] at hf
            refine lv_aload_n K.1 K.2.1 dX11_comes_140 rfl (lv_at hl 2 rfl) ?_
            obtain ⟨v16, ev16, hf⟩ := Option.bind_eq_some_iff.mp hf
            refine ah_getr K hG ev16 ffX11_9_11 dX11_comes_141 ?_
            refine lv_iconst (v := 1) K.1 K.2.1 dX11_comes_144 (by decide) ?_
            obtain ⟨v17, ev17, hf⟩ := Option.bind_eq_some_iff.mp hf
            refine ah_iald K hG ev17 dX11_comes_145 ?_
            refine lv_istore (lv' := [(4, .int v17), (3, .int v4), (2, .int v2), (0, .ref a0), (1, .int x1)]) K.1 K.2.1 dX11_comes_146 hl (by decide) rfl (fun ls hl => ?_)
            refine lv_aload_n K.1 K.2.1 dX11_comes_148 rfl (lv_at hl 3 rfl) ?_
            refine lv_iload K.1 K.2.1 dX11_comes_149 (lv_at hl 0 rfl) ?_
            refine lv_iconst (v := 0) K.1 K.2.1 dX11_comes_151 (by decide) ?_
            refine lv_iload_n K.1 K.2.1 dX11_comes_152 rfl (lv_at hl 2 rfl) ?_
            obtain ⟨v18, ev18, hf⟩ := Option.bind_eq_some_iff.mp hf
            obtain ⟨q19, eq19⟩ := ah_this ev18
            refine ah_callV (As := [.int v17, .int 0, .int v2]) (rest := []) K hG hL hl.1 eq19 rfl (ctX11_puts l H0 D ca M z a0 v17 0 v2 v18 ev18) hdX11_puts q_1000 q_1002 q_54 q_1003 q_17 ⟨Nat.le_of_ble_eq_true rfl, Nat.le_of_ble_eq_true rfl⟩ rfl rfl (Nat.le_of_ble_eq_true rfl) ⟨Nat.le_refl _, Nat.le_refl _⟩ dX11_comes_153 (fun H locs hG hL => ?_)
            refine lv_aload_n K.1 K.2.1 dX11_comes_156 rfl (lv_at hl 3 rfl) ?_
            refine lv_iload K.1 K.2.1 dX11_comes_157 (lv_at hl 0 rfl) ?_
            refine lv_iconst (v := 1) K.1 K.2.1 dX11_comes_159 (by decide) ?_
            refine lv_iload_n K.1 K.2.1 dX11_comes_160 rfl (lv_at hl 1 rfl) ?_
            obtain ⟨v20, ev20, hf⟩ := Option.bind_eq_some_iff.mp hf
            obtain ⟨q21, eq21⟩ := ah_this ev20
            refine ah_callV (As := [.int v17, .int 1, .int v4]) (rest := []) K hG hL hl.1 eq21 rfl (ctX11_puts l H0 D ca v18 z a0 v17 1 v4 v20 ev20) hdX11_puts q_1000 q_1002 q_54 q_1003 q_17 ⟨Nat.le_of_ble_eq_true rfl, Nat.le_of_ble_eq_true rfl⟩ rfl rfl (Nat.le_of_ble_eq_true rfl) ⟨Nat.le_refl _, Nat.le_refl _⟩ dX11_comes_161 (fun H locs hG hL => ?_)
            refine lv_aload_n K.1 K.2.1 dX11_comes_164 rfl (lv_at hl 3 rfl) ?_
            refine lv_iload K.1 K.2.1 dX11_comes_165 (lv_at hl 0 rfl) ?_
            refine lv_iconst (v := 2) K.1 K.2.1 dX11_comes_167 (by decide) ?_
            refine lv_aload_n K.1 K.2.1 dX11_comes_168 rfl (lv_at hl 3 rfl) ?_
            obtain ⟨v22, ev22, hf⟩ := Option.bind_eq_some_iff.mp hf
            refine ah_getr K hG ev22 ffX11_40_11 dX11_comes_169 ?_
            refine lv_iconst (v := 2) K.1 K.2.1 dX11_comes_172 (by decide) ?_
            obtain ⟨v23, ev23, hf⟩ := Option.bind_eq_some_iff.mp hf
            refine ah_iald K hG ev23 dX11_comes_173 ?_
            obtain ⟨v24, ev24, hf⟩ := Option.bind_eq_some_iff.mp hf
            obtain ⟨q25, eq25⟩ := ah_this ev24
            refine ah_callV (As := [.int v17, .int 2, .int v23]) (rest := []) K hG hL hl.1 eq25 rfl (ctX11_puts l H0 D ca v20 z a0 v17 2 v23 v24 ev24) hdX11_puts q_1000 q_1002 q_54 q_1003 q_17 ⟨Nat.le_of_ble_eq_true rfl, Nat.le_of_ble_eq_true rfl⟩ rfl rfl (Nat.le_of_ble_eq_true rfl) ⟨Nat.le_refl _, Nat.le_refl _⟩ dX11_comes_174 (fun H locs hG hL => ?_)
            refine lv_aload_n K.1 K.2.1 dX11_comes_177 rfl (lv_at hl 3 rfl) ?_
            refine lv_iload K.1 K.2.1 dX11_comes_178 (lv_at hl 0 rfl) ?_
            refine lv_iconst (v := 3) K.1 K.2.1 dX11_comes_180 (by decide) ?_
            refine lv_iconst (v := 0) K.1 K.2.1 dX11_comes_181 (by decide) ?_
            obtain ⟨v26, ev26, hf⟩ := Option.bind_eq_some_iff.mp hf
            obtain ⟨q27, eq27⟩ := ah_this ev26
            refine ah_callV (As := [.int v17, .int 3, .int 0]) (rest := []) K hG hL hl.1 eq27 rfl (ctX11_puts l H0 D ca v24 z a0 v17 3 0 v26 ev26) hdX11_puts q_1000 q_1002 q_54 q_1003 q_17 ⟨Nat.le_of_ble_eq_true rfl, Nat.le_of_ble_eq_true rfl⟩ rfl rfl (Nat.le_of_ble_eq_true rfl) ⟨Nat.le_refl _, Nat.le_refl _⟩ dX11_comes_182 (fun H locs hG hL => ?_)
            refine lv_aload_n K.1 K.2.1 dX11_comes_185 rfl (lv_at hl 3 rfl) ?_
            refine lv_iload K.1 K.2.1 dX11_comes_186 (lv_at hl 0 rfl) ?_
            refine lv_iconst (v := 4) K.1 K.2.1 dX11_comes_188 (by decide) ?_
            refine lv_iconst (v := 0) K.1 K.2.1 dX11_comes_189 (by decide) ?_
            obtain ⟨v28, ev28, hf⟩ := Option.bind_eq_some_iff.mp hf
            obtain ⟨q29, eq29⟩ := ah_this ev28
            refine ah_callV (As := [.int v17, .int 4, .int 0]) (rest := []) K hG hL hl.1 eq29 rfl (ctX11_puts l H0 D ca v26 z a0 v17 4 0 v28 ev28) hdX11_puts q_1000 q_1002 q_54 q_1003 q_17 ⟨Nat.le_of_ble_eq_true rfl, Nat.le_of_ble_eq_true rfl⟩ rfl rfl (Nat.le_of_ble_eq_true rfl) ⟨Nat.le_refl _, Nat.le_refl _⟩ dX11_comes_190 (fun H locs hG hL => ?_)
            refine lv_aload_n K.1 K.2.1 dX11_comes_193 rfl (lv_at hl 3 rfl) ?_
            obtain ⟨v30, ev30, hf⟩ := Option.bind_eq_some_iff.mp hf
            refine ah_getr K hG ev30 ffX11_9_11 dX11_comes_194 ?_
            refine lv_iconst (v := 1) K.1 K.2.1 dX11_comes_197 (by decide) ?_
            refine lv_dup2_11 K.1 K.2.1 dX11_comes_198 rfl rfl ?_
            obtain ⟨v31, ev31, hf⟩ := Option.bind_eq_some_iff.mp hf
            refine ah_iald K hG ev31 dX11_comes_199 ?_
            refine lv_iconst (v := 1) K.1 K.2.1 dX11_comes_200 (by decide) ?_
            refine lv_iadd K.1 K.2.1 dX11_comes_201 ?_
            obtain ⟨M32, eM32, hf⟩ := Option.bind_eq_some_iff.mp hf
            refine ah_iast K hG hL eM32 dX11_comes_202 (fun H locs hG hL => ?_)
            refine lv_aload_n K.1 K.2.1 dX11_comes_203 rfl (lv_at hl 3 rfl) ?_
            refine lv_iload_n K.1 K.2.1 dX11_comes_204 rfl (lv_at hl 2 rfl) ?_
            obtain ⟨v33, ev33, hf⟩ := Option.bind_eq_some_iff.mp hf
            obtain ⟨q34, eq34⟩ := ah_this ev33
            refine ah_callV (As := [.int v2]) (rest := []) K hG hL hl.1 eq34 rfl (ctX11_sails l H0 D ca M32 z a0 v2 v33 ev33) hdX11_sails q_1004 q_1006 q_54 q_1007 q_18 ⟨Nat.le_of_ble_eq_true rfl, Nat.le_of_ble_eq_true rfl⟩ rfl rfl (Nat.le_of_ble_eq_true rfl) ⟨Nat.le_refl _, Nat.le_refl _⟩ dX11_comes_205 (fun H locs hG hL => ?_)
            refine lv_iconst (v := 1) K.1 K.2.1 dX11_comes_208 (by decide) ?_
            have hf := Option.some.inj hf
            subst hf
            exact ah_zret K hG hL (Or.inr rfl) (Nat.le_refl _) (Nat.le_refl _) dX11_comes_209
          · rw [if_pos h15] at hf
            refine lv_iconst (v := 0) K.1 K.2.1 dX11_comes_138 (by decide) ?_
            have hf := Option.some.inj hf
            subst hf
            exact ah_zret K hG hL (Or.inl rfl) (Nat.le_refl _) (Nat.le_refl _) dX11_comes_139
  rw [if_neg h5] at hf
  by_cases h35 : x1 = 115
  · rw [if_pos h35] at hf
    refine lv_lookup (off := 25) (tgt := 40) K.1 K.2.1 dX11_comes_15 (by decide) (by rw [h35]; rfl) (by decide) ?_
    refine lv_iload_n K.1 K.2.1 dX11_comes_40 rfl (lv_at hl 1 rfl) ?_
    refine lv_bipush (v := 7) K.1 K.2.1 dX11_comes_41 (by decide) ?_
    refine lv_icmp_gt (tgt := 56) K.1 K.2.1 dX11_comes_43 (by decide) (fun h36 => ?_) (fun h36 => ?_)
    · rw [if_pos h36] at hf
      refine lv_iconst (v := 0) K.1 K.2.1 dX11_comes_56 (by decide) ?_
      have hf := Option.some.inj hf
      subst hf
      exact ah_zret K hG hL (Or.inl rfl) (Nat.le_refl _) (Nat.le_refl _) dX11_comes_57
    · rw [if_neg h36] at hf
      refine lv_aload_n K.1 K.2.1 dX11_comes_46 rfl (lv_at hl 2 rfl) ?_
      obtain ⟨v37, ev37, hf⟩ := Option.bind_eq_some_iff.mp hf
      refine ah_getr K hG ev37 ffX11_9_11 dX11_comes_47 ?_
      refine lv_iconst (v := 0) K.1 K.2.1 dX11_comes_50 (by decide) ?_
      obtain ⟨v38, ev38, hf⟩ := Option.bind_eq_some_iff.mp hf
      refine ah_iald K hG ev38 dX11_comes_51 ?_
      refine lv_iconst (v := 5) K.1 K.2.1 dX11_comes_52 (by decide) ?_
      refine lv_icmp_ne (tgt := 58) K.1 K.2.1 dX11_comes_53 (by decide) (fun h39 => ?_) (fun h39 => ?_)
      · rw [if_neg h39] at hf
        refine lv_aload_n K.1 K.2.1 dX11_comes_58 rfl (lv_at hl 2 rfl) ?_
        obtain ⟨v40, ev40, hf⟩ := Option.bind_eq_some_iff.mp hf
        refine ah_getr K hG ev40 ffX11_9_11 dX11_comes_59 ?_
        refine lv_iconst (v := 3) K.1 K.2.1 dX11_comes_62 (by decide) ?_
        refine lv_iconst (v := 2) K.1 K.2.1 dX11_comes_63 (by decide) ?_
        refine lv_aload_n K.1 K.2.1 dX11_comes_64 rfl (lv_at hl 2 rfl) ?_
        obtain ⟨v41, ev41, hf⟩ := Option.bind_eq_some_iff.mp hf
        refine ah_getr K hG ev41 ffX11_9_11 dX11_comes_65 ?_
        refine lv_iconst (v := 0) K.1 K.2.1 dX11_comes_68 (by decide) ?_
        obtain ⟨v42, ev42, hf⟩ := Option.bind_eq_some_iff.mp hf
        refine ah_iald K hG ev42 dX11_comes_69 ?_
        refine lv_imul K.1 K.2.1 dX11_comes_70 ?_
        refine lv_iadd K.1 K.2.1 dX11_comes_71 ?_
        refine lv_iload_n K.1 K.2.1 dX11_comes_72 rfl (lv_at hl 1 rfl) ?_
        obtain ⟨M43, eM43, hf⟩ := Option.bind_eq_some_iff.mp hf
        refine ah_iast K hG hL eM43 dX11_comes_73 (fun H locs hG hL => ?_)
        refine lv_aload_n K.1 K.2.1 dX11_comes_74 rfl (lv_at hl 2 rfl) ?_
        obtain ⟨v44, ev44, hf⟩ := Option.bind_eq_some_iff.mp hf
        refine ah_getr K hG ev44 ffX11_9_11 dX11_comes_75 ?_
        refine lv_iconst (v := 3) K.1 K.2.1 dX11_comes_78 (by decide) ?_
        refine lv_iconst (v := 2) K.1 K.2.1 dX11_comes_79 (by decide) ?_
        refine lv_aload_n K.1 K.2.1 dX11_comes_80 rfl (lv_at hl 2 rfl) ?_
        obtain ⟨v45, ev45, hf⟩ := Option.bind_eq_some_iff.mp hf
        refine ah_getr K hG ev45 ffX11_9_11 dX11_comes_81 ?_
        refine lv_iconst (v := 0) K.1 K.2.1 dX11_comes_84 (by decide) ?_
        obtain ⟨v46, ev46, hf⟩ := Option.bind_eq_some_iff.mp hf
        refine ah_iald K hG ev46 dX11_comes_85 ?_
        refine lv_imul K.1 K.2.1 dX11_comes_86 ?_
        refine lv_iadd K.1 K.2.1 dX11_comes_87 ?_
        refine lv_iconst (v := 1) K.1 K.2.1 dX11_comes_88 (by decide) ?_
        refine lv_iadd K.1 K.2.1 dX11_comes_89 ?_
        refine lv_iload_n K.1 K.2.1 dX11_comes_90 rfl (lv_at hl 0 rfl) ?_
        obtain ⟨M47, eM47, hf⟩ := Option.bind_eq_some_iff.mp hf
        refine ah_iast K hG hL eM47 dX11_comes_91 (fun H locs hG hL => ?_)
        refine lv_aload_n K.1 K.2.1 dX11_comes_92 rfl (lv_at hl 2 rfl) ?_
        obtain ⟨v48, ev48, hf⟩ := Option.bind_eq_some_iff.mp hf
        refine ah_getr K hG ev48 ffX11_9_11 dX11_comes_93 ?_
        refine lv_iconst (v := 0) K.1 K.2.1 dX11_comes_96 (by decide) ?_
        refine lv_dup2_11 K.1 K.2.1 dX11_comes_97 rfl rfl ?_
        obtain ⟨v49, ev49, hf⟩ := Option.bind_eq_some_iff.mp hf
        refine ah_iald K hG ev49 dX11_comes_98 ?_
        refine lv_iconst (v := 1) K.1 K.2.1 dX11_comes_99 (by decide) ?_
        refine lv_iadd K.1 K.2.1 dX11_comes_100 ?_
        obtain ⟨M50, eM50, hf⟩ := Option.bind_eq_some_iff.mp hf
        refine ah_iast K hG hL eM50 dX11_comes_101 (fun H locs hG hL => ?_)
        refine lv_iconst (v := 1) K.1 K.2.1 dX11_comes_102 (by decide) ?_
        have hf := Option.some.inj hf
        subst hf
        exact ah_zret K hG hL (Or.inr rfl) (Nat.le_refl _) (Nat.le_refl _) dX11_comes_103
      · rw [if_pos h39] at hf
        refine lv_iconst (v := 0) K.1 K.2.1 dX11_comes_56 (by decide) ?_
        have hf := Option.some.inj hf
        subst hf
        exact ah_zret K hG hL (Or.inl rfl) (Nat.le_refl _) (Nat.le_refl _) dX11_comes_57
  rw [if_neg h35] at hf
  refine lv_lookup (off := 195) (tgt := 210) K.1 K.2.1 dX11_comes_15 (by decide) ((congrArg (fun l => Op.lookupswitch.offset l _ _) rfl).trans (by rw [lv_osw h5 (by decide), lv_osw h35 (by decide)]; rfl)) (by decide) ?_
  refine lv_aload_n K.1 K.2.1 dX11_comes_210 rfl (lv_at hl 2 rfl) ?_
  refine lv_iload_n K.1 K.2.1 dX11_comes_211 rfl (lv_at hl 1 rfl) ?_
  refine lv_iload_n K.1 K.2.1 dX11_comes_212 rfl (lv_at hl 0 rfl) ?_
  obtain ⟨v51, ev51, hf⟩ := Option.bind_eq_some_iff.mp hf
  obtain ⟨q52, eq52⟩ := ah_this ev51
  refine ah_callV (As := [.int v2, .int v4]) (rest := []) K hG hL hl.1 eq52 rfl (ctX11_mayMeet l H0 D ca M z a0 v2 v4 v51 ev51) hdX11_mayMeet q_1016 q_1018 q_54 q_1019 q_21 ⟨Nat.le_of_ble_eq_true rfl, Nat.le_of_ble_eq_true rfl⟩ rfl rfl (Nat.le_of_ble_eq_true rfl) ⟨Nat.le_refl _, Nat.le_refl _⟩ dX11_comes_213 (fun H locs hG hL => ?_)
  refine lv_if_ne (tgt := 221) K.1 K.2.1 dX11_comes_216 (by decide) (fun h53 => ?_) (fun h53 => ?_)
  · rw [if_neg h53] at hf
    refine lv_aload_n K.1 K.2.1 dX11_comes_221 rfl (lv_at hl 2 rfl) ?_
    refine lv_iload_n K.1 K.2.1 dX11_comes_222 rfl (lv_at hl 1 rfl) ?_
    refine lv_iload_n K.1 K.2.1 dX11_comes_223 rfl (lv_at hl 0 rfl) ?_
    obtain ⟨v54, ev54, hf⟩ := Option.bind_eq_some_iff.mp hf
    obtain ⟨q55, eq55⟩ := ah_this ev54
    refine ah_callV (As := [.int v2, .int v4]) (rest := []) K hG hL hl.1 eq55 rfl (ctX11_meets l H0 D ca M z a0 v2 v4 v54 ev54) hdX11_meets q_1020 q_1022 q_54 q_1023 q_22 ⟨Nat.le_of_ble_eq_true rfl, Nat.le_of_ble_eq_true rfl⟩ rfl rfl (Nat.le_of_ble_eq_true rfl) ⟨Nat.le_refl _, Nat.le_refl _⟩ dX11_comes_224 (fun H locs hG hL => ?_)
    refine lv_iconst (v := 1) K.1 K.2.1 dX11_comes_227 (by decide) ?_
    have hf := Option.some.inj hf
    subst hf
    exact ah_zret K hG hL (Or.inr rfl) (Nat.le_refl _) (Nat.le_refl _) dX11_comes_228
  · rw [if_pos h53] at hf
    refine lv_iconst (v := 0) K.1 K.2.1 dX11_comes_219 (by decide) ?_
    have hf := Option.some.inj hf
    subst hf
    exact ah_zret K hG hL (Or.inl rfl) (Nat.le_refl _) (Nat.le_refl _) dX11_comes_220
