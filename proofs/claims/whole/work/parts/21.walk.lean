-- X7_other X7_write X8_init X8_wages X8_fail X9_init X9_wages X10_init X10_man X10_sailed X10_mixed X10_lacks X10_image X10_restore X10_isShelf X10_isKindAndFigure X10_refusalOfCaptain X10_refusalOfRow X10_refusalOfBytes X10_refusalOfMeetings X10_refusalOfManAndMeetings X10_tellsOfEachMan X10_signsBehind X10_faultOfForm X10_digit X10_has X10_nameOfMeeting X10_commonDivisor X10_nextSeed X10_drawBelow X11_init X11_thrown X11_isIn X11_isShelf X11_isShip X11_isMan
def fX7_other (M : ah_h) (a0 : Nat) (x1 : Int32) : Option (Int32) := (ah_ob M a0 7).bind fun _ => (fX7_at M a0 ((2 * x1) + 1)).bind fun v1 => some v1
set_option maxRecDepth 100000 in
set_option maxHeartbeats 4000000 in
theorem ctX7_other (l : Launch) (H0 : Heap) (D : va_G) (ca : Nat → ClassId) (M : ah_h) (z : Nat) (a0 : Nat) (x1 : Int32) (Z : Int32) (hf : fX7_other M a0 x1 = some Z) : ah_ct l H0 D ca yX7_other cX7_other 2 (some .int) 2 42 0 0 [.ref a0, .int x1] M z (some (.int Z)) M z := by
  refine ah_of (by decide) (Nat.le_of_ble_eq_true rfl) ?_
  intro p e s m below meth c ls hin K hG hl
  have hL : ah_L H0 [] := ah_L.nil
  have hl : lv_has ls 2 [(0, .ref a0), (1, .int x1)] := hl
  unfold fX7_other at hf
  obtain ⟨-, -, hf⟩ := Option.bind_eq_some_iff.mp hf
  refine lv_aload_n K.1 K.2.1 dX7_other_0 rfl (lv_at hl 0 rfl) ?_
  refine lv_iconst (v := 2) K.1 K.2.1 dX7_other_1 (by decide) ?_
  refine lv_iload_n K.1 K.2.1 dX7_other_2 rfl (lv_at hl 1 rfl) ?_
  refine lv_imul K.1 K.2.1 dX7_other_3 ?_
  refine lv_iconst (v := 1) K.1 K.2.1 dX7_other_4 (by decide) ?_
  refine lv_iadd K.1 K.2.1 dX7_other_5 ?_
  obtain ⟨v1, ev1, hf⟩ := Option.bind_eq_some_iff.mp hf
  obtain ⟨q2, eq2⟩ := ah_this ev1
  refine ah_callV (As := [.int ((2 * x1) + 1)]) (rest := []) K hG hL hl.1 eq2 rfl (ctX7_at l H0 D ca M z a0 ((2 * x1) + 1) v1 ev1) hdX7_at q_470 q_233 q_53 q_235 q_234 ⟨Nat.le_of_ble_eq_true rfl, Nat.le_of_ble_eq_true rfl⟩ rfl rfl (Nat.le_of_ble_eq_true rfl) ⟨Nat.le_refl _, Nat.le_refl _⟩ dX7_other_6 (fun H locs hG hL => ?_)
  have hf := Option.some.inj hf
  subst hf
  exact ah_iret K hG hL (Nat.le_refl _) (Nat.le_refl _) dX7_other_9
def fX7_write (M : ah_h) (a0 : Nat) (x1 : Int32) (x2 : Int32) : Option (ah_h) := (ah_ob M a0 7).bind fun _ => (fX7_hasPlace M a0 x1).bind fun v1 => if v1 = 0 then (some M) else ((ah_gi M a0 7 1).bind fun v4 => if v4 = 0 then ((ah_gr M a0 7 3).bind fun v6 => (ah_si M v6 x1 x2.toInt8.toInt32).bind fun M7 => some M7) else if v4 = 1 then ((ah_gr M a0 7 3).bind fun v9 => (ah_si M v9 x1 x2.toInt16.toInt32).bind fun M10 => some M10) else ((ah_gr M a0 7 3).bind fun v11 => (ah_si M v11 x1 x2).bind fun M12 => some M12))
set_option maxRecDepth 100000 in
set_option maxHeartbeats 4000000 in
theorem ctX7_write (l : Launch) (H0 : Heap) (D : va_G) (ca : Nat → ClassId) (M : ah_h) (z : Nat) (a0 : Nat) (x1 : Int32) (x2 : Int32) (Z : ah_h) (hf : fX7_write M a0 x1 x2 = some Z) : ah_ct l H0 D ca yX7_write cX7_write 3 none 1 21 0 0 [.ref a0, .int x1, .int x2] M z none Z z := by
  refine ah_of (by decide) (Nat.le_of_ble_eq_true rfl) ?_
  intro p e s m below meth c ls hin K hG hl
  have hL : ah_L H0 [] := ah_L.nil
  have hl : lv_has ls 3 [(0, .ref a0), (1, .int x1), (2, .int x2)] := hl
  unfold fX7_write at hf
  obtain ⟨-, -, hf⟩ := Option.bind_eq_some_iff.mp hf
  refine lv_aload_n K.1 K.2.1 dX7_write_0 rfl (lv_at hl 0 rfl) ?_
  refine lv_iload_n K.1 K.2.1 dX7_write_1 rfl (lv_at hl 1 rfl) ?_
  obtain ⟨v1, ev1, hf⟩ := Option.bind_eq_some_iff.mp hf
  obtain ⟨q2, eq2⟩ := ah_this ev1
  refine ah_callV (As := [.int x1]) (rest := []) K hG hL hl.1 eq2 rfl (ctX7_hasPlace l H0 D ca M z a0 x1 v1 ev1) hdX7_hasPlace q_236 q_237 q_53 q_239 q_238 ⟨Nat.le_of_ble_eq_true rfl, Nat.le_of_ble_eq_true rfl⟩ rfl rfl (Nat.le_of_ble_eq_true rfl) ⟨Nat.le_refl _, Nat.le_refl _⟩ dX7_write_2 (fun H locs hG hL => ?_)
  refine lv_if_ne (tgt := 9) K.1 K.2.1 dX7_write_5 (by decide) (fun h3 => ?_) (fun h3 => ?_)
  · rw [if_neg h3] at hf
    refine lv_aload_n K.1 K.2.1 dX7_write_9 rfl (lv_at hl 0 rfl) ?_
    obtain ⟨v4, ev4, hf⟩ := Option.bind_eq_some_iff.mp hf
    refine ah_geti K hG ev4 ffX7_15_7 dX7_write_10 ?_
    by_cases h5 : v4 = 0
    · rw [if_pos h5] at hf
      refine lv_lookup (off := 27) (tgt := 40) K.1 K.2.1 dX7_write_13 (by decide) (by rw [h5]; rfl) (by decide) ?_
      refine lv_aload_n K.1 K.2.1 dX7_write_40 rfl (lv_at hl 0 rfl) ?_
      obtain ⟨v6, ev6, hf⟩ := Option.bind_eq_some_iff.mp hf
      refine ah_getr K hG ev6 ffX7_22_7 dX7_write_41 ?_
      refine lv_iload_n K.1 K.2.1 dX7_write_44 rfl (lv_at hl 1 rfl) ?_
      refine lv_iload_n K.1 K.2.1 dX7_write_45 rfl (lv_at hl 2 rfl) ?_
      refine lv_i2b (v := x2.toInt8.toInt32) K.1 K.2.1 dX7_write_46 rfl ?_
      obtain ⟨M7, eM7, hf⟩ := Option.bind_eq_some_iff.mp hf
      refine ah_iast K hG hL eM7 dX7_write_47 (fun H locs hG hL => ?_)
      refine lv_goto (tgt := 69) K.1 K.2.1 dX7_write_48 (by decide) ?_
      have hf := Option.some.inj hf
      subst hf
      exact ah_vret K hG hL (Nat.le_refl _) (Nat.le_refl _) dX7_write_69
    rw [if_neg h5] at hf
    by_cases h8 : v4 = 1
    · rw [if_pos h8] at hf
      refine lv_lookup (off := 38) (tgt := 51) K.1 K.2.1 dX7_write_13 (by decide) (by rw [h8]; rfl) (by decide) ?_
      refine lv_aload_n K.1 K.2.1 dX7_write_51 rfl (lv_at hl 0 rfl) ?_
      obtain ⟨v9, ev9, hf⟩ := Option.bind_eq_some_iff.mp hf
      refine ah_getr K hG ev9 ffX7_22_7 dX7_write_52 ?_
      refine lv_iload_n K.1 K.2.1 dX7_write_55 rfl (lv_at hl 1 rfl) ?_
      refine lv_iload_n K.1 K.2.1 dX7_write_56 rfl (lv_at hl 2 rfl) ?_
      refine lv_i2s (v := x2.toInt16.toInt32) K.1 K.2.1 dX7_write_57 rfl ?_
      obtain ⟨M10, eM10, hf⟩ := Option.bind_eq_some_iff.mp hf
      refine ah_iast K hG hL eM10 dX7_write_58 (fun H locs hG hL => ?_)
      refine lv_goto (tgt := 69) K.1 K.2.1 dX7_write_59 (by decide) ?_
      have hf := Option.some.inj hf
      subst hf
      exact ah_vret K hG hL (Nat.le_refl _) (Nat.le_refl _) dX7_write_69
    rw [if_neg h8] at hf
    refine lv_lookup (off := 49) (tgt := 62) K.1 K.2.1 dX7_write_13 (by decide) ((congrArg (fun l => Op.lookupswitch.offset l _ _) rfl).trans (by rw [lv_osw h5 (by decide), lv_osw h8 (by decide)]; rfl)) (by decide) ?_
    refine lv_aload_n K.1 K.2.1 dX7_write_62 rfl (lv_at hl 0 rfl) ?_
    obtain ⟨v11, ev11, hf⟩ := Option.bind_eq_some_iff.mp hf
    refine ah_getr K hG ev11 ffX7_22_7 dX7_write_63 ?_
    refine lv_iload_n K.1 K.2.1 dX7_write_66 rfl (lv_at hl 1 rfl) ?_
    refine lv_iload_n K.1 K.2.1 dX7_write_67 rfl (lv_at hl 2 rfl) ?_
    obtain ⟨M12, eM12, hf⟩ := Option.bind_eq_some_iff.mp hf
    refine ah_iast K hG hL eM12 dX7_write_68 (fun H locs hG hL => ?_)
    have hf := Option.some.inj hf
    subst hf
    exact ah_vret K hG hL (Nat.le_refl _) (Nat.le_refl _) dX7_write_69
  · rw [if_pos h3] at hf
    have hf := Option.some.inj hf
    subst hf
    exact ah_vret K hG hL (Nat.le_refl _) (Nat.le_refl _) dX7_write_8
def fX8_init (M : ah_h) (a0 : Nat) (x1 : Int32) : Option (ah_h) := (fX1_init M a0 6 x1).bind fun v1 => some v1
set_option maxRecDepth 100000 in
set_option maxHeartbeats 4000000 in
theorem ctX8_init (l : Launch) (H0 : Heap) (D : va_G) (ca : Nat → ClassId) (M : ah_h) (z : Nat) (a0 : Nat) (x1 : Int32) (Z : ah_h) (hf : fX8_init M a0 x1 = some Z) : ah_ct l H0 D ca yX8_init cX8_init 2 none 2 42 0 0 [.ref a0, .int x1] M z none Z z := by
  refine ah_of (by decide) (Nat.le_of_ble_eq_true rfl) ?_
  intro p e s m below meth c ls hin K hG hl
  have hL : ah_L H0 [] := ah_L.nil
  have hl : lv_has ls 2 [(0, .ref a0), (1, .int x1)] := hl
  unfold fX8_init at hf
  refine lv_aload_n K.1 K.2.1 dX8_init_0 rfl (lv_at hl 0 rfl) ?_
  refine lv_bipush (v := 6) K.1 K.2.1 dX8_init_1 (by decide) ?_
  refine lv_iload_n K.1 K.2.1 dX8_init_3 rfl (lv_at hl 1 rfl) ?_
  obtain ⟨v1, ev1, hf⟩ := Option.bind_eq_some_iff.mp hf
  refine ah_callI (As := [.int 6, .int x1]) (rest := []) K hG hL hl.1 (ctX1_init l H0 D ca M z a0 6 x1 v1 ev1) rfl hdX1_init q_309 q_88 q_52 q_89 ⟨Nat.le_of_ble_eq_true rfl, Nat.le_of_ble_eq_true rfl⟩ rfl rfl (Nat.le_of_ble_eq_true rfl) ⟨Nat.le_refl _, Nat.le_refl _⟩ dX8_init_4 (fun H locs hG hL => ?_)
  have hf := Option.some.inj hf
  subst hf
  exact ah_vret K hG hL (Nat.le_refl _) (Nat.le_refl _) dX8_init_7
def fX8_wages (M : ah_h) (a0 : Nat) : Option (Int32) := (ah_oc M a0).bind fun q2 => (fX1_wages M a0).bind fun v1 => (ah_gc M a0 1).bind fun v3 => some (v1 - v3)
set_option maxRecDepth 100000 in
set_option maxHeartbeats 4000000 in
theorem ctX8_wages (l : Launch) (H0 : Heap) (D : va_G) (ca : Nat → ClassId) (M : ah_h) (z : Nat) (a0 : Nat) (Z : Int32) (hf : fX8_wages M a0 = some Z) : ah_ct l H0 D ca yX8_wages cX8_wages 1 (some .int) 1 20 0 0 [.ref a0] M z (some (.int Z)) M z := by
  refine ah_of (by decide) (Nat.le_of_ble_eq_true rfl) ?_
  intro p e s m below meth c ls hin K hG hl
  have hL : ah_L H0 [] := ah_L.nil
  have hl : lv_has ls 1 [(0, .ref a0)] := hl
  unfold fX8_wages at hf
  refine lv_aload_n K.1 K.2.1 dX8_wages_0 rfl (lv_at hl 0 rfl) ?_
  obtain ⟨q2, eq2, hf⟩ := Option.bind_eq_some_iff.mp hf
  obtain ⟨v1, ev1, hf⟩ := Option.bind_eq_some_iff.mp hf
  refine ah_callUC (n := 0) (As := []) (rest := []) K hG hL hl.1 eq2 (ctX1_wages l H0 D ca M z a0 v1 ev1) (by decide +kernel) q_741 q_712 q_52 q_743 q_714 q_312 ⟨Nat.le_of_ble_eq_true rfl, Nat.le_of_ble_eq_true rfl⟩ rfl rfl (Nat.le_of_ble_eq_true rfl) ⟨Nat.le_refl _, Nat.le_refl _⟩ dX8_wages_1 (fun H locs hG hL => ?_)
  refine lv_aload_n K.1 K.2.1 dX8_wages_4 rfl (lv_at hl 0 rfl) ?_
  obtain ⟨v3, ev3, hf⟩ := Option.bind_eq_some_iff.mp hf
  refine ah_getc K hG ev3 ffX8_7_c dX8_wages_5 ?_
  refine lv_isub K.1 K.2.1 dX8_wages_8 ?_
  have hf := Option.some.inj hf
  subst hf
  exact ah_iret K hG hL (Nat.le_refl _) (Nat.le_refl _) dX8_wages_9
def fX8_fail (M : ah_h) (a0 : Nat) : Option (Unit) := some ()
set_option maxRecDepth 100000 in
set_option maxHeartbeats 4000000 in
theorem ctX8_fail (l : Launch) (H0 : Heap) (D : va_G) (ca : Nat → ClassId) (M : ah_h) (z : Nat) (a0 : Nat) (Z : Unit) (hf : fX8_fail M a0 = some Z) : ah_ct l H0 D ca yX8_fail cX8_fail 1 none 0 0 0 0 [.ref a0] M z none M z := by
  refine ah_of (by decide) (Nat.le_of_ble_eq_true rfl) ?_
  intro p e s m below meth c ls hin K hG hl
  have hL : ah_L H0 [] := ah_L.nil
  have hl : lv_has ls 1 [(0, .ref a0)] := hl
  unfold fX8_fail at hf
  have hf := Option.some.inj hf
  subst hf
  exact ah_vret K hG hL (Nat.le_refl _) (Nat.le_refl _) dX8_fail_0
def fX9_init (M : ah_h) (a0 : Nat) (x1 : Int32) (x2 : Int32) : Option (ah_h) := (fX1_init M a0 x1 x2).bind fun v1 => some v1
set_option maxRecDepth 100000 in
set_option maxHeartbeats 4000000 in
theorem ctX9_init (l : Launch) (H0 : Heap) (D : va_G) (ca : Nat → ClassId) (M : ah_h) (z : Nat) (a0 : Nat) (x1 : Int32) (x2 : Int32) (Z : ah_h) (hf : fX9_init M a0 x1 x2 = some Z) : ah_ct l H0 D ca yX9_init cX9_init 3 none 2 42 0 0 [.ref a0, .int x1, .int x2] M z none Z z := by
  refine ah_of (by decide) (Nat.le_of_ble_eq_true rfl) ?_
  intro p e s m below meth c ls hin K hG hl
  have hL : ah_L H0 [] := ah_L.nil
  have hl : lv_has ls 3 [(0, .ref a0), (1, .int x1), (2, .int x2)] := hl
  unfold fX9_init at hf
  refine lv_aload_n K.1 K.2.1 dX9_init_0 rfl (lv_at hl 0 rfl) ?_
  refine lv_iload_n K.1 K.2.1 dX9_init_1 rfl (lv_at hl 1 rfl) ?_
  refine lv_iload_n K.1 K.2.1 dX9_init_2 rfl (lv_at hl 2 rfl) ?_
  obtain ⟨v1, ev1, hf⟩ := Option.bind_eq_some_iff.mp hf
  refine ah_callI (As := [.int x1, .int x2]) (rest := []) K hG hL hl.1 (ctX1_init l H0 D ca M z a0 x1 x2 v1 ev1) rfl hdX1_init q_291 q_88 q_52 q_89 ⟨Nat.le_of_ble_eq_true rfl, Nat.le_of_ble_eq_true rfl⟩ rfl rfl (Nat.le_of_ble_eq_true rfl) ⟨Nat.le_refl _, Nat.le_refl _⟩ dX9_init_3 (fun H locs hG hL => ?_)
  have hf := Option.some.inj hf
  subst hf
  exact ah_vret K hG hL (Nat.le_refl _) (Nat.le_refl _) dX9_init_6
def fX9_wages (M : ah_h) (a0 : Nat) : Option (Int32) := (ah_oc M a0).bind fun q2 => (fX1_wages M a0).bind fun v1 => (ah_gc M a0 1).bind fun v3 => some (v1 * (v3 + 1))
set_option maxRecDepth 100000 in
set_option maxHeartbeats 4000000 in
theorem ctX9_wages (l : Launch) (H0 : Heap) (D : va_G) (ca : Nat → ClassId) (M : ah_h) (z : Nat) (a0 : Nat) (Z : Int32) (hf : fX9_wages M a0 = some Z) : ah_ct l H0 D ca yX9_wages cX9_wages 1 (some .int) 1 20 0 0 [.ref a0] M z (some (.int Z)) M z := by
  refine ah_of (by decide) (Nat.le_of_ble_eq_true rfl) ?_
  intro p e s m below meth c ls hin K hG hl
  have hL : ah_L H0 [] := ah_L.nil
  have hl : lv_has ls 1 [(0, .ref a0)] := hl
  unfold fX9_wages at hf
  refine lv_aload_n K.1 K.2.1 dX9_wages_0 rfl (lv_at hl 0 rfl) ?_
  obtain ⟨q2, eq2, hf⟩ := Option.bind_eq_some_iff.mp hf
  obtain ⟨v1, ev1, hf⟩ := Option.bind_eq_some_iff.mp hf
  refine ah_callUC (n := 0) (As := []) (rest := []) K hG hL hl.1 eq2 (ctX1_wages l H0 D ca M z a0 v1 ev1) (by decide +kernel) q_721 q_712 q_52 q_743 q_714 q_294 ⟨Nat.le_of_ble_eq_true rfl, Nat.le_of_ble_eq_true rfl⟩ rfl rfl (Nat.le_of_ble_eq_true rfl) ⟨Nat.le_refl _, Nat.le_refl _⟩ dX9_wages_1 (fun H locs hG hL => ?_)
  refine lv_aload_n K.1 K.2.1 dX9_wages_4 rfl (lv_at hl 0 rfl) ?_
  obtain ⟨v3, ev3, hf⟩ := Option.bind_eq_some_iff.mp hf
  refine ah_getc K hG ev3 ffX9_19_c dX9_wages_5 ?_
  refine lv_iconst (v := 1) K.1 K.2.1 dX9_wages_8 (by decide) ?_
  refine lv_iadd K.1 K.2.1 dX9_wages_9 ?_
  refine lv_imul K.1 K.2.1 dX9_wages_10 ?_
  have hf := Option.some.inj hf
  subst hf
  exact ah_iret K hG hL (Nat.le_refl _) (Nat.le_refl _) dX9_wages_11
def fX10_init_53_b   (k53 : ah_h → Nat → Nat → Int32 → Option ((ah_h × Nat)))  (M : ah_h) (z : Nat) (a0 : Nat) (x1 : Int32) : Option ((ah_h × Nat)) := if 8 ≤ x1 then ((ah_pf (ah_mn M z) a0 10 5 (.ref z)).bind fun M2 => (ah_pf (ah_up M2 (z + 6) (ah_I 12 (fun _ => 0))) a0 10 6 (.ref (z + 6))).bind fun M3 => (ah_pf (ah_up M3 ((z + 6) + 1) (ah_J 5 (fun _ => 0))) a0 10 7 (.ref ((z + 6) + 1))).bind fun M4 => some (M4, (((z + 6) + 1) + 1))) else ((ah_gr M a0 10 4).bind fun v5 => (fX7_init (ah_up M z (ah_O 7 [.null, .int 0, .int 0, .null])) (z + 1) z).bind fun v6 => (ah_ob v6.1 z 7).bind fun y8 => (ah_sr v6.1 v5 3 x1 z).bind fun M7 => k53 M7 v6.2 a0 (x1 + 1))
def fX10_init_53    : Nat → ah_h → Nat → Nat → Int32 → Option ((ah_h × Nat))
  | 0 => fun _ _ _ _ => none
  | n + 1 => fun M z a0 x1 => fX10_init_53_b   (fX10_init_53    n)  M z a0 x1
set_option maxRecDepth 100000 in
set_option maxHeartbeats 4000000 in
theorem wX10_init_53_b {p : Program} {l : Launch} {e : Env} {s : State} {m : MethodId} {args : Array Value} {below : List Frame} {meth : Method} {c : Code} {D : va_G} {ca : Nat → ClassId} {H0 : Heap}  (K : ah_K p s m args meth c D ca "ShipsThatMeet" cX10_init 2 none) (hin : "<init>" = "<init>" → meth.name = "<init>")   {n53 : Nat} (k53 : ah_h → Nat → Nat → Int32 → Option ((ah_h × Nat))) (hk53 : ∀ (M : ah_h) (z : Nat) (a0 : Nat) (x1 : Int32) (cells slots : Nat), cells + n53 * 2 ≤ 628 → slots + n53 * 104 ≤ 31478 → ∀ (H : Heap) (locs : List Loc) (ls : Array Slot), ah_g H0 D ca M z H → ah_L H0 locs → lv_has ls 2 [(0, .ref a0), (1, .int x1)] → ∀ Z, k53 M z a0 x1 = some Z → W p l e { frames := 3, cells := 640, slots := 31600, locals := 64 } s m args below meth c H locs cells slots (ah_Q below args s H0 D ca 640 31600 none Z.1 Z.2) (F0 m 53 ls [])) : ∀ (M : ah_h) (z : Nat) (a0 : Nat) (x1 : Int32) (cells slots : Nat), cells + (n53 + 1) * 2 ≤ 628 → slots + (n53 + 1) * 104 ≤ 31478 → ∀ (H : Heap) (locs : List Loc) (ls : Array Slot), ah_g H0 D ca M z H → ah_L H0 locs → lv_has ls 2 [(0, .ref a0), (1, .int x1)] → ∀ Z, fX10_init_53_b   k53  M z a0 x1 = some Z → W p l e { frames := 3, cells := 640, slots := 31600, locals := 64 } s m args below meth c H locs cells slots (ah_Q below args s H0 D ca 640 31600 none Z.1 Z.2) (F0 m 53 ls []) := by
  intro M z a0 x1 cells slots hc hs H locs ls hG hL hl Z hf
  unfold fX10_init_53_b at hf
  refine lv_iload_n K.1 K.2.1 dX10_init_53 rfl (lv_at hl 1 rfl) ?_
  refine lv_bipush (v := 8) K.1 K.2.1 dX10_init_54 (by decide) ?_
  refine lv_icmp_ge (tgt := 78) K.1 K.2.1 dX10_init_56 (by decide) (fun h1 => ?_) (fun h1 => ?_)
  · rw [if_pos h1] at hf
    refine lv_aload_n K.1 K.2.1 dX10_init_78 rfl (lv_at hl 0 rfl) ?_
    refine lv_iconst (v := 5) K.1 K.2.1 dX10_init_79 (by decide) ?_
    refine lv_iconst (v := 5) K.1 K.2.1 dX10_init_80 (by decide) ?_
    refine ah_mna K hG q_178 q_153 (by show _ ≤ 640; omega) (by show _ ≤ 31600; omega) dX10_init_81 (fun H hG => ?_)
    obtain ⟨M2, eM2, hf⟩ := Option.bind_eq_some_iff.mp hf
    refine ah_putF K hG hL eM2 fwX10_35_10 (hin rfl) rfl rfl dX10_init_85 (fun H locs hG hL => ?_)
    refine lv_aload_n K.1 K.2.1 dX10_init_88 rfl (lv_at hl 0 rfl) ?_
    refine lv_bipush (v := 12) K.1 K.2.1 dX10_init_89 (by decide) ?_
    refine ah_newi (N := 12) K hG q_153 (by decide) (by decide) (by decide) (by show _ ≤ 640; omega) (by show _ ≤ 31600; omega) dX10_init_91 (fun H hG => ?_)
    obtain ⟨M3, eM3, hf⟩ := Option.bind_eq_some_iff.mp hf
    refine ah_putF K hG hL eM3 fwX10_38_10 (hin rfl) rfl rfl dX10_init_93 (fun H locs hG hL => ?_)
    refine lv_aload_n K.1 K.2.1 dX10_init_96 rfl (lv_at hl 0 rfl) ?_
    refine lv_iconst (v := 5) K.1 K.2.1 dX10_init_97 (by decide) ?_
    refine ah_newj (N := 5) K hG q_205 (by decide) (by decide) (by decide) (by show _ ≤ 640; omega) (by show _ ≤ 31600; omega) dX10_init_98 (fun H hG => ?_)
    obtain ⟨M4, eM4, hf⟩ := Option.bind_eq_some_iff.mp hf
    refine ah_putF K hG hL eM4 fwX10_42_10 (hin rfl) rfl rfl dX10_init_100 (fun H locs hG hL => ?_)
    have hf := Option.some.inj hf
    subst hf
    exact ah_vret K hG hL (by omega) (by omega) dX10_init_103
  · rw [if_neg h1] at hf
    refine lv_aload_n K.1 K.2.1 dX10_init_59 rfl (lv_at hl 0 rfl) ?_
    obtain ⟨v5, ev5, hf⟩ := Option.bind_eq_some_iff.mp hf
    refine ah_getr K hG ev5 ffX10_28_10 dX10_init_60 ?_
    refine lv_iload_n K.1 K.2.1 dX10_init_63 rfl (lv_at hl 1 rfl) ?_
    refine ah_new (ci := 7) (C := "ShipsThatMeet$Shelf") (T := TX7) (N := 4) K hG tyX7 rfl tyX7_ok inX7 q_154 q_156 q_53 [.null, .int 0, .int 0, .null] (fun j hj => by rcases (show j = 0 ∨ j = 1 ∨ j = 2 ∨ j = 3 by omega) with rfl | rfl | rfl | rfl <;> rfl) (by show _ ≤ 640; omega) (by show _ ≤ 31600; omega) dX10_init_64 (fun H hG => ?_)
    refine lv_dup K.1 K.2.1 dX10_init_67 rfl ?_
    obtain ⟨v6, ev6, hf⟩ := Option.bind_eq_some_iff.mp hf
    refine ah_callI (As := []) (rest := [.ref z, .int x1, .ref v5]) K hG hL hl.1 (ctX7_init l H0 D ca (ah_up M z (ah_O 7 [.null, .int 0, .int 0, .null])) (z + 1) z v6 ev6) rfl hdX7_init q_157 q_158 q_53 q_159 ⟨Nat.le_of_ble_eq_true rfl, Nat.le_of_ble_eq_true rfl⟩ rfl rfl (Nat.le_of_ble_eq_true rfl) ⟨by show _ ≤ 640; omega, by show _ ≤ 31600; omega⟩ dX10_init_68 (fun H locs hG hL => ?_)
    obtain ⟨y8, ey8, hf⟩ := Option.bind_eq_some_iff.mp hf
    obtain ⟨M7, eM7, hf⟩ := Option.bind_eq_some_iff.mp hf
    refine ah_aast (t := 3) K hG hL eM7 rfl (ah_anyS K hG ey8) dX10_init_71 (fun H locs hG hL => ?_)
    refine lv_iinc (v := x1 + 1) (lv' := [(1, .int (x1 + 1)), (0, .ref a0)]) K.1 K.2.1 dX10_init_72 hl (k := 1) rfl rfl (by decide) rfl (fun ls hl => ?_)
    refine lv_goto (tgt := 53) K.1 K.2.1 dX10_init_75 (by decide) ?_
    exact hk53 M7 v6.2 a0 (x1 + 1) _ _ (by omega) (by omega) _ _ _ hG hL (lv_sub hl [1, 0] rfl) _ hf
theorem wX10_init_53 {p : Program} {l : Launch} {e : Env} {s : State} {m : MethodId} {args : Array Value} {below : List Frame} {meth : Method} {c : Code} {D : va_G} {ca : Nat → ClassId} {H0 : Heap}  (K : ah_K p s m args meth c D ca "ShipsThatMeet" cX10_init 2 none) (hin : "<init>" = "<init>" → meth.name = "<init>")   (n : Nat) : ∀ (M : ah_h) (z : Nat) (a0 : Nat) (x1 : Int32) (cells slots : Nat), cells + n * 2 ≤ 628 → slots + n * 104 ≤ 31478 → ∀ (H : Heap) (locs : List Loc) (ls : Array Slot), ah_g H0 D ca M z H → ah_L H0 locs → lv_has ls 2 [(0, .ref a0), (1, .int x1)] → ∀ Z, fX10_init_53    n M z a0 x1 = some Z → W p l e { frames := 3, cells := 640, slots := 31600, locals := 64 } s m args below meth c H locs cells slots (ah_Q below args s H0 D ca 640 31600 none Z.1 Z.2) (F0 m 53 ls []) := by
  induction n with
  | zero => intro M z a0 x1 cells slots hc hs H locs ls hG hL hl Z hf; cases hf
  | succ n ih => exact wX10_init_53_b K hin  _ ih
def fX10_init (M : ah_h) (z : Nat) (a0 : Nat) : Option ((ah_h × Nat)) := (fX2_init (ah_up M z (ah_O 2 [.int 0, .int 0, .int 0, .null, .null, .null, .null, .null, .null, .null])) (z + 1) z).bind fun v1 => (ah_pf v1.1 a0 10 0 (.ref z)).bind fun M2 => (fX2_init (ah_up M2 v1.2 (ah_O 2 [.int 0, .int 0, .int 0, .null, .null, .null, .null, .null, .null, .null])) (v1.2 + 1) v1.2).bind fun v3 => (ah_pf v3.1 a0 10 1 (.ref v1.2)).bind fun M4 => (fX2_init (ah_up M4 v3.2 (ah_O 2 [.int 0, .int 0, .int 0, .null, .null, .null, .null, .null, .null, .null])) (v3.2 + 1) v3.2).bind fun v5 => (ah_pf v5.1 a0 10 2 (.ref v3.2)).bind fun M6 => (ah_pf M6 a0 10 3 (.int 0)).bind fun M7 => (ah_pf (ah_up M7 v5.2 (ah_R 3 8 (fun _ => none))) a0 10 4 (.ref v5.2)).bind fun M8 => fX10_init_53 ah_fu M8 (v5.2 + 1) a0 0
set_option maxRecDepth 100000 in
set_option maxHeartbeats 4000000 in
theorem ctX10_init (l : Launch) (H0 : Heap) (D : va_G) (ca : Nat → ClassId) (M : ah_h) (z : Nat) (a0 : Nat) (Z : (ah_h × Nat)) (hf : fX10_init M z a0 = some Z) : ah_ct l H0 D ca yX10_init cX10_init 2 none 3 64 640 31600 [.ref a0] M z none Z.1 Z.2 := by
  refine ah_of (by decide) (Nat.le_of_ble_eq_true rfl) ?_
  intro p e s m below meth c ls hin K hG hl
  have hL : ah_L H0 [] := ah_L.nil
  have hl : lv_has ls 2 [(0, .ref a0)] := hl
  unfold fX10_init at hf
  refine lv_aload_n K.1 K.2.1 dX10_init_0 rfl (lv_at hl 0 rfl) ?_
  refine W.objInit K.1 K.2.1 K.2.2.2.1 (K.2.2.2.2.1 _ q_75) (K.2.2.2.2.1 _ q_76) (K.2.2.2.2.1 _ q_77) rfl (by rw [K.2.2.1]; exact hl.1) rfl dX10_init_1 (Nat.le_of_ble_eq_true rfl) (Nat.le_of_ble_eq_true rfl) ?_
  refine W.eq (g2 := F0 m 4 ls []) rfl ?_
  refine lv_aload_n K.1 K.2.1 dX10_init_4 rfl (lv_at hl 0 rfl) ?_
  refine ah_new (ci := 2) (C := "ShipsThatMeet$Fleet") (T := TX2) (N := 10) K hG tyX2 rfl tyX2_ok inX2 q_78 q_79 q_51 [.int 0, .int 0, .int 0, .null, .null, .null, .null, .null, .null, .null] (fun j hj => by rcases (show j = 0 ∨ j = 1 ∨ j = 2 ∨ j = 3 ∨ j = 4 ∨ j = 5 ∨ j = 6 ∨ j = 7 ∨ j = 8 ∨ j = 9 by omega) with rfl | rfl | rfl | rfl | rfl | rfl | rfl | rfl | rfl | rfl <;> rfl) (by show _ ≤ 640; omega) (by show _ ≤ 31600; omega) dX10_init_5 (fun H hG => ?_)
  refine lv_dup K.1 K.2.1 dX10_init_8 rfl ?_
  obtain ⟨v1, ev1, hf⟩ := Option.bind_eq_some_iff.mp hf
  refine ah_callI (As := []) (rest := [.ref z, .ref a0]) K hG hL hl.1 (ctX2_init l H0 D ca (ah_up M z (ah_O 2 [.int 0, .int 0, .int 0, .null, .null, .null, .null, .null, .null, .null])) (z + 1) z v1 ev1) rfl hdX2_init q_80 q_81 q_51 q_82 ⟨Nat.le_of_ble_eq_true rfl, Nat.le_of_ble_eq_true rfl⟩ rfl rfl (Nat.le_of_ble_eq_true rfl) ⟨by show _ ≤ 640; omega, by show _ ≤ 31600; omega⟩ dX10_init_9 (fun H locs hG hL => ?_)
  obtain ⟨M2, eM2, hf⟩ := Option.bind_eq_some_iff.mp hf
  refine ah_putF K hG hL eM2 fwX10_10_10 (hin rfl) rfl rfl dX10_init_12 (fun H locs hG hL => ?_)
  refine lv_aload_n K.1 K.2.1 dX10_init_15 rfl (lv_at hl 0 rfl) ?_
  refine ah_new (ci := 2) (C := "ShipsThatMeet$Fleet") (T := TX2) (N := 10) K hG tyX2 rfl tyX2_ok inX2 q_78 q_79 q_51 [.int 0, .int 0, .int 0, .null, .null, .null, .null, .null, .null, .null] (fun j hj => by rcases (show j = 0 ∨ j = 1 ∨ j = 2 ∨ j = 3 ∨ j = 4 ∨ j = 5 ∨ j = 6 ∨ j = 7 ∨ j = 8 ∨ j = 9 by omega) with rfl | rfl | rfl | rfl | rfl | rfl | rfl | rfl | rfl | rfl <;> rfl) (by show _ ≤ 640; omega) (by show _ ≤ 31600; omega) dX10_init_16 (fun H hG => ?_)
  refine lv_dup K.1 K.2.1 dX10_init_19 rfl ?_
  obtain ⟨v3, ev3, hf⟩ := Option.bind_eq_some_iff.mp hf
  refine ah_callI (As := []) (rest := [.ref v1.2, .ref a0]) K hG hL hl.1 (ctX2_init l H0 D ca (ah_up M2 v1.2 (ah_O 2 [.int 0, .int 0, .int 0, .null, .null, .null, .null, .null, .null, .null])) (v1.2 + 1) v1.2 v3 ev3) rfl hdX2_init q_80 q_81 q_51 q_82 ⟨Nat.le_of_ble_eq_true rfl, Nat.le_of_ble_eq_true rfl⟩ rfl rfl (Nat.le_of_ble_eq_true rfl) ⟨by show _ ≤ 640; omega, by show _ ≤ 31600; omega⟩ dX10_init_20 (fun H locs hG hL => ?_)
  obtain ⟨M4, eM4, hf⟩ := Option.bind_eq_some_iff.mp hf
  refine ah_putF K hG hL eM4 fwX10_16_10 (hin rfl) rfl rfl dX10_init_23 (fun H locs hG hL => ?_)
  refine lv_aload_n K.1 K.2.1 dX10_init_26 rfl (lv_at hl 0 rfl) ?_
  refine ah_new (ci := 2) (C := "ShipsThatMeet$Fleet") (T := TX2) (N := 10) K hG tyX2 rfl tyX2_ok inX2 q_78 q_79 q_51 [.int 0, .int 0, .int 0, .null, .null, .null, .null, .null, .null, .null] (fun j hj => by rcases (show j = 0 ∨ j = 1 ∨ j = 2 ∨ j = 3 ∨ j = 4 ∨ j = 5 ∨ j = 6 ∨ j = 7 ∨ j = 8 ∨ j = 9 by omega) with rfl | rfl | rfl | rfl | rfl | rfl | rfl | rfl | rfl | rfl <;> rfl) (by show _ ≤ 640; omega) (by show _ ≤ 31600; omega) dX10_init_27 (fun H hG => ?_)
  refine lv_dup K.1 K.2.1 dX10_init_30 rfl ?_
  obtain ⟨v5, ev5, hf⟩ := Option.bind_eq_some_iff.mp hf
  refine ah_callI (As := []) (rest := [.ref v3.2, .ref a0]) K hG hL hl.1 (ctX2_init l H0 D ca (ah_up M4 v3.2 (ah_O 2 [.int 0, .int 0, .int 0, .null, .null, .null, .null, .null, .null, .null])) (v3.2 + 1) v3.2 v5 ev5) rfl hdX2_init q_80 q_81 q_51 q_82 ⟨Nat.le_of_ble_eq_true rfl, Nat.le_of_ble_eq_true rfl⟩ rfl rfl (Nat.le_of_ble_eq_true rfl) ⟨by show _ ≤ 640; omega, by show _ ≤ 31600; omega⟩ dX10_init_31 (fun H locs hG hL => ?_)
  obtain ⟨M6, eM6, hf⟩ := Option.bind_eq_some_iff.mp hf
  refine ah_putF K hG hL eM6 fwX10_19_10 (hin rfl) rfl rfl dX10_init_34 (fun H locs hG hL => ?_)
  refine lv_aload_n K.1 K.2.1 dX10_init_37 rfl (lv_at hl 0 rfl) ?_
  refine lv_iconst (v := 0) K.1 K.2.1 dX10_init_38 (by decide) ?_
  obtain ⟨M7, eM7, hf⟩ := Option.bind_eq_some_iff.mp hf
  refine ah_put K hG hL eM7 fwX10_22_10 rfl rfl dX10_init_39 (fun H locs hG hL => ?_)
  refine lv_aload_n K.1 K.2.1 dX10_init_42 rfl (lv_at hl 0 rfl) ?_
  refine lv_bipush (v := 8) K.1 K.2.1 dX10_init_43 (by decide) ?_
  refine ah_newr (C := "ShipsThatMeet$Shelf") (t := 3) (N := 8) K hG K.2.2.2.2.2.1.2.2.2.2.1 rfl q_154 (by decide) (by decide) (by decide) (by show _ ≤ 640; omega) (by show _ ≤ 31600; omega) dX10_init_45 (fun H hG => ?_)
  obtain ⟨M8, eM8, hf⟩ := Option.bind_eq_some_iff.mp hf
  refine ah_putF K hG hL eM8 fwX10_28_10 (hin rfl) rfl rfl dX10_init_48 (fun H locs hG hL => ?_)
  refine lv_iconst (v := 0) K.1 K.2.1 dX10_init_51 (by decide) ?_
  refine lv_istore_n (lv' := [(1, .int 0), (0, .ref a0)]) K.1 K.2.1 dX10_init_52 rfl hl (by decide) rfl (fun ls hl => ?_)
  exact wX10_init_53 K hin  ah_fu M8 (v5.2 + 1) a0 0 _ _ (by unfold ah_fu; omega) (by unfold ah_fu; omega) _ _ _ hG hL (lv_sub hl [1, 0] rfl) _ hf
def fX10_man (M : ah_h) (a0 : Nat) (x1 : Int32) (x2 : Int32) : Option (Int32) := (ah_ob M a0 10).bind fun _ => (ah_gr M a0 10 0).bind fun v1 => (fX2_isMan M v1 x1).bind fun v2 => if v2 = 0 then (some (-1)) else (if x2 = 0 then ((ah_gr M a0 10 0).bind fun v6 => (ah_gr M v6 2 5).bind fun v7 => (ah_ai M v7 x1).bind fun v8 => some v8) else if x2 = 1 then ((ah_gr M a0 10 0).bind fun v10 => (ah_gr M v10 2 6).bind fun v11 => (ah_ai M v11 x1).bind fun v12 => some v12) else if x2 = 2 then ((ah_gr M a0 10 0).bind fun v14 => (ah_gr M v14 2 7).bind fun v15 => (ah_ai M v15 x1).bind fun v16 => some v16) else if x2 = 3 then ((ah_gr M a0 10 0).bind fun v18 => (ah_gr M v18 2 8).bind fun v19 => (ah_ai M v19 x1).bind fun v20 => some v20) else (some (-1)))
set_option maxRecDepth 100000 in
set_option maxHeartbeats 4000000 in
theorem ctX10_man (l : Launch) (H0 : Heap) (D : va_G) (ca : Nat → ClassId) (M : ah_h) (z : Nat) (a0 : Nat) (x1 : Int32) (x2 : Int32) (Z : Int32) (hf : fX10_man M a0 x1 x2 = some Z) : ah_ct l H0 D ca yX10_man cX10_man 3 (some .int) 1 21 0 0 [.ref a0, .int x1, .int x2] M z (some (.int Z)) M z := by
  refine ah_of (by decide) (Nat.le_of_ble_eq_true rfl) ?_
  intro p e s m below meth c ls hin K hG hl
  have hL : ah_L H0 [] := ah_L.nil
  have hl : lv_has ls 3 [(0, .ref a0), (1, .int x1), (2, .int x2)] := hl
  unfold fX10_man at hf
  obtain ⟨-, -, hf⟩ := Option.bind_eq_some_iff.mp hf
  refine lv_aload_n K.1 K.2.1 dX10_man_0 rfl (lv_at hl 0 rfl) ?_
  obtain ⟨v1, ev1, hf⟩ := Option.bind_eq_some_iff.mp hf
  refine ah_getr K hG ev1 ffX10_10_10 dX10_man_1 ?_
  refine lv_iload_n K.1 K.2.1 dX10_man_4 rfl (lv_at hl 1 rfl) ?_
  obtain ⟨v2, ev2, hf⟩ := Option.bind_eq_some_iff.mp hf
  obtain ⟨q3, eq3⟩ := ah_this ev2
  refine ah_callV (As := [.int x1]) (rest := []) K hG hL hl.1 eq3 rfl (ctX2_isMan l H0 D ca M z v1 x1 v2 ev2) hdX2_isMan q_435 q_417 q_51 q_419 q_418 ⟨Nat.le_of_ble_eq_true rfl, Nat.le_of_ble_eq_true rfl⟩ rfl rfl (Nat.le_of_ble_eq_true rfl) ⟨Nat.le_refl _, Nat.le_refl _⟩ dX10_man_5 (fun H locs hG hL => ?_)
  refine lv_if_ne (tgt := 13) K.1 K.2.1 dX10_man_8 (by decide) (fun h4 => ?_) (fun h4 => ?_)
  · rw [if_neg h4] at hf
    refine lv_iload_n K.1 K.2.1 dX10_man_13 rfl (lv_at hl 2 rfl) ?_
    by_cases h5 : x2 = 0
    · rw [if_pos h5] at hf
      refine lv_tableIn (off := 30) (tgt := 44) K.1 K.2.1 dX10_man_14 (by rw [h5]; decide) (by rw [h5]; decide) (by rw [h5]; rfl) (by decide) ?_
      refine lv_aload_n K.1 K.2.1 dX10_man_44 rfl (lv_at hl 0 rfl) ?_
      obtain ⟨v6, ev6, hf⟩ := Option.bind_eq_some_iff.mp hf
      refine ah_getr K hG ev6 ffX10_10_10 dX10_man_45 ?_
      obtain ⟨v7, ev7, hf⟩ := Option.bind_eq_some_iff.mp hf
      refine ah_getr K hG ev7 ffX10_102_2 dX10_man_48 ?_
      refine lv_iload_n K.1 K.2.1 dX10_man_51 rfl (lv_at hl 1 rfl) ?_
      obtain ⟨v8, ev8, hf⟩ := Option.bind_eq_some_iff.mp hf
      refine ah_iald K hG ev8 dX10_man_52 ?_
      have hf := Option.some.inj hf
      subst hf
      exact ah_iret K hG hL (Nat.le_refl _) (Nat.le_refl _) dX10_man_53
    rw [if_neg h5] at hf
    by_cases h9 : x2 = 1
    · rw [if_pos h9] at hf
      refine lv_tableIn (off := 40) (tgt := 54) K.1 K.2.1 dX10_man_14 (by rw [h9]; decide) (by rw [h9]; decide) (by rw [h9]; rfl) (by decide) ?_
      refine lv_aload_n K.1 K.2.1 dX10_man_54 rfl (lv_at hl 0 rfl) ?_
      obtain ⟨v10, ev10, hf⟩ := Option.bind_eq_some_iff.mp hf
      refine ah_getr K hG ev10 ffX10_10_10 dX10_man_55 ?_
      obtain ⟨v11, ev11, hf⟩ := Option.bind_eq_some_iff.mp hf
      refine ah_getr K hG ev11 ffX10_105_2 dX10_man_58 ?_
      refine lv_iload_n K.1 K.2.1 dX10_man_61 rfl (lv_at hl 1 rfl) ?_
      obtain ⟨v12, ev12, hf⟩ := Option.bind_eq_some_iff.mp hf
      refine ah_iald K hG ev12 dX10_man_62 ?_
      have hf := Option.some.inj hf
      subst hf
      exact ah_iret K hG hL (Nat.le_refl _) (Nat.le_refl _) dX10_man_63
    rw [if_neg h9] at hf
    by_cases h13 : x2 = 2
    · rw [if_pos h13] at hf
      refine lv_tableIn (off := 50) (tgt := 64) K.1 K.2.1 dX10_man_14 (by rw [h13]; decide) (by rw [h13]; decide) (by rw [h13]; rfl) (by decide) ?_
      refine lv_aload_n K.1 K.2.1 dX10_man_64 rfl (lv_at hl 0 rfl) ?_
      obtain ⟨v14, ev14, hf⟩ := Option.bind_eq_some_iff.mp hf
      refine ah_getr K hG ev14 ffX10_10_10 dX10_man_65 ?_
      obtain ⟨v15, ev15, hf⟩ := Option.bind_eq_some_iff.mp hf
      refine ah_getr K hG ev15 ffX10_108_2 dX10_man_68 ?_
      refine lv_iload_n K.1 K.2.1 dX10_man_71 rfl (lv_at hl 1 rfl) ?_
      obtain ⟨v16, ev16, hf⟩ := Option.bind_eq_some_iff.mp hf
      refine ah_iald K hG ev16 dX10_man_72 ?_
      have hf := Option.some.inj hf
      subst hf
      exact ah_iret K hG hL (Nat.le_refl _) (Nat.le_refl _) dX10_man_73
    rw [if_neg h13] at hf
    by_cases h17 : x2 = 3
    · rw [if_pos h17] at hf
      refine lv_tableIn (off := 60) (tgt := 74) K.1 K.2.1 dX10_man_14 (by rw [h17]; decide) (by rw [h17]; decide) (by rw [h17]; rfl) (by decide) ?_
      refine lv_aload_n K.1 K.2.1 dX10_man_74 rfl (lv_at hl 0 rfl) ?_
      obtain ⟨v18, ev18, hf⟩ := Option.bind_eq_some_iff.mp hf
      refine ah_getr K hG ev18 ffX10_10_10 dX10_man_75 ?_
      obtain ⟨v19, ev19, hf⟩ := Option.bind_eq_some_iff.mp hf
      refine ah_getr K hG ev19 ffX10_111_2 dX10_man_78 ?_
      refine lv_iload_n K.1 K.2.1 dX10_man_81 rfl (lv_at hl 1 rfl) ?_
      obtain ⟨v20, ev20, hf⟩ := Option.bind_eq_some_iff.mp hf
      refine ah_iald K hG ev20 dX10_man_82 ?_
      have hf := Option.some.inj hf
      subst hf
      exact ah_iret K hG hL (Nat.le_refl _) (Nat.le_refl _) dX10_man_83
    rw [if_neg h17] at hf
    have th5 := lv_neT (a := 0) h5 (by decide)
    have th9 := lv_neT (a := 1) h9 (by decide)
    have th13 := lv_neT (a := 2) h13 (by decide)
    have th17 := lv_neT (a := 3) h17 (by decide)
    refine lv_tableOut (tgt := 84) K.1 K.2.1 dX10_man_14 (by omega) (by decide) ?_
    refine lv_iconst (v := (-1)) K.1 K.2.1 dX10_man_84 (by decide) ?_
    have hf := Option.some.inj hf
    subst hf
    exact ah_iret K hG hL (Nat.le_refl _) (Nat.le_refl _) dX10_man_85
  · rw [if_pos h4] at hf
    refine lv_iconst (v := (-1)) K.1 K.2.1 dX10_man_11 (by decide) ?_
    have hf := Option.some.inj hf
    subst hf
    exact ah_iret K hG hL (Nat.le_refl _) (Nat.le_refl _) dX10_man_12
def fX10_sailed (M : ah_h) (a0 : Nat) (x1 : Int32) : Option (Int32) := (ah_ob M a0 10).bind fun _ => (ah_gr M a0 10 0).bind fun v1 => (fX2_isMan M v1 x1).bind fun v2 => if v2 = 0 then (some (-1)) else ((ah_gr M a0 10 0).bind fun v5 => (ah_gr M v5 2 9).bind fun v6 => (ah_ai M v6 x1).bind fun v7 => some v7)
set_option maxRecDepth 100000 in
set_option maxHeartbeats 4000000 in
theorem ctX10_sailed (l : Launch) (H0 : Heap) (D : va_G) (ca : Nat → ClassId) (M : ah_h) (z : Nat) (a0 : Nat) (x1 : Int32) (Z : Int32) (hf : fX10_sailed M a0 x1 = some Z) : ah_ct l H0 D ca yX10_sailed cX10_sailed 2 (some .int) 1 21 0 0 [.ref a0, .int x1] M z (some (.int Z)) M z := by
  refine ah_of (by decide) (Nat.le_of_ble_eq_true rfl) ?_
  intro p e s m below meth c ls hin K hG hl
  have hL : ah_L H0 [] := ah_L.nil
  have hl : lv_has ls 2 [(0, .ref a0), (1, .int x1)] := hl
  unfold fX10_sailed at hf
  obtain ⟨-, -, hf⟩ := Option.bind_eq_some_iff.mp hf
  refine lv_aload_n K.1 K.2.1 dX10_sailed_0 rfl (lv_at hl 0 rfl) ?_
  obtain ⟨v1, ev1, hf⟩ := Option.bind_eq_some_iff.mp hf
  refine ah_getr K hG ev1 ffX10_10_10 dX10_sailed_1 ?_
  refine lv_iload_n K.1 K.2.1 dX10_sailed_4 rfl (lv_at hl 1 rfl) ?_
  obtain ⟨v2, ev2, hf⟩ := Option.bind_eq_some_iff.mp hf
  obtain ⟨q3, eq3⟩ := ah_this ev2
  refine ah_callV (As := [.int x1]) (rest := []) K hG hL hl.1 eq3 rfl (ctX2_isMan l H0 D ca M z v1 x1 v2 ev2) hdX2_isMan q_435 q_417 q_51 q_419 q_418 ⟨Nat.le_of_ble_eq_true rfl, Nat.le_of_ble_eq_true rfl⟩ rfl rfl (Nat.le_of_ble_eq_true rfl) ⟨Nat.le_refl _, Nat.le_refl _⟩ dX10_sailed_5 (fun H locs hG hL => ?_)
  refine lv_if_eq (tgt := 23) K.1 K.2.1 dX10_sailed_8 (by decide) (fun h4 => ?_) (fun h4 => ?_)
  · rw [if_pos h4] at hf
    refine lv_iconst (v := (-1)) K.1 K.2.1 dX10_sailed_23 (by decide) ?_
    have hf := Option.some.inj hf
    subst hf
    exact ah_iret K hG hL (Nat.le_refl _) (Nat.le_refl _) dX10_sailed_24
  · rw [if_neg h4] at hf
    refine lv_aload_n K.1 K.2.1 dX10_sailed_11 rfl (lv_at hl 0 rfl) ?_
    obtain ⟨v5, ev5, hf⟩ := Option.bind_eq_some_iff.mp hf
    refine ah_getr K hG ev5 ffX10_10_10 dX10_sailed_12 ?_
    obtain ⟨v6, ev6, hf⟩ := Option.bind_eq_some_iff.mp hf
    refine ah_getr K hG ev6 ffX10_179_2 dX10_sailed_15 ?_
    refine lv_iload_n K.1 K.2.1 dX10_sailed_18 rfl (lv_at hl 1 rfl) ?_
    obtain ⟨v7, ev7, hf⟩ := Option.bind_eq_some_iff.mp hf
    refine ah_iald K hG ev7 dX10_sailed_19 ?_
    refine lv_goto (tgt := 24) K.1 K.2.1 dX10_sailed_20 (by decide) ?_
    have hf := Option.some.inj hf
    subst hf
    exact ah_iret K hG hL (Nat.le_refl _) (Nat.le_refl _) dX10_sailed_24
def fX10_mixed (M : ah_h) (a0 : Nat) : Option (Int32) := (ah_ob M a0 10).bind fun _ => (ah_gr M a0 10 0).bind fun v1 => (fX2_mixedPairs M v1).bind fun v2 => some v2
set_option maxRecDepth 100000 in
set_option maxHeartbeats 4000000 in
theorem ctX10_mixed (l : Launch) (H0 : Heap) (D : va_G) (ca : Nat → ClassId) (M : ah_h) (z : Nat) (a0 : Nat) (Z : Int32) (hf : fX10_mixed M a0 = some Z) : ah_ct l H0 D ca yX10_mixed cX10_mixed 1 (some .int) 1 23 0 0 [.ref a0] M z (some (.int Z)) M z := by
  refine ah_of (by decide) (Nat.le_of_ble_eq_true rfl) ?_
  intro p e s m below meth c ls hin K hG hl
  have hL : ah_L H0 [] := ah_L.nil
  have hl : lv_has ls 1 [(0, .ref a0)] := hl
  unfold fX10_mixed at hf
  obtain ⟨-, -, hf⟩ := Option.bind_eq_some_iff.mp hf
  refine lv_aload_n K.1 K.2.1 dX10_mixed_0 rfl (lv_at hl 0 rfl) ?_
  obtain ⟨v1, ev1, hf⟩ := Option.bind_eq_some_iff.mp hf
  refine ah_getr K hG ev1 ffX10_10_10 dX10_mixed_1 ?_
  obtain ⟨v2, ev2, hf⟩ := Option.bind_eq_some_iff.mp hf
  obtain ⟨q3, eq3⟩ := ah_this ev2
  refine ah_callV (As := []) (rest := []) K hG hL hl.1 eq3 rfl (ctX2_mixedPairs l H0 D ca M z v1 v2 ev2) hdX2_mixedPairs q_585 q_586 q_51 q_588 q_587 ⟨Nat.le_of_ble_eq_true rfl, Nat.le_of_ble_eq_true rfl⟩ rfl rfl (Nat.le_of_ble_eq_true rfl) ⟨Nat.le_refl _, Nat.le_refl _⟩ dX10_mixed_4 (fun H locs hG hL => ?_)
  have hf := Option.some.inj hf
  subst hf
  exact ah_iret K hG hL (Nat.le_refl _) (Nat.le_refl _) dX10_mixed_7
def fX10_lacks_44  (k15 : Nat → Int32 → Int32 → Int32 → Option (Int32)) (M : ah_h) (a0 : Nat) (x1 : Int32) (x2 : Int32) (x3 : Int32) : Option (Int32) := k15 a0 x1 x2 (x3 + 1)
set_option maxRecDepth 100000 in
set_option maxHeartbeats 4000000 in
theorem wX10_lacks_44 {p : Program} {l : Launch} {e : Env} {s : State} {m : MethodId} {args : Array Value} {below : List Frame} {meth : Method} {c : Code} {D : va_G} {ca : Nat → ClassId} {H0 : Heap} {M : ah_h} {z : Nat} (K : ah_K p s m args meth c D ca "ShipsThatMeet" cX10_lacks 4 (some .int))  (k15 : Nat → Int32 → Int32 → Int32 → Option (Int32)) (hk15 : ∀ (a0 : Nat) (x1 : Int32) (x2 : Int32) (x3 : Int32)  (H : Heap) (locs : List Loc) (ls : Array Slot), ah_g H0 D ca M z H → ah_L H0 locs → lv_has ls 4 [(0, .ref a0), (1, .int x1), (2, .int x2), (3, .int x3)] → ∀ Z, k15 a0 x1 x2 x3 = some Z → W p l e { frames := 1, cells := 0, slots := 0, locals := 23 } s m args below meth c H locs 0 0 (ah_Q below args s H0 D ca 0 0 (some (.int Z)) M z) (F0 m 15 ls [])) : ∀ (a0 : Nat) (x1 : Int32) (x2 : Int32) (x3 : Int32)  (H : Heap) (locs : List Loc) (ls : Array Slot), ah_g H0 D ca M z H → ah_L H0 locs → lv_has ls 4 [(0, .ref a0), (1, .int x1), (2, .int x2), (3, .int x3)] → ∀ Z, fX10_lacks_44  k15 M a0 x1 x2 x3 = some Z → W p l e { frames := 1, cells := 0, slots := 0, locals := 23 } s m args below meth c H locs 0 0 (ah_Q below args s H0 D ca 0 0 (some (.int Z)) M z) (F0 m 44 ls []) := by
  intro a0 x1 x2 x3 H locs ls hG hL hl Z hf
  unfold fX10_lacks_44 at hf
  refine lv_iinc (v := x3 + 1) (lv' := [(3, .int (x3 + 1)), (0, .ref a0), (1, .int x1), (2, .int x2)]) K.1 K.2.1 dX10_lacks_44 hl (k := 3) rfl rfl (by decide) rfl (fun ls hl => ?_)
  refine lv_goto (tgt := 15) K.1 K.2.1 dX10_lacks_47 (by decide) ?_
  exact hk15 a0 x1 x2 (x3 + 1) _ _ _ hG hL (lv_sub hl [1, 2, 3, 0] rfl) _ hf
def fX10_lacks_15_b   (k15 : Nat → Int32 → Int32 → Int32 → Option (Int32)) (M : ah_h) (a0 : Nat) (x1 : Int32) (x2 : Int32) (x3 : Int32) : Option (Int32) := (ah_gr M a0 10 0).bind fun v1 => (ah_gi M v1 2 0).bind fun v2 => if v2 ≤ x3 then (some x2) else ((ah_gr M a0 10 0).bind fun v4 => (fX2_hasTrade M v4 x3 x1).bind fun v5 => if v5 = 0 then (fX10_lacks_44 k15 M a0 x1 (x2 ||| ((1 : Int32) <<< (x3 &&& 31))) x3) else (fX10_lacks_44 k15 M a0 x1 x2 x3))
def fX10_lacks_15   (M : ah_h) : Nat → Nat → Int32 → Int32 → Int32 → Option (Int32)
  | 0 => fun _ _ _ _ => none
  | n + 1 => fun a0 x1 x2 x3 => fX10_lacks_15_b   (fX10_lacks_15   M n) M a0 x1 x2 x3
set_option maxRecDepth 100000 in
set_option maxHeartbeats 4000000 in
theorem wX10_lacks_15_b {p : Program} {l : Launch} {e : Env} {s : State} {m : MethodId} {args : Array Value} {below : List Frame} {meth : Method} {c : Code} {D : va_G} {ca : Nat → ClassId} {H0 : Heap} {M : ah_h} {z : Nat} (K : ah_K p s m args meth c D ca "ShipsThatMeet" cX10_lacks 4 (some .int))   (k15 : Nat → Int32 → Int32 → Int32 → Option (Int32)) (hk15 : ∀ (a0 : Nat) (x1 : Int32) (x2 : Int32) (x3 : Int32)  (H : Heap) (locs : List Loc) (ls : Array Slot), ah_g H0 D ca M z H → ah_L H0 locs → lv_has ls 4 [(0, .ref a0), (1, .int x1), (2, .int x2), (3, .int x3)] → ∀ Z, k15 a0 x1 x2 x3 = some Z → W p l e { frames := 1, cells := 0, slots := 0, locals := 23 } s m args below meth c H locs 0 0 (ah_Q below args s H0 D ca 0 0 (some (.int Z)) M z) (F0 m 15 ls [])) : ∀ (a0 : Nat) (x1 : Int32) (x2 : Int32) (x3 : Int32)  (H : Heap) (locs : List Loc) (ls : Array Slot), ah_g H0 D ca M z H → ah_L H0 locs → lv_has ls 4 [(0, .ref a0), (1, .int x1), (2, .int x2), (3, .int x3)] → ∀ Z, fX10_lacks_15_b   k15 M a0 x1 x2 x3 = some Z → W p l e { frames := 1, cells := 0, slots := 0, locals := 23 } s m args below meth c H locs 0 0 (ah_Q below args s H0 D ca 0 0 (some (.int Z)) M z) (F0 m 15 ls []) := by
  intro a0 x1 x2 x3 H locs ls hG hL hl Z hf
  unfold fX10_lacks_15_b at hf
  refine lv_iload_n K.1 K.2.1 dX10_lacks_15 rfl (lv_at hl 3 rfl) ?_
  refine lv_aload_n K.1 K.2.1 dX10_lacks_16 rfl (lv_at hl 0 rfl) ?_
  obtain ⟨v1, ev1, hf⟩ := Option.bind_eq_some_iff.mp hf
  refine ah_getr K hG ev1 ffX10_10_10 dX10_lacks_17 ?_
  obtain ⟨v2, ev2, hf⟩ := Option.bind_eq_some_iff.mp hf
  refine ah_geti K hG ev2 ffX10_188_2 dX10_lacks_20 ?_
  refine lv_icmp_ge (tgt := 50) K.1 K.2.1 dX10_lacks_23 (by decide) (fun h3 => ?_) (fun h3 => ?_)
  · rw [if_pos h3] at hf
    refine lv_iload_n K.1 K.2.1 dX10_lacks_50 rfl (lv_at hl 2 rfl) ?_
    have hf := Option.some.inj hf
    subst hf
    exact ah_iret K hG hL (Nat.le_refl _) (Nat.le_refl _) dX10_lacks_51
  · rw [if_neg h3] at hf
    refine lv_aload_n K.1 K.2.1 dX10_lacks_26 rfl (lv_at hl 0 rfl) ?_
    obtain ⟨v4, ev4, hf⟩ := Option.bind_eq_some_iff.mp hf
    refine ah_getr K hG ev4 ffX10_10_10 dX10_lacks_27 ?_
    refine lv_iload_n K.1 K.2.1 dX10_lacks_30 rfl (lv_at hl 3 rfl) ?_
    refine lv_iload_n K.1 K.2.1 dX10_lacks_31 rfl (lv_at hl 1 rfl) ?_
    obtain ⟨v5, ev5, hf⟩ := Option.bind_eq_some_iff.mp hf
    obtain ⟨q6, eq6⟩ := ah_this ev5
    refine ah_callV (As := [.int x3, .int x1]) (rest := []) K hG hL hl.1 eq6 rfl (ctX2_hasTrade l H0 D ca M z v4 x3 x1 v5 ev5) hdX2_hasTrade q_597 q_598 q_51 q_600 q_599 ⟨Nat.le_of_ble_eq_true rfl, Nat.le_of_ble_eq_true rfl⟩ rfl rfl (Nat.le_of_ble_eq_true rfl) ⟨Nat.le_refl _, Nat.le_refl _⟩ dX10_lacks_32 (fun H locs hG hL => ?_)
    refine lv_if_ne (tgt := 44) K.1 K.2.1 dX10_lacks_35 (by decide) (fun h7 => ?_) (fun h7 => ?_)
    · rw [if_neg h7] at hf
      exact wX10_lacks_44 K k15 hk15 a0 x1 x2 x3 _ _ _ hG hL (lv_sub hl [0, 1, 2, 3] rfl) _ hf
    · rw [if_pos h7] at hf
      refine lv_iload_n K.1 K.2.1 dX10_lacks_38 rfl (lv_at hl 2 rfl) ?_
      refine lv_iconst (v := 1) K.1 K.2.1 dX10_lacks_39 (by decide) ?_
      refine lv_iload_n K.1 K.2.1 dX10_lacks_40 rfl (lv_at hl 3 rfl) ?_
      refine lv_ishl K.1 K.2.1 dX10_lacks_41 ?_
      refine lv_ior K.1 K.2.1 dX10_lacks_42 ?_
      refine lv_istore_n (lv' := [(2, .int (x2 ||| ((1 : Int32) <<< (x3 &&& 31)))), (0, .ref a0), (1, .int x1), (3, .int x3)]) K.1 K.2.1 dX10_lacks_43 rfl hl (by decide) rfl (fun ls hl => ?_)
      exact wX10_lacks_44 K k15 hk15 a0 x1 (x2 ||| ((1 : Int32) <<< (x3 &&& 31))) x3 _ _ _ hG hL (lv_sub hl [1, 2, 0, 3] rfl) _ hf
theorem wX10_lacks_15 {p : Program} {l : Launch} {e : Env} {s : State} {m : MethodId} {args : Array Value} {below : List Frame} {meth : Method} {c : Code} {D : va_G} {ca : Nat → ClassId} {H0 : Heap} {M : ah_h} {z : Nat} (K : ah_K p s m args meth c D ca "ShipsThatMeet" cX10_lacks 4 (some .int))   (n : Nat) : ∀ (a0 : Nat) (x1 : Int32) (x2 : Int32) (x3 : Int32)  (H : Heap) (locs : List Loc) (ls : Array Slot), ah_g H0 D ca M z H → ah_L H0 locs → lv_has ls 4 [(0, .ref a0), (1, .int x1), (2, .int x2), (3, .int x3)] → ∀ Z, fX10_lacks_15   M n a0 x1 x2 x3 = some Z → W p l e { frames := 1, cells := 0, slots := 0, locals := 23 } s m args below meth c H locs 0 0 (ah_Q below args s H0 D ca 0 0 (some (.int Z)) M z) (F0 m 15 ls []) := by
  induction n with
  | zero => intro a0 x1 x2 x3 H locs ls hG hL hl Z hf; cases hf
  | succ n ih => exact wX10_lacks_15_b K  _ ih
def fX10_lacks (M : ah_h) (a0 : Nat) (x1 : Int32) : Option (Int32) := (ah_ob M a0 10).bind fun _ => if x1 < 0 then (some (-1)) else (if x1 < 4 then (fX10_lacks_15 M ah_fu a0 x1 0 0) else (some (-1)))
set_option maxRecDepth 100000 in
set_option maxHeartbeats 4000000 in
theorem ctX10_lacks (l : Launch) (H0 : Heap) (D : va_G) (ca : Nat → ClassId) (M : ah_h) (z : Nat) (a0 : Nat) (x1 : Int32) (Z : Int32) (hf : fX10_lacks M a0 x1 = some Z) : ah_ct l H0 D ca yX10_lacks cX10_lacks 4 (some .int) 1 23 0 0 [.ref a0, .int x1] M z (some (.int Z)) M z := by
  refine ah_of (by decide) (Nat.le_of_ble_eq_true rfl) ?_
  intro p e s m below meth c ls hin K hG hl
  have hL : ah_L H0 [] := ah_L.nil
  have hl : lv_has ls 4 [(0, .ref a0), (1, .int x1)] := hl
  unfold fX10_lacks at hf
  obtain ⟨-, -, hf⟩ := Option.bind_eq_some_iff.mp hf
  refine lv_iload_n K.1 K.2.1 dX10_lacks_0 rfl (lv_at hl 1 rfl) ?_
  refine lv_if_lt (tgt := 9) K.1 K.2.1 dX10_lacks_1 (by decide) (fun h1 => ?_) (fun h1 => ?_)
  · rw [if_pos h1] at hf
    refine lv_iconst (v := (-1)) K.1 K.2.1 dX10_lacks_9 (by decide) ?_
    have hf := Option.some.inj hf
    subst hf
    exact ah_iret K hG hL (Nat.le_refl _) (Nat.le_refl _) dX10_lacks_10
  · rw [if_neg h1] at hf
    refine lv_iload_n K.1 K.2.1 dX10_lacks_4 rfl (lv_at hl 1 rfl) ?_
    refine lv_iconst (v := 4) K.1 K.2.1 dX10_lacks_5 (by decide) ?_
    refine lv_icmp_lt (tgt := 11) K.1 K.2.1 dX10_lacks_6 (by decide) (fun h2 => ?_) (fun h2 => ?_)
    · rw [if_pos h2] at hf
      refine lv_iconst (v := 0) K.1 K.2.1 dX10_lacks_11 (by decide) ?_
      refine lv_istore_n (lv' := [(2, .int 0), (0, .ref a0), (1, .int x1)]) K.1 K.2.1 dX10_lacks_12 rfl hl (by decide) rfl (fun ls hl => ?_)
      refine lv_iconst (v := 0) K.1 K.2.1 dX10_lacks_13 (by decide) ?_
      refine lv_istore_n (lv' := [(3, .int 0), (2, .int 0), (0, .ref a0), (1, .int x1)]) K.1 K.2.1 dX10_lacks_14 rfl hl (by decide) rfl (fun ls hl => ?_)
      exact wX10_lacks_15 K  ah_fu a0 x1 0 0 _ _ _ hG hL (lv_sub hl [2, 3, 1, 0] rfl) _ hf
    · rw [if_neg h2] at hf
      refine lv_iconst (v := (-1)) K.1 K.2.1 dX10_lacks_9 (by decide) ?_
      have hf := Option.some.inj hf
      subst hf
      exact ah_iret K hG hL (Nat.le_refl _) (Nat.le_refl _) dX10_lacks_10
def fX10_image (M : ah_h) (a0 : Nat) : Option (Int32 × ah_h) := (ah_ob M a0 10).bind fun _ => (ah_gr M a0 10 2).bind fun v1 => (ah_gr M a0 10 0).bind fun v2 => (fX2_become M v1 v2).bind fun v3 => (ah_pf v3 a0 10 3 (.int 1)).bind fun M5 => (ah_gr M5 a0 10 0).bind fun v6 => (ah_gi M5 v6 2 2).bind fun v7 => some (v7, M5)
set_option maxRecDepth 100000 in
set_option maxHeartbeats 4000000 in
theorem ctX10_image (l : Launch) (H0 : Heap) (D : va_G) (ca : Nat → ClassId) (M : ah_h) (z : Nat) (a0 : Nat) (Z : Int32 × ah_h) (hf : fX10_image M a0 = some Z) : ah_ct l H0 D ca yX10_image cX10_image 1 (some .int) 1 22 0 0 [.ref a0] M z (some (.int Z.1)) Z.2 z := by
  refine ah_of (by decide) (Nat.le_of_ble_eq_true rfl) ?_
  intro p e s m below meth c ls hin K hG hl
  have hL : ah_L H0 [] := ah_L.nil
  have hl : lv_has ls 1 [(0, .ref a0)] := hl
  unfold fX10_image at hf
  obtain ⟨-, -, hf⟩ := Option.bind_eq_some_iff.mp hf
  refine lv_aload_n K.1 K.2.1 dX10_image_0 rfl (lv_at hl 0 rfl) ?_
  obtain ⟨v1, ev1, hf⟩ := Option.bind_eq_some_iff.mp hf
  refine ah_getr K hG ev1 ffX10_19_10 dX10_image_1 ?_
  refine lv_aload_n K.1 K.2.1 dX10_image_4 rfl (lv_at hl 0 rfl) ?_
  obtain ⟨v2, ev2, hf⟩ := Option.bind_eq_some_iff.mp hf
  refine ah_getr K hG ev2 ffX10_10_10 dX10_image_5 ?_
  obtain ⟨v3, ev3, hf⟩ := Option.bind_eq_some_iff.mp hf
  obtain ⟨q4, eq4⟩ := ah_this ev3
  refine ah_callV (As := [.ref v2]) (rest := []) K hG hL hl.1 eq4 rfl (ctX2_become l H0 D ca M z v1 v2 v3 ev3) hdX2_become q_243 q_244 q_51 q_246 q_245 ⟨Nat.le_of_ble_eq_true rfl, Nat.le_of_ble_eq_true rfl⟩ rfl rfl (Nat.le_of_ble_eq_true rfl) ⟨Nat.le_refl _, Nat.le_refl _⟩ dX10_image_8 (fun H locs hG hL => ?_)
  refine lv_aload_n K.1 K.2.1 dX10_image_11 rfl (lv_at hl 0 rfl) ?_
  refine lv_iconst (v := 1) K.1 K.2.1 dX10_image_12 (by decide) ?_
  obtain ⟨M5, eM5, hf⟩ := Option.bind_eq_some_iff.mp hf
  refine ah_put K hG hL eM5 fwX10_22_10 rfl rfl dX10_image_13 (fun H locs hG hL => ?_)
  refine lv_aload_n K.1 K.2.1 dX10_image_16 rfl (lv_at hl 0 rfl) ?_
  obtain ⟨v6, ev6, hf⟩ := Option.bind_eq_some_iff.mp hf
  refine ah_getr K hG ev6 ffX10_10_10 dX10_image_17 ?_
  obtain ⟨v7, ev7, hf⟩ := Option.bind_eq_some_iff.mp hf
  refine ah_geti K hG ev7 ffX10_230_2 dX10_image_20 ?_
  have hf := Option.some.inj hf
  subst hf
  exact ah_iret K hG hL (Nat.le_refl _) (Nat.le_refl _) dX10_image_23
def fX10_restore (M : ah_h) (a0 : Nat) : Option (Int32 × ah_h) := (ah_ob M a0 10).bind fun _ => (ah_gi M a0 10 3).bind fun v1 => if v1 = 0 then (some ((-3), M)) else ((ah_gr M a0 10 0).bind fun v3 => (ah_gr M a0 10 2).bind fun v4 => (fX2_become M v3 v4).bind fun v5 => (ah_gr v5 a0 10 0).bind fun v7 => (ah_gi v5 v7 2 2).bind fun v8 => some (v8, v5))
set_option maxRecDepth 100000 in
set_option maxHeartbeats 4000000 in
theorem ctX10_restore (l : Launch) (H0 : Heap) (D : va_G) (ca : Nat → ClassId) (M : ah_h) (z : Nat) (a0 : Nat) (Z : Int32 × ah_h) (hf : fX10_restore M a0 = some Z) : ah_ct l H0 D ca yX10_restore cX10_restore 1 (some .int) 1 22 0 0 [.ref a0] M z (some (.int Z.1)) Z.2 z := by
  refine ah_of (by decide) (Nat.le_of_ble_eq_true rfl) ?_
  intro p e s m below meth c ls hin K hG hl
  have hL : ah_L H0 [] := ah_L.nil
  have hl : lv_has ls 1 [(0, .ref a0)] := hl
  unfold fX10_restore at hf
  obtain ⟨-, -, hf⟩ := Option.bind_eq_some_iff.mp hf
  refine lv_aload_n K.1 K.2.1 dX10_restore_0 rfl (lv_at hl 0 rfl) ?_
  obtain ⟨v1, ev1, hf⟩ := Option.bind_eq_some_iff.mp hf
  refine ah_geti K hG ev1 ffX10_22_10 dX10_restore_1 ?_
  refine lv_if_ne (tgt := 10) K.1 K.2.1 dX10_restore_4 (by decide) (fun h2 => ?_) (fun h2 => ?_)
  · rw [if_neg h2] at hf
    refine lv_aload_n K.1 K.2.1 dX10_restore_10 rfl (lv_at hl 0 rfl) ?_
    obtain ⟨v3, ev3, hf⟩ := Option.bind_eq_some_iff.mp hf
    refine ah_getr K hG ev3 ffX10_10_10 dX10_restore_11 ?_
    refine lv_aload_n K.1 K.2.1 dX10_restore_14 rfl (lv_at hl 0 rfl) ?_
    obtain ⟨v4, ev4, hf⟩ := Option.bind_eq_some_iff.mp hf
    refine ah_getr K hG ev4 ffX10_19_10 dX10_restore_15 ?_
    obtain ⟨v5, ev5, hf⟩ := Option.bind_eq_some_iff.mp hf
    obtain ⟨q6, eq6⟩ := ah_this ev5
    refine ah_callV (As := [.ref v4]) (rest := []) K hG hL hl.1 eq6 rfl (ctX2_become l H0 D ca M z v3 v4 v5 ev5) hdX2_become q_243 q_244 q_51 q_246 q_245 ⟨Nat.le_of_ble_eq_true rfl, Nat.le_of_ble_eq_true rfl⟩ rfl rfl (Nat.le_of_ble_eq_true rfl) ⟨Nat.le_refl _, Nat.le_refl _⟩ dX10_restore_18 (fun H locs hG hL => ?_)
    refine lv_aload_n K.1 K.2.1 dX10_restore_21 rfl (lv_at hl 0 rfl) ?_
    obtain ⟨v7, ev7, hf⟩ := Option.bind_eq_some_iff.mp hf
    refine ah_getr K hG ev7 ffX10_10_10 dX10_restore_22 ?_
    obtain ⟨v8, ev8, hf⟩ := Option.bind_eq_some_iff.mp hf
    refine ah_geti K hG ev8 ffX10_230_2 dX10_restore_25 ?_
    have hf := Option.some.inj hf
    subst hf
    exact ah_iret K hG hL (Nat.le_refl _) (Nat.le_refl _) dX10_restore_28
  · rw [if_pos h2] at hf
    refine lv_bipush (v := (-3)) K.1 K.2.1 dX10_restore_7 (by decide) ?_
    have hf := Option.some.inj hf
    subst hf
    exact ah_iret K hG hL (Nat.le_refl _) (Nat.le_refl _) dX10_restore_9
def fX10_isShelf (M : ah_h) (x0 : Int32) : Option (Int32) := if x0 < 0 then (some 0) else (if 8 ≤ x0 then (some 0) else (some 1))
set_option maxRecDepth 100000 in
set_option maxHeartbeats 4000000 in
theorem ctX10_isShelf (l : Launch) (H0 : Heap) (D : va_G) (ca : Nat → ClassId) (M : ah_h) (z : Nat) (x0 : Int32) (Z : Int32) (hf : fX10_isShelf M x0 = some Z) : ah_ct l H0 D ca yX10_isShelf cX10_isShelf 1 (some .boolean) 0 0 0 0 [.int x0] M z (some (.int Z)) M z := by
  refine ah_of (by decide) (Nat.le_of_ble_eq_true rfl) ?_
  intro p e s m below meth c ls hin K hG hl
  have hL : ah_L H0 [] := ah_L.nil
  have hl : lv_has ls 1 [(0, .int x0)] := hl
  unfold fX10_isShelf at hf
  refine lv_iload_n K.1 K.2.1 dX10_isShelf_0 rfl (lv_at hl 0 rfl) ?_
  refine lv_if_lt (tgt := 14) K.1 K.2.1 dX10_isShelf_1 (by decide) (fun h1 => ?_) (fun h1 => ?_)
  · rw [if_pos h1] at hf
    refine lv_iconst (v := 0) K.1 K.2.1 dX10_isShelf_14 (by decide) ?_
    have hf := Option.some.inj hf
    subst hf
    exact ah_zret K hG hL (Or.inl rfl) (Nat.le_refl _) (Nat.le_refl _) dX10_isShelf_15
  · rw [if_neg h1] at hf
    refine lv_iload_n K.1 K.2.1 dX10_isShelf_4 rfl (lv_at hl 0 rfl) ?_
    refine lv_bipush (v := 8) K.1 K.2.1 dX10_isShelf_5 (by decide) ?_
    refine lv_icmp_ge (tgt := 14) K.1 K.2.1 dX10_isShelf_7 (by decide) (fun h2 => ?_) (fun h2 => ?_)
    · rw [if_pos h2] at hf
      refine lv_iconst (v := 0) K.1 K.2.1 dX10_isShelf_14 (by decide) ?_
      have hf := Option.some.inj hf
      subst hf
      exact ah_zret K hG hL (Or.inl rfl) (Nat.le_refl _) (Nat.le_refl _) dX10_isShelf_15
    · rw [if_neg h2] at hf
      refine lv_iconst (v := 1) K.1 K.2.1 dX10_isShelf_10 (by decide) ?_
      refine lv_goto (tgt := 15) K.1 K.2.1 dX10_isShelf_11 (by decide) ?_
      have hf := Option.some.inj hf
      subst hf
      exact ah_zret K hG hL (Or.inr rfl) (Nat.le_refl _) (Nat.le_refl _) dX10_isShelf_15
def fX10_isKindAndFigure (M : ah_h) (x0 : Int32) (x1 : Int32) : Option (Int32) := if x0 < 0 then (some 0) else (if 8 ≤ x0 then (some 0) else (if x1 < 0 then (some 0) else (if 10 ≤ x1 then (some 0) else (some 1))))
set_option maxRecDepth 100000 in
set_option maxHeartbeats 4000000 in
theorem ctX10_isKindAndFigure (l : Launch) (H0 : Heap) (D : va_G) (ca : Nat → ClassId) (M : ah_h) (z : Nat) (x0 : Int32) (x1 : Int32) (Z : Int32) (hf : fX10_isKindAndFigure M x0 x1 = some Z) : ah_ct l H0 D ca yX10_isKindAndFigure cX10_isKindAndFigure 2 (some .boolean) 0 0 0 0 [.int x0, .int x1] M z (some (.int Z)) M z := by
  refine ah_of (by decide) (Nat.le_of_ble_eq_true rfl) ?_
  intro p e s m below meth c ls hin K hG hl
  have hL : ah_L H0 [] := ah_L.nil
  have hl : lv_has ls 2 [(0, .int x0), (1, .int x1)] := hl
  unfold fX10_isKindAndFigure at hf
  refine lv_iload_n K.1 K.2.1 dX10_isKindAndFigure_0 rfl (lv_at hl 0 rfl) ?_
  refine lv_if_lt (tgt := 24) K.1 K.2.1 dX10_isKindAndFigure_1 (by decide) (fun h1 => ?_) (fun h1 => ?_)
  · rw [if_pos h1] at hf
    refine lv_iconst (v := 0) K.1 K.2.1 dX10_isKindAndFigure_24 (by decide) ?_
    have hf := Option.some.inj hf
    subst hf
    exact ah_zret K hG hL (Or.inl rfl) (Nat.le_refl _) (Nat.le_refl _) dX10_isKindAndFigure_25
  · rw [if_neg h1] at hf
    refine lv_iload_n K.1 K.2.1 dX10_isKindAndFigure_4 rfl (lv_at hl 0 rfl) ?_
    refine lv_bipush (v := 8) K.1 K.2.1 dX10_isKindAndFigure_5 (by decide) ?_
    refine lv_icmp_ge (tgt := 24) K.1 K.2.1 dX10_isKindAndFigure_7 (by decide) (fun h2 => ?_) (fun h2 => ?_)
    · rw [if_pos h2] at hf
      refine lv_iconst (v := 0) K.1 K.2.1 dX10_isKindAndFigure_24 (by decide) ?_
      have hf := Option.some.inj hf
      subst hf
      exact ah_zret K hG hL (Or.inl rfl) (Nat.le_refl _) (Nat.le_refl _) dX10_isKindAndFigure_25
    · rw [if_neg h2] at hf
      refine lv_iload_n K.1 K.2.1 dX10_isKindAndFigure_10 rfl (lv_at hl 1 rfl) ?_
      refine lv_if_lt (tgt := 24) K.1 K.2.1 dX10_isKindAndFigure_11 (by decide) (fun h3 => ?_) (fun h3 => ?_)
      · rw [if_pos h3] at hf
        refine lv_iconst (v := 0) K.1 K.2.1 dX10_isKindAndFigure_24 (by decide) ?_
        have hf := Option.some.inj hf
        subst hf
        exact ah_zret K hG hL (Or.inl rfl) (Nat.le_refl _) (Nat.le_refl _) dX10_isKindAndFigure_25
      · rw [if_neg h3] at hf
        refine lv_iload_n K.1 K.2.1 dX10_isKindAndFigure_14 rfl (lv_at hl 1 rfl) ?_
        refine lv_bipush (v := 10) K.1 K.2.1 dX10_isKindAndFigure_15 (by decide) ?_
        refine lv_icmp_ge (tgt := 24) K.1 K.2.1 dX10_isKindAndFigure_17 (by decide) (fun h4 => ?_) (fun h4 => ?_)
        · rw [if_pos h4] at hf
          refine lv_iconst (v := 0) K.1 K.2.1 dX10_isKindAndFigure_24 (by decide) ?_
          have hf := Option.some.inj hf
          subst hf
          exact ah_zret K hG hL (Or.inl rfl) (Nat.le_refl _) (Nat.le_refl _) dX10_isKindAndFigure_25
        · rw [if_neg h4] at hf
          refine lv_iconst (v := 1) K.1 K.2.1 dX10_isKindAndFigure_20 (by decide) ?_
          refine lv_goto (tgt := 25) K.1 K.2.1 dX10_isKindAndFigure_21 (by decide) ?_
          have hf := Option.some.inj hf
          subst hf
          exact ah_zret K hG hL (Or.inr rfl) (Nat.le_refl _) (Nat.le_refl _) dX10_isKindAndFigure_25
def fX10_refusalOfCaptain (M : ah_h) (a0 : Nat) (x1 : Int32) : Option (Int32) := (ah_ob M a0 10).bind fun _ => (fX10_isShelf M x1).bind fun v1 => if v1 = 0 then (some (-1)) else ((ah_gr M a0 10 4).bind fun v3 => (ah_ar M v3 3 x1).bind fun v4 => (fX7_holdsNothing M v4).bind fun v5 => if v5 = 0 then ((ah_gr M a0 10 4).bind fun v8 => (ah_ar M v8 3 x1).bind fun v9 => (ah_gq M v9 7 0).bind fun v10 => if v10 = none then (some (-12)) else (some 0)) else (some (-11)))
set_option maxRecDepth 100000 in
set_option maxHeartbeats 4000000 in
theorem ctX10_refusalOfCaptain (l : Launch) (H0 : Heap) (D : va_G) (ca : Nat → ClassId) (M : ah_h) (z : Nat) (a0 : Nat) (x1 : Int32) (Z : Int32) (hf : fX10_refusalOfCaptain M a0 x1 = some Z) : ah_ct l H0 D ca yX10_refusalOfCaptain cX10_refusalOfCaptain 2 (some .int) 1 20 0 0 [.ref a0, .int x1] M z (some (.int Z)) M z := by
  refine ah_of (by decide) (Nat.le_of_ble_eq_true rfl) ?_
  intro p e s m below meth c ls hin K hG hl
  have hL : ah_L H0 [] := ah_L.nil
  have hl : lv_has ls 2 [(0, .ref a0), (1, .int x1)] := hl
  unfold fX10_refusalOfCaptain at hf
  obtain ⟨-, -, hf⟩ := Option.bind_eq_some_iff.mp hf
  refine lv_iload_n K.1 K.2.1 dX10_refusalOfCaptain_0 rfl (lv_at hl 1 rfl) ?_
  obtain ⟨v1, ev1, hf⟩ := Option.bind_eq_some_iff.mp hf
  refine ah_callS (As := [.int x1]) (rest := []) K hG hL hl.1 (ctX10_isShelf l H0 D ca M z x1 v1 ev1) hdX10_isShelf q_218 q_219 q_50 q_220 ⟨Nat.le_of_ble_eq_true rfl, Nat.le_of_ble_eq_true rfl⟩ rfl rfl (Nat.le_of_ble_eq_true rfl) ⟨Nat.le_refl _, Nat.le_refl _⟩ dX10_refusalOfCaptain_1 (fun H locs hG hL => ?_)
  refine lv_if_ne (tgt := 9) K.1 K.2.1 dX10_refusalOfCaptain_4 (by decide) (fun h2 => ?_) (fun h2 => ?_)
  · rw [if_neg h2] at hf
    refine lv_aload_n K.1 K.2.1 dX10_refusalOfCaptain_9 rfl (lv_at hl 0 rfl) ?_
    obtain ⟨v3, ev3, hf⟩ := Option.bind_eq_some_iff.mp hf
    refine ah_getr K hG ev3 ffX10_28_10 dX10_refusalOfCaptain_10 ?_
    refine lv_iload_n K.1 K.2.1 dX10_refusalOfCaptain_13 rfl (lv_at hl 1 rfl) ?_
    obtain ⟨v4, ev4, hf⟩ := Option.bind_eq_some_iff.mp hf
    refine ah_aald (t := 3) K hG ev4 rfl rfl dX10_refusalOfCaptain_14 ?_
    obtain ⟨v5, ev5, hf⟩ := Option.bind_eq_some_iff.mp hf
    obtain ⟨q6, eq6⟩ := ah_this ev5
    refine ah_callV (As := []) (rest := []) K hG hL hl.1 eq6 rfl (ctX7_holdsNothing l H0 D ca M z v4 v5 ev5) hdX7_holdsNothing q_221 q_222 q_53 q_224 q_223 ⟨Nat.le_of_ble_eq_true rfl, Nat.le_of_ble_eq_true rfl⟩ rfl rfl (Nat.le_of_ble_eq_true rfl) ⟨Nat.le_refl _, Nat.le_refl _⟩ dX10_refusalOfCaptain_15 (fun H locs hG hL => ?_)
    refine lv_if_eq (tgt := 24) K.1 K.2.1 dX10_refusalOfCaptain_18 (by decide) (fun h7 => ?_) (fun h7 => ?_)
    · rw [if_pos h7] at hf
      refine lv_aload_n K.1 K.2.1 dX10_refusalOfCaptain_24 rfl (lv_at hl 0 rfl) ?_
      obtain ⟨v8, ev8, hf⟩ := Option.bind_eq_some_iff.mp hf
      refine ah_getr K hG ev8 ffX10_28_10 dX10_refusalOfCaptain_25 ?_
      refine lv_iload_n K.1 K.2.1 dX10_refusalOfCaptain_28 rfl (lv_at hl 1 rfl) ?_
      obtain ⟨v9, ev9, hf⟩ := Option.bind_eq_some_iff.mp hf
      refine ah_aald (t := 3) K hG ev9 rfl rfl dX10_refusalOfCaptain_29 ?_
      obtain ⟨v10, ev10, hf⟩ := Option.bind_eq_some_iff.mp hf
      refine ah_getq K hG ev10 ffX10_117_7 dX10_refusalOfCaptain_30 ?_
      rcases eo11 : v10 with _ | o11
      · rw [if_pos eo11] at hf
        rw [show va_rf none = .null from rfl]
        refine lv_ifnonnullN K.1 K.2.1 dX10_refusalOfCaptain_33 ?_
        refine lv_bipush (v := (-12)) K.1 K.2.1 dX10_refusalOfCaptain_36 (by decide) ?_
        refine lv_goto (tgt := 42) K.1 K.2.1 dX10_refusalOfCaptain_38 (by decide) ?_
        have hf := Option.some.inj hf
        subst hf
        exact ah_iret K hG hL (Nat.le_refl _) (Nat.le_refl _) dX10_refusalOfCaptain_42
      · rw [if_neg (by rw [eo11]; exact fun h => by cases h)] at hf
        rw [show va_rf (some o11) = .ref o11 from rfl]
        refine lv_ifnonnull (tgt := 41) K.1 K.2.1 dX10_refusalOfCaptain_33 (by decide) ?_
        refine lv_iconst (v := 0) K.1 K.2.1 dX10_refusalOfCaptain_41 (by decide) ?_
        have hf := Option.some.inj hf
        subst hf
        exact ah_iret K hG hL (Nat.le_refl _) (Nat.le_refl _) dX10_refusalOfCaptain_42
    · rw [if_neg h7] at hf
      refine lv_bipush (v := (-11)) K.1 K.2.1 dX10_refusalOfCaptain_21 (by decide) ?_
      have hf := Option.some.inj hf
      subst hf
      exact ah_iret K hG hL (Nat.le_refl _) (Nat.le_refl _) dX10_refusalOfCaptain_23
  · rw [if_pos h2] at hf
    refine lv_iconst (v := (-1)) K.1 K.2.1 dX10_refusalOfCaptain_7 (by decide) ?_
    have hf := Option.some.inj hf
    subst hf
    exact ah_iret K hG hL (Nat.le_refl _) (Nat.le_refl _) dX10_refusalOfCaptain_8
def fX10_refusalOfRow (M : ah_h) (a0 : Nat) (x1 : Int32) : Option (Int32) := (ah_ob M a0 10).bind fun _ => (fX10_isShelf M x1).bind fun v1 => if v1 = 0 then (some (-1)) else ((ah_gr M a0 10 4).bind fun v3 => (ah_ar M v3 3 x1).bind fun v4 => (fX7_holdsNothing M v4).bind fun v5 => if v5 = 0 then ((ah_gr M a0 10 4).bind fun v8 => (ah_ar M v8 3 x1).bind fun v9 => (fX7_holdsRow M v9).bind fun v10 => if v10 = 0 then (some (-12)) else (some 0)) else (some (-11)))
set_option maxRecDepth 100000 in
set_option maxHeartbeats 4000000 in
theorem ctX10_refusalOfRow (l : Launch) (H0 : Heap) (D : va_G) (ca : Nat → ClassId) (M : ah_h) (z : Nat) (a0 : Nat) (x1 : Int32) (Z : Int32) (hf : fX10_refusalOfRow M a0 x1 = some Z) : ah_ct l H0 D ca yX10_refusalOfRow cX10_refusalOfRow 2 (some .int) 1 20 0 0 [.ref a0, .int x1] M z (some (.int Z)) M z := by
  refine ah_of (by decide) (Nat.le_of_ble_eq_true rfl) ?_
  intro p e s m below meth c ls hin K hG hl
  have hL : ah_L H0 [] := ah_L.nil
  have hl : lv_has ls 2 [(0, .ref a0), (1, .int x1)] := hl
  unfold fX10_refusalOfRow at hf
  obtain ⟨-, -, hf⟩ := Option.bind_eq_some_iff.mp hf
  refine lv_iload_n K.1 K.2.1 dX10_refusalOfRow_0 rfl (lv_at hl 1 rfl) ?_
  obtain ⟨v1, ev1, hf⟩ := Option.bind_eq_some_iff.mp hf
  refine ah_callS (As := [.int x1]) (rest := []) K hG hL hl.1 (ctX10_isShelf l H0 D ca M z x1 v1 ev1) hdX10_isShelf q_218 q_219 q_50 q_220 ⟨Nat.le_of_ble_eq_true rfl, Nat.le_of_ble_eq_true rfl⟩ rfl rfl (Nat.le_of_ble_eq_true rfl) ⟨Nat.le_refl _, Nat.le_refl _⟩ dX10_refusalOfRow_1 (fun H locs hG hL => ?_)
  refine lv_if_ne (tgt := 9) K.1 K.2.1 dX10_refusalOfRow_4 (by decide) (fun h2 => ?_) (fun h2 => ?_)
  · rw [if_neg h2] at hf
    refine lv_aload_n K.1 K.2.1 dX10_refusalOfRow_9 rfl (lv_at hl 0 rfl) ?_
    obtain ⟨v3, ev3, hf⟩ := Option.bind_eq_some_iff.mp hf
    refine ah_getr K hG ev3 ffX10_28_10 dX10_refusalOfRow_10 ?_
    refine lv_iload_n K.1 K.2.1 dX10_refusalOfRow_13 rfl (lv_at hl 1 rfl) ?_
    obtain ⟨v4, ev4, hf⟩ := Option.bind_eq_some_iff.mp hf
    refine ah_aald (t := 3) K hG ev4 rfl rfl dX10_refusalOfRow_14 ?_
    obtain ⟨v5, ev5, hf⟩ := Option.bind_eq_some_iff.mp hf
    obtain ⟨q6, eq6⟩ := ah_this ev5
    refine ah_callV (As := []) (rest := []) K hG hL hl.1 eq6 rfl (ctX7_holdsNothing l H0 D ca M z v4 v5 ev5) hdX7_holdsNothing q_221 q_222 q_53 q_224 q_223 ⟨Nat.le_of_ble_eq_true rfl, Nat.le_of_ble_eq_true rfl⟩ rfl rfl (Nat.le_of_ble_eq_true rfl) ⟨Nat.le_refl _, Nat.le_refl _⟩ dX10_refusalOfRow_15 (fun H locs hG hL => ?_)
    refine lv_if_eq (tgt := 24) K.1 K.2.1 dX10_refusalOfRow_18 (by decide) (fun h7 => ?_) (fun h7 => ?_)
    · rw [if_pos h7] at hf
      refine lv_aload_n K.1 K.2.1 dX10_refusalOfRow_24 rfl (lv_at hl 0 rfl) ?_
      obtain ⟨v8, ev8, hf⟩ := Option.bind_eq_some_iff.mp hf
      refine ah_getr K hG ev8 ffX10_28_10 dX10_refusalOfRow_25 ?_
      refine lv_iload_n K.1 K.2.1 dX10_refusalOfRow_28 rfl (lv_at hl 1 rfl) ?_
      obtain ⟨v9, ev9, hf⟩ := Option.bind_eq_some_iff.mp hf
      refine ah_aald (t := 3) K hG ev9 rfl rfl dX10_refusalOfRow_29 ?_
      obtain ⟨v10, ev10, hf⟩ := Option.bind_eq_some_iff.mp hf
      obtain ⟨q11, eq11⟩ := ah_this ev10
      refine ah_callV (As := []) (rest := []) K hG hL hl.1 eq11 rfl (ctX7_holdsRow l H0 D ca M z v9 v10 ev10) hdX7_holdsRow q_225 q_226 q_53 q_228 q_227 ⟨Nat.le_of_ble_eq_true rfl, Nat.le_of_ble_eq_true rfl⟩ rfl rfl (Nat.le_of_ble_eq_true rfl) ⟨Nat.le_refl _, Nat.le_refl _⟩ dX10_refusalOfRow_30 (fun H locs hG hL => ?_)
      refine lv_if_eq (tgt := 40) K.1 K.2.1 dX10_refusalOfRow_33 (by decide) (fun h12 => ?_) (fun h12 => ?_)
      · rw [if_pos h12] at hf
        refine lv_bipush (v := (-12)) K.1 K.2.1 dX10_refusalOfRow_40 (by decide) ?_
        have hf := Option.some.inj hf
        subst hf
        exact ah_iret K hG hL (Nat.le_refl _) (Nat.le_refl _) dX10_refusalOfRow_42
      · rw [if_neg h12] at hf
        refine lv_iconst (v := 0) K.1 K.2.1 dX10_refusalOfRow_36 (by decide) ?_
        refine lv_goto (tgt := 42) K.1 K.2.1 dX10_refusalOfRow_37 (by decide) ?_
        have hf := Option.some.inj hf
        subst hf
        exact ah_iret K hG hL (Nat.le_refl _) (Nat.le_refl _) dX10_refusalOfRow_42
    · rw [if_neg h7] at hf
      refine lv_bipush (v := (-11)) K.1 K.2.1 dX10_refusalOfRow_21 (by decide) ?_
      have hf := Option.some.inj hf
      subst hf
      exact ah_iret K hG hL (Nat.le_refl _) (Nat.le_refl _) dX10_refusalOfRow_23
  · rw [if_pos h2] at hf
    refine lv_iconst (v := (-1)) K.1 K.2.1 dX10_refusalOfRow_7 (by decide) ?_
    have hf := Option.some.inj hf
    subst hf
    exact ah_iret K hG hL (Nat.le_refl _) (Nat.le_refl _) dX10_refusalOfRow_8
def fX10_refusalOfBytes (M : ah_h) (a0 : Nat) (x1 : Int32) : Option (Int32) := (ah_ob M a0 10).bind fun _ => (fX10_refusalOfRow M a0 x1).bind fun v1 => if 0 ≤ v1 then ((ah_gr M a0 10 4).bind fun v4 => (ah_ar M v4 3 x1).bind fun v5 => (ah_gi M v5 7 1).bind fun v6 => if v6 = 0 then (some 0) else (some (-12))) else (some v1)
set_option maxRecDepth 100000 in
set_option maxHeartbeats 4000000 in
theorem ctX10_refusalOfBytes (l : Launch) (H0 : Heap) (D : va_G) (ca : Nat → ClassId) (M : ah_h) (z : Nat) (a0 : Nat) (x1 : Int32) (Z : Int32) (hf : fX10_refusalOfBytes M a0 x1 = some Z) : ah_ct l H0 D ca yX10_refusalOfBytes cX10_refusalOfBytes 3 (some .int) 2 41 0 0 [.ref a0, .int x1] M z (some (.int Z)) M z := by
  refine ah_of (by decide) (Nat.le_of_ble_eq_true rfl) ?_
  intro p e s m below meth c ls hin K hG hl
  have hL : ah_L H0 [] := ah_L.nil
  have hl : lv_has ls 3 [(0, .ref a0), (1, .int x1)] := hl
  unfold fX10_refusalOfBytes at hf
  obtain ⟨-, -, hf⟩ := Option.bind_eq_some_iff.mp hf
  refine lv_aload_n K.1 K.2.1 dX10_refusalOfBytes_0 rfl (lv_at hl 0 rfl) ?_
  refine lv_iload_n K.1 K.2.1 dX10_refusalOfBytes_1 rfl (lv_at hl 1 rfl) ?_
  obtain ⟨v1, ev1, hf⟩ := Option.bind_eq_some_iff.mp hf
  obtain ⟨q2, eq2⟩ := ah_this ev1
  refine ah_callV (As := [.int x1]) (rest := []) K hG hL hl.1 eq2 rfl (ctX10_refusalOfRow l H0 D ca M z a0 x1 v1 ev1) hdX10_refusalOfRow q_214 q_216 q_50 q_217 q_1 ⟨Nat.le_of_ble_eq_true rfl, Nat.le_of_ble_eq_true rfl⟩ rfl rfl (Nat.le_of_ble_eq_true rfl) ⟨Nat.le_refl _, Nat.le_refl _⟩ dX10_refusalOfBytes_2 (fun H locs hG hL => ?_)
  refine lv_istore_n (lv' := [(2, .int v1), (0, .ref a0), (1, .int x1)]) K.1 K.2.1 dX10_refusalOfBytes_5 rfl hl (by decide) rfl (fun ls hl => ?_)
  refine lv_iload_n K.1 K.2.1 dX10_refusalOfBytes_6 rfl (lv_at hl 0 rfl) ?_
  refine lv_if_ge (tgt := 12) K.1 K.2.1 dX10_refusalOfBytes_7 (by decide) (fun h3 => ?_) (fun h3 => ?_)
  · rw [if_pos h3] at hf
    refine lv_aload_n K.1 K.2.1 dX10_refusalOfBytes_12 rfl (lv_at hl 1 rfl) ?_
    obtain ⟨v4, ev4, hf⟩ := Option.bind_eq_some_iff.mp hf
    refine ah_getr K hG ev4 ffX10_28_10 dX10_refusalOfBytes_13 ?_
    refine lv_iload_n K.1 K.2.1 dX10_refusalOfBytes_16 rfl (lv_at hl 2 rfl) ?_
    obtain ⟨v5, ev5, hf⟩ := Option.bind_eq_some_iff.mp hf
    refine ah_aald (t := 3) K hG ev5 rfl rfl dX10_refusalOfBytes_17 ?_
    obtain ⟨v6, ev6, hf⟩ := Option.bind_eq_some_iff.mp hf
    refine ah_geti K hG ev6 ffX10_275_7 dX10_refusalOfBytes_18 ?_
    refine lv_if_ne (tgt := 28) K.1 K.2.1 dX10_refusalOfBytes_21 (by decide) (fun h7 => ?_) (fun h7 => ?_)
    · rw [if_neg h7] at hf
      refine lv_bipush (v := (-12)) K.1 K.2.1 dX10_refusalOfBytes_28 (by decide) ?_
      have hf := Option.some.inj hf
      subst hf
      exact ah_iret K hG hL (Nat.le_refl _) (Nat.le_refl _) dX10_refusalOfBytes_30
    · rw [if_pos h7] at hf
      refine lv_iconst (v := 0) K.1 K.2.1 dX10_refusalOfBytes_24 (by decide) ?_
      refine lv_goto (tgt := 30) K.1 K.2.1 dX10_refusalOfBytes_25 (by decide) ?_
      have hf := Option.some.inj hf
      subst hf
      exact ah_iret K hG hL (Nat.le_refl _) (Nat.le_refl _) dX10_refusalOfBytes_30
  · rw [if_neg h3] at hf
    refine lv_iload_n K.1 K.2.1 dX10_refusalOfBytes_10 rfl (lv_at hl 0 rfl) ?_
    have hf := Option.some.inj hf
    subst hf
    exact ah_iret K hG hL (Nat.le_refl _) (Nat.le_refl _) dX10_refusalOfBytes_11
def fX10_refusalOfMeetings_43_b   (k43 : Nat → Nat → Int32 → Option (Int32)) (M : ah_h) (a0 : Nat) (a3 : Nat) (x4 : Int32) : Option (Int32) := (fX7_meetings M a3).bind fun v1 => if v1 ≤ x4 then (some 0) else ((ah_gr M a0 10 0).bind fun v4 => (fX7_one M a3 x4).bind fun v5 => (fX7_other M a3 x4).bind fun v7 => (fX2_areUnlikeShips M v4 v5 v7).bind fun v9 => if v9 = 0 then (some (-13)) else (k43 a0 a3 (x4 + 1)))
def fX10_refusalOfMeetings_43   (M : ah_h) : Nat → Nat → Nat → Int32 → Option (Int32)
  | 0 => fun _ _ _ => none
  | n + 1 => fun a0 a3 x4 => fX10_refusalOfMeetings_43_b   (fX10_refusalOfMeetings_43   M n) M a0 a3 x4
set_option maxRecDepth 100000 in
set_option maxHeartbeats 4000000 in
theorem wX10_refusalOfMeetings_43_b {p : Program} {l : Launch} {e : Env} {s : State} {m : MethodId} {args : Array Value} {below : List Frame} {meth : Method} {c : Code} {D : va_G} {ca : Nat → ClassId} {H0 : Heap} {M : ah_h} {z : Nat} (K : ah_K p s m args meth c D ca "ShipsThatMeet" cX10_refusalOfMeetings 5 (some .int))   (k43 : Nat → Nat → Int32 → Option (Int32)) (hk43 : ∀ (a0 : Nat) (a3 : Nat) (x4 : Int32)  (H : Heap) (locs : List Loc) (ls : Array Slot), ah_g H0 D ca M z H → ah_L H0 locs → lv_has ls 5 [(0, .ref a0), (3, .ref a3), (4, .int x4)] → ∀ Z, k43 a0 a3 x4 = some Z → W p l e { frames := 3, cells := 0, slots := 0, locals := 63 } s m args below meth c H locs 0 0 (ah_Q below args s H0 D ca 0 0 (some (.int Z)) M z) (F0 m 43 ls [])) : ∀ (a0 : Nat) (a3 : Nat) (x4 : Int32)  (H : Heap) (locs : List Loc) (ls : Array Slot), ah_g H0 D ca M z H → ah_L H0 locs → lv_has ls 5 [(0, .ref a0), (3, .ref a3), (4, .int x4)] → ∀ Z, fX10_refusalOfMeetings_43_b   k43 M a0 a3 x4 = some Z → W p l e { frames := 3, cells := 0, slots := 0, locals := 63 } s m args below meth c H locs 0 0 (ah_Q below args s H0 D ca 0 0 (some (.int Z)) M z) (F0 m 43 ls []) := by
  intro a0 a3 x4 H locs ls hG hL hl Z hf
  unfold fX10_refusalOfMeetings_43_b at hf
  refine lv_iload K.1 K.2.1 dX10_refusalOfMeetings_43 (lv_at hl 2 rfl) ?_
  refine lv_aload_n K.1 K.2.1 dX10_refusalOfMeetings_45 rfl (lv_at hl 1 rfl) ?_
  obtain ⟨v1, ev1, hf⟩ := Option.bind_eq_some_iff.mp hf
  obtain ⟨q2, eq2⟩ := ah_this ev1
  refine ah_callV (As := []) (rest := [.int x4]) K hG hL hl.1 eq2 rfl (ctX7_meetings l H0 D ca M z a3 v1 ev1) hdX7_meetings q_462 q_463 q_53 q_465 q_464 ⟨Nat.le_of_ble_eq_true rfl, Nat.le_of_ble_eq_true rfl⟩ rfl rfl (Nat.le_of_ble_eq_true rfl) ⟨Nat.le_refl _, Nat.le_refl _⟩ dX10_refusalOfMeetings_46 (fun H locs hG hL => ?_)
  refine lv_icmp_ge (tgt := 83) K.1 K.2.1 dX10_refusalOfMeetings_49 (by decide) (fun h3 => ?_) (fun h3 => ?_)
  · rw [if_pos h3] at hf
    refine lv_iconst (v := 0) K.1 K.2.1 dX10_refusalOfMeetings_83 (by decide) ?_
    have hf := Option.some.inj hf
    subst hf
    exact ah_iret K hG hL (Nat.le_refl _) (Nat.le_refl _) dX10_refusalOfMeetings_84
  · rw [if_neg h3] at hf
    refine lv_aload_n K.1 K.2.1 dX10_refusalOfMeetings_52 rfl (lv_at hl 0 rfl) ?_
    obtain ⟨v4, ev4, hf⟩ := Option.bind_eq_some_iff.mp hf
    refine ah_getr K hG ev4 ffX10_10_10 dX10_refusalOfMeetings_53 ?_
    refine lv_aload_n K.1 K.2.1 dX10_refusalOfMeetings_56 rfl (lv_at hl 1 rfl) ?_
    refine lv_iload K.1 K.2.1 dX10_refusalOfMeetings_57 (lv_at hl 2 rfl) ?_
    obtain ⟨v5, ev5, hf⟩ := Option.bind_eq_some_iff.mp hf
    obtain ⟨q6, eq6⟩ := ah_this ev5
    refine ah_callV (As := [.int x4]) (rest := [.ref v4]) K hG hL hl.1 eq6 rfl (ctX7_one l H0 D ca M z a3 x4 v5 ev5) hdX7_one q_466 q_467 q_53 q_469 q_468 ⟨Nat.le_of_ble_eq_true rfl, Nat.le_of_ble_eq_true rfl⟩ rfl rfl (Nat.le_of_ble_eq_true rfl) ⟨Nat.le_refl _, Nat.le_refl _⟩ dX10_refusalOfMeetings_59 (fun H locs hG hL => ?_)
    refine lv_aload_n K.1 K.2.1 dX10_refusalOfMeetings_62 rfl (lv_at hl 1 rfl) ?_
    refine lv_iload K.1 K.2.1 dX10_refusalOfMeetings_63 (lv_at hl 2 rfl) ?_
    obtain ⟨v7, ev7, hf⟩ := Option.bind_eq_some_iff.mp hf
    obtain ⟨q8, eq8⟩ := ah_this ev7
    refine ah_callV (As := [.int x4]) (rest := [.int v5, .ref v4]) K hG hL hl.1 eq8 rfl (ctX7_other l H0 D ca M z a3 x4 v7 ev7) hdX7_other q_471 q_472 q_53 q_474 q_473 ⟨Nat.le_of_ble_eq_true rfl, Nat.le_of_ble_eq_true rfl⟩ rfl rfl (Nat.le_of_ble_eq_true rfl) ⟨Nat.le_refl _, Nat.le_refl _⟩ dX10_refusalOfMeetings_65 (fun H locs hG hL => ?_)
    obtain ⟨v9, ev9, hf⟩ := Option.bind_eq_some_iff.mp hf
    obtain ⟨q10, eq10⟩ := ah_this ev9
    refine ah_callV (As := [.int v5, .int v7]) (rest := []) K hG hL hl.1 eq10 rfl (ctX2_areUnlikeShips l H0 D ca M z v4 v5 v7 v9 ev9) hdX2_areUnlikeShips q_448 q_349 q_51 q_351 q_350 ⟨Nat.le_of_ble_eq_true rfl, Nat.le_of_ble_eq_true rfl⟩ rfl rfl (Nat.le_of_ble_eq_true rfl) ⟨Nat.le_refl _, Nat.le_refl _⟩ dX10_refusalOfMeetings_68 (fun H locs hG hL => ?_)
    refine lv_if_ne (tgt := 77) K.1 K.2.1 dX10_refusalOfMeetings_71 (by decide) (fun h11 => ?_) (fun h11 => ?_)
    · rw [if_neg h11] at hf
      refine lv_iinc (v := x4 + 1) (lv' := [(4, .int (x4 + 1)), (0, .ref a0), (3, .ref a3)]) K.1 K.2.1 dX10_refusalOfMeetings_77 hl (k := 2) rfl rfl (by decide) rfl (fun ls hl => ?_)
      refine lv_goto (tgt := 43) K.1 K.2.1 dX10_refusalOfMeetings_80 (by decide) ?_
      exact hk43 a0 a3 (x4 + 1) _ _ _ hG hL (lv_sub hl [1, 2, 0] rfl) _ hf
    · rw [if_pos h11] at hf
      refine lv_bipush (v := (-13)) K.1 K.2.1 dX10_refusalOfMeetings_74 (by decide) ?_
      have hf := Option.some.inj hf
      subst hf
      exact ah_iret K hG hL (Nat.le_refl _) (Nat.le_refl _) dX10_refusalOfMeetings_76
theorem wX10_refusalOfMeetings_43 {p : Program} {l : Launch} {e : Env} {s : State} {m : MethodId} {args : Array Value} {below : List Frame} {meth : Method} {c : Code} {D : va_G} {ca : Nat → ClassId} {H0 : Heap} {M : ah_h} {z : Nat} (K : ah_K p s m args meth c D ca "ShipsThatMeet" cX10_refusalOfMeetings 5 (some .int))   (n : Nat) : ∀ (a0 : Nat) (a3 : Nat) (x4 : Int32)  (H : Heap) (locs : List Loc) (ls : Array Slot), ah_g H0 D ca M z H → ah_L H0 locs → lv_has ls 5 [(0, .ref a0), (3, .ref a3), (4, .int x4)] → ∀ Z, fX10_refusalOfMeetings_43   M n a0 a3 x4 = some Z → W p l e { frames := 3, cells := 0, slots := 0, locals := 63 } s m args below meth c H locs 0 0 (ah_Q below args s H0 D ca 0 0 (some (.int Z)) M z) (F0 m 43 ls []) := by
  induction n with
  | zero => intro a0 a3 x4 H locs ls hG hL hl Z hf; cases hf
  | succ n ih => exact wX10_refusalOfMeetings_43_b K  _ ih
def fX10_refusalOfMeetings (M : ah_h) (a0 : Nat) (x1 : Int32) : Option (Int32) := (ah_ob M a0 10).bind fun _ => (fX10_refusalOfBytes M a0 x1).bind fun v1 => if 0 ≤ v1 then ((ah_gr M a0 10 4).bind fun v4 => (ah_ar M v4 3 x1).bind fun v5 => (ah_gi M v5 7 2).bind fun v6 => if (v6 - v6 / 2 * 2) = 0 then ((ah_gi M v5 7 2).bind fun v9 => if v9 ≤ 24 then (fX10_refusalOfMeetings_43 M ah_fu a0 v5 0) else (some (-13))) else (some (-13))) else (some v1)
set_option maxRecDepth 100000 in
set_option maxHeartbeats 4000000 in
theorem ctX10_refusalOfMeetings (l : Launch) (H0 : Heap) (D : va_G) (ca : Nat → ClassId) (M : ah_h) (z : Nat) (a0 : Nat) (x1 : Int32) (Z : Int32) (hf : fX10_refusalOfMeetings M a0 x1 = some Z) : ah_ct l H0 D ca yX10_refusalOfMeetings cX10_refusalOfMeetings 5 (some .int) 3 63 0 0 [.ref a0, .int x1] M z (some (.int Z)) M z := by
  refine ah_of (by decide) (Nat.le_of_ble_eq_true rfl) ?_
  intro p e s m below meth c ls hin K hG hl
  have hL : ah_L H0 [] := ah_L.nil
  have hl : lv_has ls 5 [(0, .ref a0), (1, .int x1)] := hl
  unfold fX10_refusalOfMeetings at hf
  obtain ⟨-, -, hf⟩ := Option.bind_eq_some_iff.mp hf
  refine lv_aload_n K.1 K.2.1 dX10_refusalOfMeetings_0 rfl (lv_at hl 0 rfl) ?_
  refine lv_iload_n K.1 K.2.1 dX10_refusalOfMeetings_1 rfl (lv_at hl 1 rfl) ?_
  obtain ⟨v1, ev1, hf⟩ := Option.bind_eq_some_iff.mp hf
  obtain ⟨q2, eq2⟩ := ah_this ev1
  refine ah_callV (As := [.int x1]) (rest := []) K hG hL hl.1 eq2 rfl (ctX10_refusalOfBytes l H0 D ca M z a0 x1 v1 ev1) hdX10_refusalOfBytes q_210 q_212 q_50 q_213 q_0 ⟨Nat.le_of_ble_eq_true rfl, Nat.le_of_ble_eq_true rfl⟩ rfl rfl (Nat.le_of_ble_eq_true rfl) ⟨Nat.le_refl _, Nat.le_refl _⟩ dX10_refusalOfMeetings_2 (fun H locs hG hL => ?_)
  refine lv_istore_n (lv' := [(2, .int v1), (0, .ref a0), (1, .int x1)]) K.1 K.2.1 dX10_refusalOfMeetings_5 rfl hl (by decide) rfl (fun ls hl => ?_)
  refine lv_iload_n K.1 K.2.1 dX10_refusalOfMeetings_6 rfl (lv_at hl 0 rfl) ?_
  refine lv_if_ge (tgt := 12) K.1 K.2.1 dX10_refusalOfMeetings_7 (by decide) (fun h3 => ?_) (fun h3 => ?_)
  · rw [if_pos h3] at hf
    refine lv_aload_n K.1 K.2.1 dX10_refusalOfMeetings_12 rfl (lv_at hl 1 rfl) ?_
    obtain ⟨v4, ev4, hf⟩ := Option.bind_eq_some_iff.mp hf
    refine ah_getr K hG ev4 ffX10_28_10 dX10_refusalOfMeetings_13 ?_
    refine lv_iload_n K.1 K.2.1 dX10_refusalOfMeetings_16 rfl (lv_at hl 2 rfl) ?_
    obtain ⟨v5, ev5, hf⟩ := Option.bind_eq_some_iff.mp hf
    refine ah_aald (t := 3) K hG ev5 rfl rfl dX10_refusalOfMeetings_17 ?_
    refine lv_astore_n (lv' := [(3, .ref v5), (2, .int v1), (0, .ref a0), (1, .int x1)]) K.1 K.2.1 dX10_refusalOfMeetings_18 rfl hl (by decide) rfl (fun ls hl => ?_)
    refine lv_aload_n K.1 K.2.1 dX10_refusalOfMeetings_19 rfl (lv_at hl 0 rfl) ?_
    obtain ⟨v6, ev6, hf⟩ := Option.bind_eq_some_iff.mp hf
    refine ah_geti K hG ev6 ffX10_58_7 dX10_refusalOfMeetings_20 ?_
    refine lv_iconst (v := 2) K.1 K.2.1 dX10_refusalOfMeetings_23 (by decide) ?_
    refine lv_irem K.1 K.2.1 dX10_refusalOfMeetings_24 (by decide) ?_
    refine lv_if_ne (tgt := 37) K.1 K.2.1 dX10_refusalOfMeetings_25 (by decide) (fun h8 => ?_) (fun h8 => ?_)
    · rw [if_neg h8] at hf
      refine lv_bipush (v := (-13)) K.1 K.2.1 dX10_refusalOfMeetings_37 (by decide) ?_
      have hf := Option.some.inj hf
      subst hf
      exact ah_iret K hG hL (Nat.le_refl _) (Nat.le_refl _) dX10_refusalOfMeetings_39
    · rw [if_pos h8] at hf
      refine lv_aload_n K.1 K.2.1 dX10_refusalOfMeetings_28 rfl (lv_at hl 0 rfl) ?_
      obtain ⟨v9, ev9, hf⟩ := Option.bind_eq_some_iff.mp hf
      refine ah_geti K hG ev9 ffX10_58_7 dX10_refusalOfMeetings_29 ?_
      refine lv_bipush (v := 24) K.1 K.2.1 dX10_refusalOfMeetings_32 (by decide) ?_
      refine lv_icmp_le (tgt := 40) K.1 K.2.1 dX10_refusalOfMeetings_34 (by decide) (fun h10 => ?_) (fun h10 => ?_)
      · rw [if_pos h10] at hf
        refine lv_iconst (v := 0) K.1 K.2.1 dX10_refusalOfMeetings_40 (by decide) ?_
        refine lv_istore (lv' := [(4, .int 0), (3, .ref v5), (2, .int v1), (0, .ref a0), (1, .int x1)]) K.1 K.2.1 dX10_refusalOfMeetings_41 hl (by decide) rfl (fun ls hl => ?_)
        exact wX10_refusalOfMeetings_43 K  ah_fu a0 v5 0 _ _ _ hG hL (lv_sub hl [3, 1, 0] rfl) _ hf
      · rw [if_neg h10] at hf
        refine lv_bipush (v := (-13)) K.1 K.2.1 dX10_refusalOfMeetings_37 (by decide) ?_
        have hf := Option.some.inj hf
        subst hf
        exact ah_iret K hG hL (Nat.le_refl _) (Nat.le_refl _) dX10_refusalOfMeetings_39
  · rw [if_neg h3] at hf
    refine lv_iload_n K.1 K.2.1 dX10_refusalOfMeetings_10 rfl (lv_at hl 0 rfl) ?_
    have hf := Option.some.inj hf
    subst hf
    exact ah_iret K hG hL (Nat.le_refl _) (Nat.le_refl _) dX10_refusalOfMeetings_11
def fX10_refusalOfManAndMeetings (M : ah_h) (a0 : Nat) (x1 : Int32) (x2 : Int32) : Option (Int32) := (ah_ob M a0 10).bind fun _ => (ah_gr M a0 10 0).bind fun v1 => (fX2_isMan M v1 x1).bind fun v2 => if v2 = 0 then (some (-1)) else ((fX10_refusalOfMeetings M a0 x2).bind fun v5 => some v5)
set_option maxRecDepth 100000 in
set_option maxHeartbeats 4000000 in
theorem ctX10_refusalOfManAndMeetings (l : Launch) (H0 : Heap) (D : va_G) (ca : Nat → ClassId) (M : ah_h) (z : Nat) (a0 : Nat) (x1 : Int32) (x2 : Int32) (Z : Int32) (hf : fX10_refusalOfManAndMeetings M a0 x1 x2 = some Z) : ah_ct l H0 D ca yX10_refusalOfManAndMeetings cX10_refusalOfManAndMeetings 3 (some .int) 4 87 0 0 [.ref a0, .int x1, .int x2] M z (some (.int Z)) M z := by
  refine ah_of (by decide) (Nat.le_of_ble_eq_true rfl) ?_
  intro p e s m below meth c ls hin K hG hl
  have hL : ah_L H0 [] := ah_L.nil
  have hl : lv_has ls 3 [(0, .ref a0), (1, .int x1), (2, .int x2)] := hl
  unfold fX10_refusalOfManAndMeetings at hf
  obtain ⟨-, -, hf⟩ := Option.bind_eq_some_iff.mp hf
  refine lv_aload_n K.1 K.2.1 dX10_refusalOfManAndMeetings_0 rfl (lv_at hl 0 rfl) ?_
  obtain ⟨v1, ev1, hf⟩ := Option.bind_eq_some_iff.mp hf
  refine ah_getr K hG ev1 ffX10_10_10 dX10_refusalOfManAndMeetings_1 ?_
  refine lv_iload_n K.1 K.2.1 dX10_refusalOfManAndMeetings_4 rfl (lv_at hl 1 rfl) ?_
  obtain ⟨v2, ev2, hf⟩ := Option.bind_eq_some_iff.mp hf
  obtain ⟨q3, eq3⟩ := ah_this ev2
  refine ah_callV (As := [.int x1]) (rest := []) K hG hL hl.1 eq3 rfl (ctX2_isMan l H0 D ca M z v1 x1 v2 ev2) hdX2_isMan q_435 q_417 q_51 q_419 q_418 ⟨Nat.le_of_ble_eq_true rfl, Nat.le_of_ble_eq_true rfl⟩ rfl rfl (Nat.le_of_ble_eq_true rfl) ⟨Nat.le_refl _, Nat.le_refl _⟩ dX10_refusalOfManAndMeetings_5 (fun H locs hG hL => ?_)
  refine lv_if_eq (tgt := 19) K.1 K.2.1 dX10_refusalOfManAndMeetings_8 (by decide) (fun h4 => ?_) (fun h4 => ?_)
  · rw [if_pos h4] at hf
    refine lv_iconst (v := (-1)) K.1 K.2.1 dX10_refusalOfManAndMeetings_19 (by decide) ?_
    have hf := Option.some.inj hf
    subst hf
    exact ah_iret K hG hL (Nat.le_refl _) (Nat.le_refl _) dX10_refusalOfManAndMeetings_20
  · rw [if_neg h4] at hf
    refine lv_aload_n K.1 K.2.1 dX10_refusalOfManAndMeetings_11 rfl (lv_at hl 0 rfl) ?_
    refine lv_iload_n K.1 K.2.1 dX10_refusalOfManAndMeetings_12 rfl (lv_at hl 2 rfl) ?_
    obtain ⟨v5, ev5, hf⟩ := Option.bind_eq_some_iff.mp hf
    obtain ⟨q6, eq6⟩ := ah_this ev5
    refine ah_callV (As := [.int x2]) (rest := []) K hG hL hl.1 eq6 rfl (ctX10_refusalOfMeetings l H0 D ca M z a0 x2 v5 ev5) hdX10_refusalOfMeetings q_458 q_460 q_50 q_461 q_4 ⟨Nat.le_of_ble_eq_true rfl, Nat.le_of_ble_eq_true rfl⟩ rfl rfl (Nat.le_of_ble_eq_true rfl) ⟨Nat.le_refl _, Nat.le_refl _⟩ dX10_refusalOfManAndMeetings_13 (fun H locs hG hL => ?_)
    refine lv_goto (tgt := 20) K.1 K.2.1 dX10_refusalOfManAndMeetings_16 (by decide) ?_
    have hf := Option.some.inj hf
    subst hf
    exact ah_iret K hG hL (Nat.le_refl _) (Nat.le_refl _) dX10_refusalOfManAndMeetings_20
def fX10_tellsOfEachMan_18_b   (k18 : Nat → Nat → Int32 → Option (Int32)) (M : ah_h) (a0 : Nat) (a1 : Nat) (x2 : Int32) : Option (Int32) := (ah_gi M a1 7 2).bind fun v1 => if v1 ≤ x2 then (some 1) else ((ah_gr M a0 10 0).bind fun v3 => (fX7_at M a1 x2).bind fun v4 => (fX2_isShip M v3 v4).bind fun v6 => if v6 = 0 then (some 0) else (k18 a0 a1 (x2 + 1)))
def fX10_tellsOfEachMan_18   (M : ah_h) : Nat → Nat → Nat → Int32 → Option (Int32)
  | 0 => fun _ _ _ => none
  | n + 1 => fun a0 a1 x2 => fX10_tellsOfEachMan_18_b   (fX10_tellsOfEachMan_18   M n) M a0 a1 x2
set_option maxRecDepth 100000 in
set_option maxHeartbeats 4000000 in
theorem wX10_tellsOfEachMan_18_b {p : Program} {l : Launch} {e : Env} {s : State} {m : MethodId} {args : Array Value} {below : List Frame} {meth : Method} {c : Code} {D : va_G} {ca : Nat → ClassId} {H0 : Heap} {M : ah_h} {z : Nat} (K : ah_K p s m args meth c D ca "ShipsThatMeet" cX10_tellsOfEachMan 3 (some .boolean))   (k18 : Nat → Nat → Int32 → Option (Int32)) (hk18 : ∀ (a0 : Nat) (a1 : Nat) (x2 : Int32)  (H : Heap) (locs : List Loc) (ls : Array Slot), ah_g H0 D ca M z H → ah_L H0 locs → lv_has ls 3 [(0, .ref a0), (1, .ref a1), (2, .int x2)] → ∀ Z, k18 a0 a1 x2 = some Z → W p l e { frames := 2, cells := 0, slots := 0, locals := 42 } s m args below meth c H locs 0 0 (ah_Q below args s H0 D ca 0 0 (some (.int Z)) M z) (F0 m 18 ls [])) : ∀ (a0 : Nat) (a1 : Nat) (x2 : Int32)  (H : Heap) (locs : List Loc) (ls : Array Slot), ah_g H0 D ca M z H → ah_L H0 locs → lv_has ls 3 [(0, .ref a0), (1, .ref a1), (2, .int x2)] → ∀ Z, fX10_tellsOfEachMan_18_b   k18 M a0 a1 x2 = some Z → W p l e { frames := 2, cells := 0, slots := 0, locals := 42 } s m args below meth c H locs 0 0 (ah_Q below args s H0 D ca 0 0 (some (.int Z)) M z) (F0 m 18 ls []) := by
  intro a0 a1 x2 H locs ls hG hL hl Z hf
  unfold fX10_tellsOfEachMan_18_b at hf
  refine lv_iload_n K.1 K.2.1 dX10_tellsOfEachMan_18 rfl (lv_at hl 2 rfl) ?_
  refine lv_aload_n K.1 K.2.1 dX10_tellsOfEachMan_19 rfl (lv_at hl 1 rfl) ?_
  obtain ⟨v1, ev1, hf⟩ := Option.bind_eq_some_iff.mp hf
  refine ah_geti K hG ev1 ffX10_58_7 dX10_tellsOfEachMan_20 ?_
  refine lv_icmp_ge (tgt := 49) K.1 K.2.1 dX10_tellsOfEachMan_23 (by decide) (fun h2 => ?_) (fun h2 => ?_)
  · rw [if_pos h2] at hf
    refine lv_iconst (v := 1) K.1 K.2.1 dX10_tellsOfEachMan_49 (by decide) ?_
    have hf := Option.some.inj hf
    subst hf
    exact ah_zret K hG hL (Or.inr rfl) (Nat.le_refl _) (Nat.le_refl _) dX10_tellsOfEachMan_50
  · rw [if_neg h2] at hf
    refine lv_aload_n K.1 K.2.1 dX10_tellsOfEachMan_26 rfl (lv_at hl 0 rfl) ?_
    obtain ⟨v3, ev3, hf⟩ := Option.bind_eq_some_iff.mp hf
    refine ah_getr K hG ev3 ffX10_10_10 dX10_tellsOfEachMan_27 ?_
    refine lv_aload_n K.1 K.2.1 dX10_tellsOfEachMan_30 rfl (lv_at hl 1 rfl) ?_
    refine lv_iload_n K.1 K.2.1 dX10_tellsOfEachMan_31 rfl (lv_at hl 2 rfl) ?_
    obtain ⟨v4, ev4, hf⟩ := Option.bind_eq_some_iff.mp hf
    obtain ⟨q5, eq5⟩ := ah_this ev4
    refine ah_callV (As := [.int x2]) (rest := [.ref v3]) K hG hL hl.1 eq5 rfl (ctX7_at l H0 D ca M z a1 x2 v4 ev4) hdX7_at q_232 q_233 q_53 q_235 q_234 ⟨Nat.le_of_ble_eq_true rfl, Nat.le_of_ble_eq_true rfl⟩ rfl rfl (Nat.le_of_ble_eq_true rfl) ⟨Nat.le_refl _, Nat.le_refl _⟩ dX10_tellsOfEachMan_32 (fun H locs hG hL => ?_)
    obtain ⟨v6, ev6, hf⟩ := Option.bind_eq_some_iff.mp hf
    obtain ⟨q7, eq7⟩ := ah_this ev6
    refine ah_callV (As := [.int v4]) (rest := []) K hG hL hl.1 eq7 rfl (ctX2_isShip l H0 D ca M z v3 v4 v6 ev6) hdX2_isShip q_428 q_333 q_51 q_335 q_334 ⟨Nat.le_of_ble_eq_true rfl, Nat.le_of_ble_eq_true rfl⟩ rfl rfl (Nat.le_of_ble_eq_true rfl) ⟨Nat.le_refl _, Nat.le_refl _⟩ dX10_tellsOfEachMan_35 (fun H locs hG hL => ?_)
    refine lv_if_ne (tgt := 43) K.1 K.2.1 dX10_tellsOfEachMan_38 (by decide) (fun h8 => ?_) (fun h8 => ?_)
    · rw [if_neg h8] at hf
      refine lv_iinc (v := x2 + 1) (lv' := [(2, .int (x2 + 1)), (0, .ref a0), (1, .ref a1)]) K.1 K.2.1 dX10_tellsOfEachMan_43 hl (k := 2) rfl rfl (by decide) rfl (fun ls hl => ?_)
      refine lv_goto (tgt := 18) K.1 K.2.1 dX10_tellsOfEachMan_46 (by decide) ?_
      exact hk18 a0 a1 (x2 + 1) _ _ _ hG hL (lv_sub hl [1, 2, 0] rfl) _ hf
    · rw [if_pos h8] at hf
      refine lv_iconst (v := 0) K.1 K.2.1 dX10_tellsOfEachMan_41 (by decide) ?_
      have hf := Option.some.inj hf
      subst hf
      exact ah_zret K hG hL (Or.inl rfl) (Nat.le_refl _) (Nat.le_refl _) dX10_tellsOfEachMan_42
theorem wX10_tellsOfEachMan_18 {p : Program} {l : Launch} {e : Env} {s : State} {m : MethodId} {args : Array Value} {below : List Frame} {meth : Method} {c : Code} {D : va_G} {ca : Nat → ClassId} {H0 : Heap} {M : ah_h} {z : Nat} (K : ah_K p s m args meth c D ca "ShipsThatMeet" cX10_tellsOfEachMan 3 (some .boolean))   (n : Nat) : ∀ (a0 : Nat) (a1 : Nat) (x2 : Int32)  (H : Heap) (locs : List Loc) (ls : Array Slot), ah_g H0 D ca M z H → ah_L H0 locs → lv_has ls 3 [(0, .ref a0), (1, .ref a1), (2, .int x2)] → ∀ Z, fX10_tellsOfEachMan_18   M n a0 a1 x2 = some Z → W p l e { frames := 2, cells := 0, slots := 0, locals := 42 } s m args below meth c H locs 0 0 (ah_Q below args s H0 D ca 0 0 (some (.int Z)) M z) (F0 m 18 ls []) := by
  induction n with
  | zero => intro a0 a1 x2 H locs ls hG hL hl Z hf; cases hf
  | succ n ih => exact wX10_tellsOfEachMan_18_b K  _ ih
def fX10_tellsOfEachMan (M : ah_h) (a0 : Nat) (x1 : Nat) : Option (Int32) := (ah_ob M a0 10).bind fun _ => (ah_gi M x1 7 2).bind fun v1 => (ah_gr M a0 10 0).bind fun v2 => (ah_gi M v2 2 1).bind fun v3 => if v1 = v3 then (fX10_tellsOfEachMan_18 M ah_fu a0 x1 0) else (some 0)
set_option maxRecDepth 100000 in
set_option maxHeartbeats 4000000 in
theorem ctX10_tellsOfEachMan (l : Launch) (H0 : Heap) (D : va_G) (ca : Nat → ClassId) (M : ah_h) (z : Nat) (a0 : Nat) (x1 : Nat) (Z : Int32) (hf : fX10_tellsOfEachMan M a0 x1 = some Z) : ah_ct l H0 D ca yX10_tellsOfEachMan cX10_tellsOfEachMan 3 (some .boolean) 2 42 0 0 [.ref a0, .ref x1] M z (some (.int Z)) M z := by
  refine ah_of (by decide) (Nat.le_of_ble_eq_true rfl) ?_
  intro p e s m below meth c ls hin K hG hl
  have hL : ah_L H0 [] := ah_L.nil
  have hl : lv_has ls 3 [(0, .ref a0), (1, .ref x1)] := hl
  unfold fX10_tellsOfEachMan at hf
  obtain ⟨-, -, hf⟩ := Option.bind_eq_some_iff.mp hf
  refine lv_aload_n K.1 K.2.1 dX10_tellsOfEachMan_0 rfl (lv_at hl 1 rfl) ?_
  obtain ⟨v1, ev1, hf⟩ := Option.bind_eq_some_iff.mp hf
  refine ah_geti K hG ev1 ffX10_58_7 dX10_tellsOfEachMan_1 ?_
  refine lv_aload_n K.1 K.2.1 dX10_tellsOfEachMan_4 rfl (lv_at hl 0 rfl) ?_
  obtain ⟨v2, ev2, hf⟩ := Option.bind_eq_some_iff.mp hf
  refine ah_getr K hG ev2 ffX10_10_10 dX10_tellsOfEachMan_5 ?_
  obtain ⟨v3, ev3, hf⟩ := Option.bind_eq_some_iff.mp hf
  refine ah_geti K hG ev3 ffX10_182_2 dX10_tellsOfEachMan_8 ?_
  refine lv_icmp_eq (tgt := 16) K.1 K.2.1 dX10_tellsOfEachMan_11 (by decide) (fun h4 => ?_) (fun h4 => ?_)
  · rw [if_pos h4] at hf
    refine lv_iconst (v := 0) K.1 K.2.1 dX10_tellsOfEachMan_16 (by decide) ?_
    refine lv_istore_n (lv' := [(2, .int 0), (0, .ref a0), (1, .ref x1)]) K.1 K.2.1 dX10_tellsOfEachMan_17 rfl hl (by decide) rfl (fun ls hl => ?_)
    exact wX10_tellsOfEachMan_18 K  ah_fu a0 x1 0 _ _ _ hG hL (lv_sub hl [1, 2, 0] rfl) _ hf
  · rw [if_neg h4] at hf
    refine lv_iconst (v := 0) K.1 K.2.1 dX10_tellsOfEachMan_14 (by decide) ?_
    have hf := Option.some.inj hf
    subst hf
    exact ah_zret K hG hL (Or.inl rfl) (Nat.le_refl _) (Nat.le_refl _) dX10_tellsOfEachMan_15
def fX10_signsBehind (M : ah_h) (x0 : Int32) : Option (Int32) := if x0 = 109 then (some 4) else if x0 = 115 then (some 3) else if x0 = 120 then (some 3) else (some 0)
set_option maxRecDepth 100000 in
set_option maxHeartbeats 4000000 in
theorem ctX10_signsBehind (l : Launch) (H0 : Heap) (D : va_G) (ca : Nat → ClassId) (M : ah_h) (z : Nat) (x0 : Int32) (Z : Int32) (hf : fX10_signsBehind M x0 = some Z) : ah_ct l H0 D ca yX10_signsBehind cX10_signsBehind 1 (some .int) 0 0 0 0 [.int x0] M z (some (.int Z)) M z := by
  refine ah_of (by decide) (Nat.le_of_ble_eq_true rfl) ?_
  intro p e s m below meth c ls hin K hG hl
  have hL : ah_L H0 [] := ah_L.nil
  have hl : lv_has ls 1 [(0, .int x0)] := hl
  unfold fX10_signsBehind at hf
  refine lv_iload_n K.1 K.2.1 dX10_signsBehind_0 rfl (lv_at hl 0 rfl) ?_
  by_cases h1 : x0 = 109
  · rw [if_pos h1] at hf
    refine lv_lookup (off := 37) (tgt := 38) K.1 K.2.1 dX10_signsBehind_1 (by decide) (by rw [h1]; rfl) (by decide) ?_
    refine lv_iconst (v := 4) K.1 K.2.1 dX10_signsBehind_38 (by decide) ?_
    have hf := Option.some.inj hf
    subst hf
    exact ah_iret K hG hL (Nat.le_refl _) (Nat.le_refl _) dX10_signsBehind_39
  rw [if_neg h1] at hf
  by_cases h2 : x0 = 115
  · rw [if_pos h2] at hf
    refine lv_lookup (off := 35) (tgt := 36) K.1 K.2.1 dX10_signsBehind_1 (by decide) (by rw [h2]; rfl) (by decide) ?_
    refine lv_iconst (v := 3) K.1 K.2.1 dX10_signsBehind_36 (by decide) ?_
    have hf := Option.some.inj hf
    subst hf
    exact ah_iret K hG hL (Nat.le_refl _) (Nat.le_refl _) dX10_signsBehind_37
  rw [if_neg h2] at hf
  by_cases h3 : x0 = 120
  · rw [if_pos h3] at hf
    refine lv_lookup (off := 35) (tgt := 36) K.1 K.2.1 dX10_signsBehind_1 (by decide) (by rw [h3]; rfl) (by decide) ?_
    refine lv_iconst (v := 3) K.1 K.2.1 dX10_signsBehind_36 (by decide) ?_
    have hf := Option.some.inj hf
    subst hf
    exact ah_iret K hG hL (Nat.le_refl _) (Nat.le_refl _) dX10_signsBehind_37
  rw [if_neg h3] at hf
  refine lv_lookup (off := 39) (tgt := 40) K.1 K.2.1 dX10_signsBehind_1 (by decide) ((congrArg (fun l => Op.lookupswitch.offset l _ _) rfl).trans (by rw [lv_osw h1 (by decide), lv_osw h2 (by decide), lv_osw h3 (by decide)]; rfl)) (by decide) ?_
  refine lv_iconst (v := 0) K.1 K.2.1 dX10_signsBehind_40 (by decide) ?_
  have hf := Option.some.inj hf
  subst hf
  exact ah_iret K hG hL (Nat.le_refl _) (Nat.le_refl _) dX10_signsBehind_41
def fX10_faultOfForm_103   (M : ah_h) (a0 : Nat) : Option (Int32) := (ah_gi M a0 7 2).bind fun v1 => some v1
set_option maxRecDepth 100000 in
set_option maxHeartbeats 4000000 in
theorem wX10_faultOfForm_103 {p : Program} {l : Launch} {e : Env} {s : State} {m : MethodId} {args : Array Value} {below : List Frame} {meth : Method} {c : Code} {D : va_G} {ca : Nat → ClassId} {H0 : Heap} {M : ah_h} {z : Nat} (K : ah_K p s m args meth c D ca "ShipsThatMeet" cX10_faultOfForm 5 (some .int))   : ∀ (a0 : Nat)  (H : Heap) (locs : List Loc) (ls : Array Slot), ah_g H0 D ca M z H → ah_L H0 locs → lv_has ls 5 [(0, .ref a0)] → ∀ Z, fX10_faultOfForm_103   M a0 = some Z → W p l e { frames := 2, cells := 0, slots := 0, locals := 42 } s m args below meth c H locs 0 0 (ah_Q below args s H0 D ca 0 0 (some (.int Z)) M z) (F0 m 103 ls []) := by
  intro a0 H locs ls hG hL hl Z hf
  unfold fX10_faultOfForm_103 at hf
  refine lv_aload_n K.1 K.2.1 dX10_faultOfForm_103 rfl (lv_at hl 0 rfl) ?_
  obtain ⟨v1, ev1, hf⟩ := Option.bind_eq_some_iff.mp hf
  refine ah_geti K hG ev1 ffX10_58_7 dX10_faultOfForm_104 ?_
  have hf := Option.some.inj hf
  subst hf
  exact ah_iret K hG hL (Nat.le_refl _) (Nat.le_refl _) dX10_faultOfForm_107
def fX10_faultOfForm_81  (k4 : Nat → Int32 → Int32 → Option (Int32)) (M : ah_h) (a0 : Nat) (x1 : Int32) (x2 : Int32) : Option (Int32) := k4 a0 x1 (x2 + 1)
set_option maxRecDepth 100000 in
set_option maxHeartbeats 4000000 in
theorem wX10_faultOfForm_81 {p : Program} {l : Launch} {e : Env} {s : State} {m : MethodId} {args : Array Value} {below : List Frame} {meth : Method} {c : Code} {D : va_G} {ca : Nat → ClassId} {H0 : Heap} {M : ah_h} {z : Nat} (K : ah_K p s m args meth c D ca "ShipsThatMeet" cX10_faultOfForm 5 (some .int))  (k4 : Nat → Int32 → Int32 → Option (Int32)) (hk4 : ∀ (a0 : Nat) (x1 : Int32) (x2 : Int32)  (H : Heap) (locs : List Loc) (ls : Array Slot), ah_g H0 D ca M z H → ah_L H0 locs → lv_has ls 5 [(0, .ref a0), (1, .int x1), (2, .int x2)] → ∀ Z, k4 a0 x1 x2 = some Z → W p l e { frames := 2, cells := 0, slots := 0, locals := 42 } s m args below meth c H locs 0 0 (ah_Q below args s H0 D ca 0 0 (some (.int Z)) M z) (F0 m 4 ls [])) : ∀ (a0 : Nat) (x1 : Int32) (x2 : Int32)  (H : Heap) (locs : List Loc) (ls : Array Slot), ah_g H0 D ca M z H → ah_L H0 locs → lv_has ls 5 [(0, .ref a0), (1, .int x1), (2, .int x2)] → ∀ Z, fX10_faultOfForm_81  k4 M a0 x1 x2 = some Z → W p l e { frames := 2, cells := 0, slots := 0, locals := 42 } s m args below meth c H locs 0 0 (ah_Q below args s H0 D ca 0 0 (some (.int Z)) M z) (F0 m 81 ls []) := by
  intro a0 x1 x2 H locs ls hG hL hl Z hf
  unfold fX10_faultOfForm_81 at hf
  refine lv_iinc (v := x2 + 1) (lv' := [(2, .int (x2 + 1)), (0, .ref a0), (1, .int x1)]) K.1 K.2.1 dX10_faultOfForm_81 hl (k := 2) rfl rfl (by decide) rfl (fun ls hl => ?_)
  refine lv_goto (tgt := 4) K.1 K.2.1 dX10_faultOfForm_84 (by decide) ?_
  exact hk4 a0 x1 (x2 + 1) _ _ _ hG hL (lv_sub hl [1, 2, 0] rfl) _ hf
def fX10_faultOfForm_69  (k4 : Nat → Int32 → Int32 → Option (Int32)) (M : ah_h) (a0 : Nat) (x1 : Int32) (x2 : Int32) (s0 : Int32) : Option (Int32) := if s0 = 0 then (some x2) else (fX10_faultOfForm_81 k4 M a0 (x1 + (-1)) x2)
set_option maxRecDepth 100000 in
set_option maxHeartbeats 4000000 in
theorem wX10_faultOfForm_69 {p : Program} {l : Launch} {e : Env} {s : State} {m : MethodId} {args : Array Value} {below : List Frame} {meth : Method} {c : Code} {D : va_G} {ca : Nat → ClassId} {H0 : Heap} {M : ah_h} {z : Nat} (K : ah_K p s m args meth c D ca "ShipsThatMeet" cX10_faultOfForm 5 (some .int))  (k4 : Nat → Int32 → Int32 → Option (Int32)) (hk4 : ∀ (a0 : Nat) (x1 : Int32) (x2 : Int32)  (H : Heap) (locs : List Loc) (ls : Array Slot), ah_g H0 D ca M z H → ah_L H0 locs → lv_has ls 5 [(0, .ref a0), (1, .int x1), (2, .int x2)] → ∀ Z, k4 a0 x1 x2 = some Z → W p l e { frames := 2, cells := 0, slots := 0, locals := 42 } s m args below meth c H locs 0 0 (ah_Q below args s H0 D ca 0 0 (some (.int Z)) M z) (F0 m 4 ls [])) : ∀ (a0 : Nat) (x1 : Int32) (x2 : Int32) (s0 : Int32)  (H : Heap) (locs : List Loc) (ls : Array Slot), ah_g H0 D ca M z H → ah_L H0 locs → lv_has ls 5 [(0, .ref a0), (1, .int x1), (2, .int x2)] → ∀ Z, fX10_faultOfForm_69  k4 M a0 x1 x2 s0 = some Z → W p l e { frames := 2, cells := 0, slots := 0, locals := 42 } s m args below meth c H locs 0 0 (ah_Q below args s H0 D ca 0 0 (some (.int Z)) M z) (F0 m 69 ls [.int s0]) := by
  intro a0 x1 x2 s0 H locs ls hG hL hl Z hf
  unfold fX10_faultOfForm_69 at hf
  refine lv_istore (lv' := [(4, .int s0), (0, .ref a0), (1, .int x1), (2, .int x2)]) K.1 K.2.1 dX10_faultOfForm_69 hl (by decide) rfl (fun ls hl => ?_)
  refine lv_iload K.1 K.2.1 dX10_faultOfForm_71 (lv_at hl 0 rfl) ?_
  refine lv_if_ne (tgt := 78) K.1 K.2.1 dX10_faultOfForm_73 (by decide) (fun h1 => ?_) (fun h1 => ?_)
  · rw [if_neg h1] at hf
    refine lv_iinc (v := x1 + (-1)) (lv' := [(1, .int (x1 + (-1))), (4, .int s0), (0, .ref a0), (2, .int x2)]) K.1 K.2.1 dX10_faultOfForm_78 hl (k := 2) rfl rfl (by decide) rfl (fun ls hl => ?_)
    exact wX10_faultOfForm_81 K k4 hk4 a0 (x1 + (-1)) x2 _ _ _ hG hL (lv_sub hl [2, 0, 3] rfl) _ hf
  · rw [if_pos h1] at hf
    refine lv_iload_n K.1 K.2.1 dX10_faultOfForm_76 rfl (lv_at hl 3 rfl) ?_
    have hf := Option.some.inj hf
    subst hf
    exact ah_iret K hG hL (Nat.le_refl _) (Nat.le_refl _) dX10_faultOfForm_77
def fX10_faultOfForm_68  (k4 : Nat → Int32 → Int32 → Option (Int32)) (M : ah_h) (a0 : Nat) (x1 : Int32) (x2 : Int32) : Option (Int32) := fX10_faultOfForm_69 k4 M a0 x1 x2 0
set_option maxRecDepth 100000 in
set_option maxHeartbeats 4000000 in
theorem wX10_faultOfForm_68 {p : Program} {l : Launch} {e : Env} {s : State} {m : MethodId} {args : Array Value} {below : List Frame} {meth : Method} {c : Code} {D : va_G} {ca : Nat → ClassId} {H0 : Heap} {M : ah_h} {z : Nat} (K : ah_K p s m args meth c D ca "ShipsThatMeet" cX10_faultOfForm 5 (some .int))  (k4 : Nat → Int32 → Int32 → Option (Int32)) (hk4 : ∀ (a0 : Nat) (x1 : Int32) (x2 : Int32)  (H : Heap) (locs : List Loc) (ls : Array Slot), ah_g H0 D ca M z H → ah_L H0 locs → lv_has ls 5 [(0, .ref a0), (1, .int x1), (2, .int x2)] → ∀ Z, k4 a0 x1 x2 = some Z → W p l e { frames := 2, cells := 0, slots := 0, locals := 42 } s m args below meth c H locs 0 0 (ah_Q below args s H0 D ca 0 0 (some (.int Z)) M z) (F0 m 4 ls [])) : ∀ (a0 : Nat) (x1 : Int32) (x2 : Int32)  (H : Heap) (locs : List Loc) (ls : Array Slot), ah_g H0 D ca M z H → ah_L H0 locs → lv_has ls 5 [(0, .ref a0), (1, .int x1), (2, .int x2)] → ∀ Z, fX10_faultOfForm_68  k4 M a0 x1 x2 = some Z → W p l e { frames := 2, cells := 0, slots := 0, locals := 42 } s m args below meth c H locs 0 0 (ah_Q below args s H0 D ca 0 0 (some (.int Z)) M z) (F0 m 68 ls []) := by
  intro a0 x1 x2 H locs ls hG hL hl Z hf
  unfold fX10_faultOfForm_68 at hf
  refine lv_iconst (v := 0) K.1 K.2.1 dX10_faultOfForm_68 (by decide) ?_
  exact wX10_faultOfForm_69 K k4 hk4 a0 x1 x2 0 _ _ _ hG hL (lv_sub hl [0, 1, 2] rfl) _ hf
def fX10_faultOfForm_4_b   (k4 : Nat → Int32 → Int32 → Option (Int32)) (M : ah_h) (a0 : Nat) (x1 : Int32) (x2 : Int32) : Option (Int32) := (ah_gi M a0 7 2).bind fun v1 => if v1 ≤ x2 then (if x1 = 0 then ((ah_gi M a0 7 2).bind fun v4 => if v4 ≤ 0 then (fX10_faultOfForm_103 M a0) else (some (-4))) else (fX10_faultOfForm_103 M a0)) else ((fX7_at M a0 x2).bind fun v6 => if x1 = 0 then ((fX10_signsBehind M v6).bind fun v13 => if v13 = 0 then (some x2) else (fX10_faultOfForm_81 k4 M a0 v13 x2)) else (if x1 = 1 then (if v6 = 59 then (fX10_faultOfForm_69 k4 M a0 x1 x2 1) else (fX10_faultOfForm_69 k4 M a0 x1 x2 0)) else (if v6 < 48 then (fX10_faultOfForm_68 k4 M a0 x1 x2) else (if 57 < v6 then (fX10_faultOfForm_68 k4 M a0 x1 x2) else (fX10_faultOfForm_69 k4 M a0 x1 x2 1)))))
def fX10_faultOfForm_4   (M : ah_h) : Nat → Nat → Int32 → Int32 → Option (Int32)
  | 0 => fun _ _ _ => none
  | n + 1 => fun a0 x1 x2 => fX10_faultOfForm_4_b   (fX10_faultOfForm_4   M n) M a0 x1 x2
set_option maxRecDepth 100000 in
set_option maxHeartbeats 4000000 in
theorem wX10_faultOfForm_4_b {p : Program} {l : Launch} {e : Env} {s : State} {m : MethodId} {args : Array Value} {below : List Frame} {meth : Method} {c : Code} {D : va_G} {ca : Nat → ClassId} {H0 : Heap} {M : ah_h} {z : Nat} (K : ah_K p s m args meth c D ca "ShipsThatMeet" cX10_faultOfForm 5 (some .int))   (k4 : Nat → Int32 → Int32 → Option (Int32)) (hk4 : ∀ (a0 : Nat) (x1 : Int32) (x2 : Int32)  (H : Heap) (locs : List Loc) (ls : Array Slot), ah_g H0 D ca M z H → ah_L H0 locs → lv_has ls 5 [(0, .ref a0), (1, .int x1), (2, .int x2)] → ∀ Z, k4 a0 x1 x2 = some Z → W p l e { frames := 2, cells := 0, slots := 0, locals := 42 } s m args below meth c H locs 0 0 (ah_Q below args s H0 D ca 0 0 (some (.int Z)) M z) (F0 m 4 ls [])) : ∀ (a0 : Nat) (x1 : Int32) (x2 : Int32)  (H : Heap) (locs : List Loc) (ls : Array Slot), ah_g H0 D ca M z H → ah_L H0 locs → lv_has ls 5 [(0, .ref a0), (1, .int x1), (2, .int x2)] → ∀ Z, fX10_faultOfForm_4_b   k4 M a0 x1 x2 = some Z → W p l e { frames := 2, cells := 0, slots := 0, locals := 42 } s m args below meth c H locs 0 0 (ah_Q below args s H0 D ca 0 0 (some (.int Z)) M z) (F0 m 4 ls []) := by
  intro a0 x1 x2 H locs ls hG hL hl Z hf
  unfold fX10_faultOfForm_4_b at hf
  refine lv_iload_n K.1 K.2.1 dX10_faultOfForm_4 rfl (lv_at hl 2 rfl) ?_
  refine lv_aload_n K.1 K.2.1 dX10_faultOfForm_5 rfl (lv_at hl 0 rfl) ?_
  obtain ⟨v1, ev1, hf⟩ := Option.bind_eq_some_iff.mp hf
  refine ah_geti K hG ev1 ffX10_58_7 dX10_faultOfForm_6 ?_
  refine lv_icmp_ge (tgt := 87) K.1 K.2.1 dX10_faultOfForm_9 (by decide) (fun h2 => ?_) (fun h2 => ?_)
  · rw [if_pos h2] at hf
    refine lv_iload_n K.1 K.2.1 dX10_faultOfForm_87 rfl (lv_at hl 1 rfl) ?_
    refine lv_if_ne (tgt := 103) K.1 K.2.1 dX10_faultOfForm_88 (by decide) (fun h3 => ?_) (fun h3 => ?_)
    · rw [if_neg h3] at hf
      exact wX10_faultOfForm_103 K  a0 _ _ _ hG hL (lv_sub hl [0] rfl) _ hf
    · rw [if_pos h3] at hf
      refine lv_aload_n K.1 K.2.1 dX10_faultOfForm_91 rfl (lv_at hl 0 rfl) ?_
      obtain ⟨v4, ev4, hf⟩ := Option.bind_eq_some_iff.mp hf
      refine ah_geti K hG ev4 ffX10_58_7 dX10_faultOfForm_92 ?_
      refine lv_if_le (tgt := 103) K.1 K.2.1 dX10_faultOfForm_95 (by decide) (fun h5 => ?_) (fun h5 => ?_)
      · rw [if_pos h5] at hf
        exact wX10_faultOfForm_103 K  a0 _ _ _ hG hL (lv_sub hl [0] rfl) _ hf
      · rw [if_neg h5] at hf
        refine lv_bipush (v := (-4)) K.1 K.2.1 dX10_faultOfForm_98 (by decide) ?_
        refine lv_goto (tgt := 107) K.1 K.2.1 dX10_faultOfForm_100 (by decide) ?_
        have hf := Option.some.inj hf
        subst hf
        exact ah_iret K hG hL (Nat.le_refl _) (Nat.le_refl _) dX10_faultOfForm_107
  · rw [if_neg h2] at hf
    refine lv_aload_n K.1 K.2.1 dX10_faultOfForm_12 rfl (lv_at hl 0 rfl) ?_
    refine lv_iload_n K.1 K.2.1 dX10_faultOfForm_13 rfl (lv_at hl 2 rfl) ?_
    obtain ⟨v6, ev6, hf⟩ := Option.bind_eq_some_iff.mp hf
    obtain ⟨q7, eq7⟩ := ah_this ev6
    refine ah_callV (As := [.int x2]) (rest := []) K hG hL hl.1 eq7 rfl (ctX7_at l H0 D ca M z a0 x2 v6 ev6) hdX7_at q_232 q_233 q_53 q_235 q_234 ⟨Nat.le_of_ble_eq_true rfl, Nat.le_of_ble_eq_true rfl⟩ rfl rfl (Nat.le_of_ble_eq_true rfl) ⟨Nat.le_refl _, Nat.le_refl _⟩ dX10_faultOfForm_14 (fun H locs hG hL => ?_)
    refine lv_istore_n (lv' := [(3, .int v6), (0, .ref a0), (1, .int x1), (2, .int x2)]) K.1 K.2.1 dX10_faultOfForm_17 rfl hl (by decide) rfl (fun ls hl => ?_)
    refine lv_iload_n K.1 K.2.1 dX10_faultOfForm_18 rfl (lv_at hl 2 rfl) ?_
    refine lv_if_ne (tgt := 33) K.1 K.2.1 dX10_faultOfForm_19 (by decide) (fun h8 => ?_) (fun h8 => ?_)
    · rw [if_neg h8] at hf
      refine lv_iload_n K.1 K.2.1 dX10_faultOfForm_33 rfl (lv_at hl 2 rfl) ?_
      refine lv_iconst (v := 1) K.1 K.2.1 dX10_faultOfForm_34 (by decide) ?_
      refine lv_icmp_ne (tgt := 52) K.1 K.2.1 dX10_faultOfForm_35 (by decide) (fun h9 => ?_) (fun h9 => ?_)
      · rw [if_neg h9] at hf
        refine lv_iload_n K.1 K.2.1 dX10_faultOfForm_52 rfl (lv_at hl 0 rfl) ?_
        refine lv_bipush (v := 48) K.1 K.2.1 dX10_faultOfForm_53 (by decide) ?_
        refine lv_icmp_lt (tgt := 68) K.1 K.2.1 dX10_faultOfForm_55 (by decide) (fun h10 => ?_) (fun h10 => ?_)
        · rw [if_pos h10] at hf
          exact wX10_faultOfForm_68 K k4 hk4 a0 x1 x2 _ _ _ hG hL (lv_sub hl [1, 2, 3] rfl) _ hf
        · rw [if_neg h10] at hf
          refine lv_iload_n K.1 K.2.1 dX10_faultOfForm_58 rfl (lv_at hl 0 rfl) ?_
          refine lv_bipush (v := 57) K.1 K.2.1 dX10_faultOfForm_59 (by decide) ?_
          refine lv_icmp_gt (tgt := 68) K.1 K.2.1 dX10_faultOfForm_61 (by decide) (fun h11 => ?_) (fun h11 => ?_)
          · rw [if_pos h11] at hf
            exact wX10_faultOfForm_68 K k4 hk4 a0 x1 x2 _ _ _ hG hL (lv_sub hl [1, 2, 3] rfl) _ hf
          · rw [if_neg h11] at hf
            refine lv_iconst (v := 1) K.1 K.2.1 dX10_faultOfForm_64 (by decide) ?_
            refine lv_goto (tgt := 69) K.1 K.2.1 dX10_faultOfForm_65 (by decide) ?_
            exact wX10_faultOfForm_69 K k4 hk4 a0 x1 x2 1 _ _ _ hG hL (lv_sub hl [1, 2, 3] rfl) _ hf
      · rw [if_pos h9] at hf
        refine lv_iload_n K.1 K.2.1 dX10_faultOfForm_38 rfl (lv_at hl 0 rfl) ?_
        refine lv_bipush (v := 59) K.1 K.2.1 dX10_faultOfForm_39 (by decide) ?_
        refine lv_icmp_ne (tgt := 48) K.1 K.2.1 dX10_faultOfForm_41 (by decide) (fun h12 => ?_) (fun h12 => ?_)
        · rw [if_neg h12] at hf
          refine lv_iconst (v := 0) K.1 K.2.1 dX10_faultOfForm_48 (by decide) ?_
          refine lv_goto (tgt := 69) K.1 K.2.1 dX10_faultOfForm_49 (by decide) ?_
          exact wX10_faultOfForm_69 K k4 hk4 a0 x1 x2 0 _ _ _ hG hL (lv_sub hl [1, 2, 3] rfl) _ hf
        · rw [if_pos h12] at hf
          refine lv_iconst (v := 1) K.1 K.2.1 dX10_faultOfForm_44 (by decide) ?_
          refine lv_goto (tgt := 69) K.1 K.2.1 dX10_faultOfForm_45 (by decide) ?_
          exact wX10_faultOfForm_69 K k4 hk4 a0 x1 x2 1 _ _ _ hG hL (lv_sub hl [1, 2, 3] rfl) _ hf
    · rw [if_pos h8] at hf
      refine lv_iload_n K.1 K.2.1 dX10_faultOfForm_22 rfl (lv_at hl 0 rfl) ?_
      obtain ⟨v13, ev13, hf⟩ := Option.bind_eq_some_iff.mp hf
      refine ah_callS (As := [.int v6]) (rest := []) K hG hL hl.1 (ctX10_signsBehind l H0 D ca M z v6 v13 ev13) hdX10_signsBehind q_240 q_241 q_50 q_242 ⟨Nat.le_of_ble_eq_true rfl, Nat.le_of_ble_eq_true rfl⟩ rfl rfl (Nat.le_of_ble_eq_true rfl) ⟨Nat.le_refl _, Nat.le_refl _⟩ dX10_faultOfForm_23 (fun H locs hG hL => ?_)
      refine lv_istore_n (lv' := [(1, .int v13), (3, .int v6), (0, .ref a0), (2, .int x2)]) K.1 K.2.1 dX10_faultOfForm_26 rfl hl (by decide) rfl (fun ls hl => ?_)
      refine lv_iload_n K.1 K.2.1 dX10_faultOfForm_27 rfl (lv_at hl 0 rfl) ?_
      refine lv_if_ne (tgt := 81) K.1 K.2.1 dX10_faultOfForm_28 (by decide) (fun h14 => ?_) (fun h14 => ?_)
      · rw [if_neg h14] at hf
        exact wX10_faultOfForm_81 K k4 hk4 a0 v13 x2 _ _ _ hG hL (lv_sub hl [2, 0, 3] rfl) _ hf
      · rw [if_pos h14] at hf
        refine lv_iload_n K.1 K.2.1 dX10_faultOfForm_31 rfl (lv_at hl 3 rfl) ?_
        have hf := Option.some.inj hf
        subst hf
        exact ah_iret K hG hL (Nat.le_refl _) (Nat.le_refl _) dX10_faultOfForm_32
theorem wX10_faultOfForm_4 {p : Program} {l : Launch} {e : Env} {s : State} {m : MethodId} {args : Array Value} {below : List Frame} {meth : Method} {c : Code} {D : va_G} {ca : Nat → ClassId} {H0 : Heap} {M : ah_h} {z : Nat} (K : ah_K p s m args meth c D ca "ShipsThatMeet" cX10_faultOfForm 5 (some .int))   (n : Nat) : ∀ (a0 : Nat) (x1 : Int32) (x2 : Int32)  (H : Heap) (locs : List Loc) (ls : Array Slot), ah_g H0 D ca M z H → ah_L H0 locs → lv_has ls 5 [(0, .ref a0), (1, .int x1), (2, .int x2)] → ∀ Z, fX10_faultOfForm_4   M n a0 x1 x2 = some Z → W p l e { frames := 2, cells := 0, slots := 0, locals := 42 } s m args below meth c H locs 0 0 (ah_Q below args s H0 D ca 0 0 (some (.int Z)) M z) (F0 m 4 ls []) := by
  induction n with
  | zero => intro a0 x1 x2 H locs ls hG hL hl Z hf; cases hf
  | succ n ih => exact wX10_faultOfForm_4_b K  _ ih
def fX10_faultOfForm (M : ah_h) (x0 : Nat) : Option (Int32) := fX10_faultOfForm_4 M ah_fu x0 0 0
set_option maxRecDepth 100000 in
set_option maxHeartbeats 4000000 in
theorem ctX10_faultOfForm (l : Launch) (H0 : Heap) (D : va_G) (ca : Nat → ClassId) (M : ah_h) (z : Nat) (x0 : Nat) (Z : Int32) (hf : fX10_faultOfForm M x0 = some Z) : ah_ct l H0 D ca yX10_faultOfForm cX10_faultOfForm 5 (some .int) 2 42 0 0 [.ref x0] M z (some (.int Z)) M z := by
  refine ah_of (by decide) (Nat.le_of_ble_eq_true rfl) ?_
  intro p e s m below meth c ls hin K hG hl
  have hL : ah_L H0 [] := ah_L.nil
  have hl : lv_has ls 5 [(0, .ref x0)] := hl
  unfold fX10_faultOfForm at hf
  refine lv_iconst (v := 0) K.1 K.2.1 dX10_faultOfForm_0 (by decide) ?_
  refine lv_istore_n (lv' := [(1, .int 0), (0, .ref x0)]) K.1 K.2.1 dX10_faultOfForm_1 rfl hl (by decide) rfl (fun ls hl => ?_)
  refine lv_iconst (v := 0) K.1 K.2.1 dX10_faultOfForm_2 (by decide) ?_
  refine lv_istore_n (lv' := [(2, .int 0), (1, .int 0), (0, .ref x0)]) K.1 K.2.1 dX10_faultOfForm_3 rfl hl (by decide) rfl (fun ls hl => ?_)
  exact wX10_faultOfForm_4 K  ah_fu x0 0 0 _ _ _ hG hL (lv_sub hl [2, 1, 0] rfl) _ hf
def fX10_digit (M : ah_h) (x0 : Nat) (x1 : Int32) : Option (Int32) := (fX7_at M x0 x1).bind fun v1 => some (v1 - 48)
set_option maxRecDepth 100000 in
set_option maxHeartbeats 4000000 in
theorem ctX10_digit (l : Launch) (H0 : Heap) (D : va_G) (ca : Nat → ClassId) (M : ah_h) (z : Nat) (x0 : Nat) (x1 : Int32) (Z : Int32) (hf : fX10_digit M x0 x1 = some Z) : ah_ct l H0 D ca yX10_digit cX10_digit 2 (some .int) 2 42 0 0 [.ref x0, .int x1] M z (some (.int Z)) M z := by
  refine ah_of (by decide) (Nat.le_of_ble_eq_true rfl) ?_
  intro p e s m below meth c ls hin K hG hl
  have hL : ah_L H0 [] := ah_L.nil
  have hl : lv_has ls 2 [(0, .ref x0), (1, .int x1)] := hl
  unfold fX10_digit at hf
  refine lv_aload_n K.1 K.2.1 dX10_digit_0 rfl (lv_at hl 0 rfl) ?_
  refine lv_iload_n K.1 K.2.1 dX10_digit_1 rfl (lv_at hl 1 rfl) ?_
  obtain ⟨v1, ev1, hf⟩ := Option.bind_eq_some_iff.mp hf
  obtain ⟨q2, eq2⟩ := ah_this ev1
  refine ah_callV (As := [.int x1]) (rest := []) K hG hL hl.1 eq2 rfl (ctX7_at l H0 D ca M z x0 x1 v1 ev1) hdX7_at q_232 q_233 q_53 q_235 q_234 ⟨Nat.le_of_ble_eq_true rfl, Nat.le_of_ble_eq_true rfl⟩ rfl rfl (Nat.le_of_ble_eq_true rfl) ⟨Nat.le_refl _, Nat.le_refl _⟩ dX10_digit_2 (fun H locs hG hL => ?_)
  refine lv_bipush (v := 48) K.1 K.2.1 dX10_digit_5 (by decide) ?_
  refine lv_isub K.1 K.2.1 dX10_digit_7 ?_
  have hf := Option.some.inj hf
  subst hf
  exact ah_iret K hG hL (Nat.le_refl _) (Nat.le_refl _) dX10_digit_8
def fX10_has (M : ah_h) (x0 : Int32) (x1 : Int32) : Option (Int32) := if (x0 &&& ((1 : Int32) <<< (x1 &&& 31))) = 0 then (some 0) else (some 1)
set_option maxRecDepth 100000 in
set_option maxHeartbeats 4000000 in
theorem ctX10_has (l : Launch) (H0 : Heap) (D : va_G) (ca : Nat → ClassId) (M : ah_h) (z : Nat) (x0 : Int32) (x1 : Int32) (Z : Int32) (hf : fX10_has M x0 x1 = some Z) : ah_ct l H0 D ca yX10_has cX10_has 2 (some .boolean) 0 0 0 0 [.int x0, .int x1] M z (some (.int Z)) M z := by
  refine ah_of (by decide) (Nat.le_of_ble_eq_true rfl) ?_
  intro p e s m below meth c ls hin K hG hl
  have hL : ah_L H0 [] := ah_L.nil
  have hl : lv_has ls 2 [(0, .int x0), (1, .int x1)] := hl
  unfold fX10_has at hf
  refine lv_iload_n K.1 K.2.1 dX10_has_0 rfl (lv_at hl 0 rfl) ?_
  refine lv_iconst (v := 1) K.1 K.2.1 dX10_has_1 (by decide) ?_
  refine lv_iload_n K.1 K.2.1 dX10_has_2 rfl (lv_at hl 1 rfl) ?_
  refine lv_ishl K.1 K.2.1 dX10_has_3 ?_
  refine lv_iand K.1 K.2.1 dX10_has_4 ?_
  refine lv_if_eq (tgt := 12) K.1 K.2.1 dX10_has_5 (by decide) (fun h1 => ?_) (fun h1 => ?_)
  · rw [if_pos h1] at hf
    refine lv_iconst (v := 0) K.1 K.2.1 dX10_has_12 (by decide) ?_
    have hf := Option.some.inj hf
    subst hf
    exact ah_zret K hG hL (Or.inl rfl) (Nat.le_refl _) (Nat.le_refl _) dX10_has_13
  · rw [if_neg h1] at hf
    refine lv_iconst (v := 1) K.1 K.2.1 dX10_has_8 (by decide) ?_
    refine lv_goto (tgt := 13) K.1 K.2.1 dX10_has_9 (by decide) ?_
    have hf := Option.some.inj hf
    subst hf
    exact ah_zret K hG hL (Or.inr rfl) (Nat.le_refl _) (Nat.le_refl _) dX10_has_13
def fX10_nameOfMeeting (M : ah_h) (x0 : Int32) (x1 : Int32) : Option (Int32) := some ((10 * (if x1 < x0 then x1 else x0)) + (if x0 < x1 then x1 else x0))
set_option maxRecDepth 100000 in
set_option maxHeartbeats 4000000 in
theorem ctX10_nameOfMeeting (l : Launch) (H0 : Heap) (D : va_G) (ca : Nat → ClassId) (M : ah_h) (z : Nat) (x0 : Int32) (x1 : Int32) (Z : Int32) (hf : fX10_nameOfMeeting M x0 x1 = some Z) : ah_ct l H0 D ca yX10_nameOfMeeting cX10_nameOfMeeting 2 (some .int) 1 24 0 0 [.int x0, .int x1] M z (some (.int Z)) M z := by
  refine ah_of (by decide) (Nat.le_of_ble_eq_true rfl) ?_
  intro p e s m below meth c ls hin K hG hl
  have hL : ah_L H0 [] := ah_L.nil
  have hl : lv_has ls 2 [(0, .int x0), (1, .int x1)] := hl
  unfold fX10_nameOfMeeting at hf
  refine lv_bipush (v := 10) K.1 K.2.1 dX10_nameOfMeeting_0 (by decide) ?_
  refine lv_iload_n K.1 K.2.1 dX10_nameOfMeeting_2 rfl (lv_at hl 0 rfl) ?_
  refine lv_iload_n K.1 K.2.1 dX10_nameOfMeeting_3 rfl (lv_at hl 1 rfl) ?_
  refine va_mmin K.1 K.2.1 (K.2.2.1.trans hl.1.symm) K.2.2.2.1 (K.2.2.2.2.1 _ q_548) (K.2.2.2.2.1 _ q_549) (K.2.2.2.2.1 _ q_63) (K.2.2.2.2.1 _ q_550) (Nat.le_of_ble_eq_true rfl) (Nat.le_of_ble_eq_true rfl) (Nat.le_of_ble_eq_true rfl) (Nat.le_of_ble_eq_true rfl) dX10_nameOfMeeting_4 ?_
  refine lv_imul K.1 K.2.1 dX10_nameOfMeeting_7 ?_
  refine lv_iload_n K.1 K.2.1 dX10_nameOfMeeting_8 rfl (lv_at hl 0 rfl) ?_
  refine lv_iload_n K.1 K.2.1 dX10_nameOfMeeting_9 rfl (lv_at hl 1 rfl) ?_
  refine va_mmax K.1 K.2.1 (K.2.2.1.trans hl.1.symm) K.2.2.2.1 (K.2.2.2.2.1 _ q_551) (K.2.2.2.2.1 _ q_552) (K.2.2.2.2.1 _ q_63) (K.2.2.2.2.1 _ q_553) (Nat.le_of_ble_eq_true rfl) (Nat.le_of_ble_eq_true rfl) (Nat.le_of_ble_eq_true rfl) (Nat.le_of_ble_eq_true rfl) dX10_nameOfMeeting_10 ?_
  refine lv_iadd K.1 K.2.1 dX10_nameOfMeeting_13 ?_
  have hf := Option.some.inj hf
  subst hf
  exact ah_iret K hG hL (Nat.le_refl _) (Nat.le_refl _) dX10_nameOfMeeting_14
def fX10_commonDivisor_9_b   (k9 : Int64 → Int64 → Int32 → Option (Int64)) (M : ah_h) (y4 : Int64) (y6 : Int64) (x8 : Int32) : Option (Int64) := if 200 ≤ x8 then (some y4) else (if (lg_cmp y6 0) = 0 then (some y4) else (if y6 = 0 then none else k9 y6 (y4 - y4 / y6 * y6) (x8 + 1)))
def fX10_commonDivisor_9   (M : ah_h) : Nat → Int64 → Int64 → Int32 → Option (Int64)
  | 0 => fun _ _ _ => none
  | n + 1 => fun y4 y6 x8 => fX10_commonDivisor_9_b   (fX10_commonDivisor_9   M n) M y4 y6 x8
set_option maxRecDepth 100000 in
set_option maxHeartbeats 4000000 in
theorem wX10_commonDivisor_9_b {p : Program} {l : Launch} {e : Env} {s : State} {m : MethodId} {args : Array Value} {below : List Frame} {meth : Method} {c : Code} {D : va_G} {ca : Nat → ClassId} {H0 : Heap} {M : ah_h} {z : Nat} (K : ah_K p s m args meth c D ca "ShipsThatMeet" cX10_commonDivisor 11 (some .long))   (k9 : Int64 → Int64 → Int32 → Option (Int64)) (hk9 : ∀ (y4 : Int64) (y6 : Int64) (x8 : Int32)  (H : Heap) (locs : List Loc) (ls : Array Slot), ah_g H0 D ca M z H → ah_L H0 locs → lv_has ls 11 [(4, .long y4), (6, .long y6), (8, .int x8)] → ∀ Z, k9 y4 y6 x8 = some Z → W p l e { frames := 0, cells := 0, slots := 0, locals := 0 } s m args below meth c H locs 0 0 (ah_Q below args s H0 D ca 0 0 (some (.long Z)) M z) (F0 m 9 ls [])) : ∀ (y4 : Int64) (y6 : Int64) (x8 : Int32)  (H : Heap) (locs : List Loc) (ls : Array Slot), ah_g H0 D ca M z H → ah_L H0 locs → lv_has ls 11 [(4, .long y4), (6, .long y6), (8, .int x8)] → ∀ Z, fX10_commonDivisor_9_b   k9 M y4 y6 x8 = some Z → W p l e { frames := 0, cells := 0, slots := 0, locals := 0 } s m args below meth c H locs 0 0 (ah_Q below args s H0 D ca 0 0 (some (.long Z)) M z) (F0 m 9 ls []) := by
  intro y4 y6 x8 H locs ls hG hL hl Z hf
  unfold fX10_commonDivisor_9_b at hf
  refine lv_iload K.1 K.2.1 dX10_commonDivisor_9 (lv_at hl 2 rfl) ?_
  refine lv_sipush (v := 200) K.1 K.2.1 dX10_commonDivisor_11 (by decide) ?_
  refine lv_icmp_ge (tgt := 45) K.1 K.2.1 dX10_commonDivisor_14 (by decide) (fun h1 => ?_) (fun h1 => ?_)
  · rw [if_pos h1] at hf
    refine lv_lload K.1 K.2.1 dX10_commonDivisor_45 (lv_at hl 0 rfl) ?_
    have hf := Option.some.inj hf
    subst hf
    exact ah_lret K hG hL (Nat.le_refl _) (Nat.le_refl _) dX10_commonDivisor_47
  · rw [if_neg h1] at hf
    refine lv_lload K.1 K.2.1 dX10_commonDivisor_17 (lv_at hl 1 rfl) ?_
    refine lv_lconst (v := 0) K.1 K.2.1 dX10_commonDivisor_19 (by decide) ?_
    refine W.lcmp K.1 K.2.1 dX10_commonDivisor_20 ?_
    refine lv_if_eq (tgt := 45) K.1 K.2.1 dX10_commonDivisor_21 (by decide) (fun h2 => ?_) (fun h2 => ?_)
    · rw [if_pos h2] at hf
      refine lv_lload K.1 K.2.1 dX10_commonDivisor_45 (lv_at hl 0 rfl) ?_
      have hf := Option.some.inj hf
      subst hf
      exact ah_lret K hG hL (Nat.le_refl _) (Nat.le_refl _) dX10_commonDivisor_47
    · rw [if_neg h2] at hf
      refine lv_lload K.1 K.2.1 dX10_commonDivisor_24 (lv_at hl 0 rfl) ?_
      refine lv_lload K.1 K.2.1 dX10_commonDivisor_26 (lv_at hl 1 rfl) ?_
      by_cases h3 : y6 = 0
      · rw [if_pos h3] at hf; cases hf
      rw [if_neg h3] at hf
      refine lv_lrem K.1 K.2.1 dX10_commonDivisor_28 h3 ?_
      refine lv_lstore (lv' := [(9, .long (y4 - y4 / y6 * y6)), (4, .long y4), (6, .long y6), (8, .int x8)]) K.1 K.2.1 dX10_commonDivisor_29 hl (by decide) rfl (fun ls hl => ?_)
      refine lv_lload K.1 K.2.1 dX10_commonDivisor_31 (lv_at hl 2 rfl) ?_
      refine lv_lstore (lv' := [(4, .long y6), (9, .long (y4 - y4 / y6 * y6)), (6, .long y6), (8, .int x8)]) K.1 K.2.1 dX10_commonDivisor_33 hl (by decide) rfl (fun ls hl => ?_)
      refine lv_lload K.1 K.2.1 dX10_commonDivisor_35 (lv_at hl 1 rfl) ?_
      refine lv_lstore (lv' := [(6, .long (y4 - y4 / y6 * y6)), (4, .long y6), (9, .long (y4 - y4 / y6 * y6)), (8, .int x8)]) K.1 K.2.1 dX10_commonDivisor_37 hl (by decide) rfl (fun ls hl => ?_)
      refine lv_iinc (v := x8 + 1) (lv' := [(8, .int (x8 + 1)), (6, .long (y4 - y4 / y6 * y6)), (4, .long y6), (9, .long (y4 - y4 / y6 * y6))]) K.1 K.2.1 dX10_commonDivisor_39 hl (k := 3) rfl rfl (by decide) rfl (fun ls hl => ?_)
      refine lv_goto (tgt := 9) K.1 K.2.1 dX10_commonDivisor_42 (by decide) ?_
      exact hk9 y6 (y4 - y4 / y6 * y6) (x8 + 1) _ _ _ hG hL (lv_sub hl [2, 1, 0] rfl) _ hf
theorem wX10_commonDivisor_9 {p : Program} {l : Launch} {e : Env} {s : State} {m : MethodId} {args : Array Value} {below : List Frame} {meth : Method} {c : Code} {D : va_G} {ca : Nat → ClassId} {H0 : Heap} {M : ah_h} {z : Nat} (K : ah_K p s m args meth c D ca "ShipsThatMeet" cX10_commonDivisor 11 (some .long))   (n : Nat) : ∀ (y4 : Int64) (y6 : Int64) (x8 : Int32)  (H : Heap) (locs : List Loc) (ls : Array Slot), ah_g H0 D ca M z H → ah_L H0 locs → lv_has ls 11 [(4, .long y4), (6, .long y6), (8, .int x8)] → ∀ Z, fX10_commonDivisor_9   M n y4 y6 x8 = some Z → W p l e { frames := 0, cells := 0, slots := 0, locals := 0 } s m args below meth c H locs 0 0 (ah_Q below args s H0 D ca 0 0 (some (.long Z)) M z) (F0 m 9 ls []) := by
  induction n with
  | zero => intro y4 y6 x8 H locs ls hG hL hl Z hf; cases hf
  | succ n ih => exact wX10_commonDivisor_9_b K  _ ih
def fX10_commonDivisor (M : ah_h) (x0 : Int64) (x2 : Int64) : Option (Int64) := fX10_commonDivisor_9 M ah_fu x2 x0 0
set_option maxRecDepth 100000 in
set_option maxHeartbeats 4000000 in
theorem ctX10_commonDivisor (l : Launch) (H0 : Heap) (D : va_G) (ca : Nat → ClassId) (M : ah_h) (z : Nat) (x0 : Int64) (x2 : Int64) (Z : Int64) (hf : fX10_commonDivisor M x0 x2 = some Z) : ah_ct l H0 D ca yX10_commonDivisor cX10_commonDivisor 11 (some .long) 0 0 0 0 [.long x0, .long x2] M z (some (.long Z)) M z := by
  refine ah_of (by decide) (Nat.le_of_ble_eq_true rfl) ?_
  intro p e s m below meth c ls hin K hG hl
  have hL : ah_L H0 [] := ah_L.nil
  have hl : lv_has ls 11 [(0, .long x0), (2, .long x2)] := hl
  unfold fX10_commonDivisor at hf
  refine lv_lload_n K.1 K.2.1 dX10_commonDivisor_0 rfl (lv_at hl 1 rfl) ?_
  refine lv_lstore (lv' := [(4, .long x2), (0, .long x0), (2, .long x2)]) K.1 K.2.1 dX10_commonDivisor_1 hl (by decide) rfl (fun ls hl => ?_)
  refine lv_lload_n K.1 K.2.1 dX10_commonDivisor_3 rfl (lv_at hl 1 rfl) ?_
  refine lv_lstore (lv' := [(6, .long x0), (4, .long x2), (0, .long x0), (2, .long x2)]) K.1 K.2.1 dX10_commonDivisor_4 hl (by decide) rfl (fun ls hl => ?_)
  refine lv_iconst (v := 0) K.1 K.2.1 dX10_commonDivisor_6 (by decide) ?_
  refine lv_istore (lv' := [(8, .int 0), (6, .long x0), (4, .long x2), (0, .long x0), (2, .long x2)]) K.1 K.2.1 dX10_commonDivisor_7 hl (by decide) rfl (fun ls hl => ?_)
  exact wX10_commonDivisor_9 K  ah_fu x2 x0 0 _ _ _ hG hL (lv_sub hl [2, 1, 0] rfl) _ hf
def fX10_nextSeed (M : ah_h) (x0 : Int32) : Option (Int32) := some ((x0 * 1103515245) + 12345)
set_option maxRecDepth 100000 in
set_option maxHeartbeats 4000000 in
theorem ctX10_nextSeed (l : Launch) (H0 : Heap) (D : va_G) (ca : Nat → ClassId) (M : ah_h) (z : Nat) (x0 : Int32) (Z : Int32) (hf : fX10_nextSeed M x0 = some Z) : ah_ct l H0 D ca yX10_nextSeed cX10_nextSeed 1 (some .int) 0 0 0 0 [.int x0] M z (some (.int Z)) M z := by
  refine ah_of (by decide) (Nat.le_of_ble_eq_true rfl) ?_
  intro p e s m below meth c ls hin K hG hl
  have hL : ah_L H0 [] := ah_L.nil
  have hl : lv_has ls 1 [(0, .int x0)] := hl
  unfold fX10_nextSeed at hf
  refine lv_iload_n K.1 K.2.1 dX10_nextSeed_0 rfl (lv_at hl 0 rfl) ?_
  refine lv_ldcw (v := 1103515245) K.1 K.2.1 K.2.2.2.1 (K.2.2.2.2.1 _ q_632) dX10_nextSeed_1 ?_
  refine lv_imul K.1 K.2.1 dX10_nextSeed_4 ?_
  refine lv_sipush (v := 12345) K.1 K.2.1 dX10_nextSeed_5 (by decide) ?_
  refine lv_iadd K.1 K.2.1 dX10_nextSeed_8 ?_
  have hf := Option.some.inj hf
  subst hf
  exact ah_iret K hG hL (Nat.le_refl _) (Nat.le_refl _) dX10_nextSeed_9
def fX10_drawBelow (M : ah_h) (x0 : Int32) (x1 : Int32) : Option (Int32) := if 1 ≤ x0 then (if x0 = 0 then none else some (((x1 &&& 2147483647) / 65536) - ((x1 &&& 2147483647) / 65536) / x0 * x0)) else (some 0)
set_option maxRecDepth 100000 in
set_option maxHeartbeats 4000000 in
theorem ctX10_drawBelow (l : Launch) (H0 : Heap) (D : va_G) (ca : Nat → ClassId) (M : ah_h) (z : Nat) (x0 : Int32) (x1 : Int32) (Z : Int32) (hf : fX10_drawBelow M x0 x1 = some Z) : ah_ct l H0 D ca yX10_drawBelow cX10_drawBelow 2 (some .int) 0 0 0 0 [.int x0, .int x1] M z (some (.int Z)) M z := by
  refine ah_of (by decide) (Nat.le_of_ble_eq_true rfl) ?_
  intro p e s m below meth c ls hin K hG hl
  have hL : ah_L H0 [] := ah_L.nil
  have hl : lv_has ls 2 [(0, .int x0), (1, .int x1)] := hl
  unfold fX10_drawBelow at hf
  refine lv_iload_n K.1 K.2.1 dX10_drawBelow_0 rfl (lv_at hl 0 rfl) ?_
  refine lv_iconst (v := 1) K.1 K.2.1 dX10_drawBelow_1 (by decide) ?_
  refine lv_icmp_ge (tgt := 9) K.1 K.2.1 dX10_drawBelow_2 (by decide) (fun h1 => ?_) (fun h1 => ?_)
  · rw [if_pos h1] at hf
    refine lv_iload_n K.1 K.2.1 dX10_drawBelow_9 rfl (lv_at hl 1 rfl) ?_
    refine lv_ldcw (v := 2147483647) K.1 K.2.1 K.2.2.2.1 (K.2.2.2.2.1 _ q_636) dX10_drawBelow_10 ?_
    refine lv_iand K.1 K.2.1 dX10_drawBelow_13 ?_
    refine lv_ldcw (v := 65536) K.1 K.2.1 K.2.2.2.1 (K.2.2.2.2.1 _ q_637) dX10_drawBelow_14 ?_
    refine lv_idiv K.1 K.2.1 dX10_drawBelow_17 (by decide) ?_
    refine lv_iload_n K.1 K.2.1 dX10_drawBelow_18 rfl (lv_at hl 0 rfl) ?_
    by_cases h3 : x0 = 0
    · rw [if_pos h3] at hf; cases hf
    rw [if_neg h3] at hf
    refine lv_irem K.1 K.2.1 dX10_drawBelow_19 h3 ?_
    have hf := Option.some.inj hf
    subst hf
    exact ah_iret K hG hL (Nat.le_refl _) (Nat.le_refl _) dX10_drawBelow_20
  · rw [if_neg h1] at hf
    refine lv_iconst (v := 0) K.1 K.2.1 dX10_drawBelow_5 (by decide) ?_
    refine lv_goto (tgt := 20) K.1 K.2.1 dX10_drawBelow_6 (by decide) ?_
    have hf := Option.some.inj hf
    subst hf
    exact ah_iret K hG hL (Nat.le_refl _) (Nat.le_refl _) dX10_drawBelow_20
def fX11_init (M : ah_h) (z : Nat) (a0 : Nat) : Option ((ah_h × Nat)) := (ah_pf (ah_up M z (ah_I 73 (fun _ => 0))) a0 11 0 (.ref z)).bind fun M1 => (ah_pf (ah_up M1 (z + 1) (ah_I 73 (fun _ => 0))) a0 11 1 (.ref (z + 1))).bind fun M2 => (ah_pf (ah_up M2 ((z + 1) + 1) (ah_I 73 (fun _ => 0))) a0 11 2 (.ref ((z + 1) + 1))).bind fun M3 => (ah_pf (ah_up M3 (((z + 1) + 1) + 1) (ah_I 73 (fun _ => 0))) a0 11 3 (.ref (((z + 1) + 1) + 1))).bind fun M4 => (ah_pf (ah_up M4 ((((z + 1) + 1) + 1) + 1) (ah_I 8 (fun _ => 0))) a0 11 4 (.ref ((((z + 1) + 1) + 1) + 1))).bind fun M5 => (ah_pf (ah_up M5 (((((z + 1) + 1) + 1) + 1) + 1) (ah_I 8 (fun _ => 0))) a0 11 5 (.ref (((((z + 1) + 1) + 1) + 1) + 1))).bind fun M6 => (ah_pf (ah_up M6 ((((((z + 1) + 1) + 1) + 1) + 1) + 1) (ah_I 8 (fun _ => 0))) a0 11 6 (.ref ((((((z + 1) + 1) + 1) + 1) + 1) + 1))).bind fun M7 => (ah_pf (ah_up M7 (((((((z + 1) + 1) + 1) + 1) + 1) + 1) + 1) (ah_I 800 (fun _ => 0))) a0 11 7 (.ref (((((((z + 1) + 1) + 1) + 1) + 1) + 1) + 1))).bind fun M8 => (ah_pf (ah_up M8 ((((((((z + 1) + 1) + 1) + 1) + 1) + 1) + 1) + 1) (ah_I 8 (fun _ => 0))) a0 11 8 (.ref ((((((((z + 1) + 1) + 1) + 1) + 1) + 1) + 1) + 1))).bind fun M9 => (ah_pf (ah_up M9 (((((((((z + 1) + 1) + 1) + 1) + 1) + 1) + 1) + 1) + 1) (ah_I 8 (fun _ => 0))) a0 11 9 (.ref (((((((((z + 1) + 1) + 1) + 1) + 1) + 1) + 1) + 1) + 1))).bind fun M10 => (ah_pf (ah_up M10 ((((((((((z + 1) + 1) + 1) + 1) + 1) + 1) + 1) + 1) + 1) + 1) (ah_I 3 (fun _ => 0))) a0 11 18 (.ref ((((((((((z + 1) + 1) + 1) + 1) + 1) + 1) + 1) + 1) + 1) + 1))).bind fun M11 => (ah_pf (ah_up M11 (((((((((((z + 1) + 1) + 1) + 1) + 1) + 1) + 1) + 1) + 1) + 1) + 1) (ah_J 5 (fun _ => 0))) a0 11 19 (.ref (((((((((((z + 1) + 1) + 1) + 1) + 1) + 1) + 1) + 1) + 1) + 1) + 1))).bind fun M12 => (ah_pf (ah_up M12 ((((((((((((z + 1) + 1) + 1) + 1) + 1) + 1) + 1) + 1) + 1) + 1) + 1) + 1) (ah_I 365 (fun _ => 0))) a0 11 20 (.ref ((((((((((((z + 1) + 1) + 1) + 1) + 1) + 1) + 1) + 1) + 1) + 1) + 1) + 1))).bind fun M13 => (ah_pf (ah_up M13 (((((((((((((z + 1) + 1) + 1) + 1) + 1) + 1) + 1) + 1) + 1) + 1) + 1) + 1) + 1) (ah_I 12 (fun _ => 0))) a0 11 22 (.ref (((((((((((((z + 1) + 1) + 1) + 1) + 1) + 1) + 1) + 1) + 1) + 1) + 1) + 1) + 1))).bind fun M14 => some (M14, ((((((((((((((z + 1) + 1) + 1) + 1) + 1) + 1) + 1) + 1) + 1) + 1) + 1) + 1) + 1) + 1))
set_option maxRecDepth 100000 in
set_option maxHeartbeats 4000000 in
theorem ctX11_init (l : Launch) (H0 : Heap) (D : va_G) (ca : Nat → ClassId) (M : ah_h) (z : Nat) (a0 : Nat) (Z : (ah_h × Nat)) (hf : fX11_init M z a0 = some Z) : ah_ct l H0 D ca yX11_init cX11_init 1 none 1 20 20 3000 [.ref a0] M z none Z.1 Z.2 := by
  refine ah_of (by decide) (Nat.le_of_ble_eq_true rfl) ?_
  intro p e s m below meth c ls hin K hG hl
  have hL : ah_L H0 [] := ah_L.nil
  have hl : lv_has ls 1 [(0, .ref a0)] := hl
  unfold fX11_init at hf
  refine lv_aload_n K.1 K.2.1 dX11_init_0 rfl (lv_at hl 0 rfl) ?_
  refine W.objInit K.1 K.2.1 K.2.2.2.1 (K.2.2.2.2.1 _ q_883) (K.2.2.2.2.1 _ q_76) (K.2.2.2.2.1 _ q_77) rfl (by rw [K.2.2.1]; exact hl.1) rfl dX11_init_1 (Nat.le_of_ble_eq_true rfl) (Nat.le_of_ble_eq_true rfl) ?_
  refine W.eq (g2 := F0 m 4 ls []) rfl ?_
  refine lv_aload_n K.1 K.2.1 dX11_init_4 rfl (lv_at hl 0 rfl) ?_
  refine lv_bipush (v := 73) K.1 K.2.1 dX11_init_5 (by decide) ?_
  refine ah_newi (N := 73) K hG q_153 (by decide) (by decide) (by decide) (by show _ ≤ 20; omega) (by show _ ≤ 3000; omega) dX11_init_7 (fun H hG => ?_)
  obtain ⟨M1, eM1, hf⟩ := Option.bind_eq_some_iff.mp hf
  refine ah_putF K hG hL eM1 fwX11_9_11 (hin rfl) rfl rfl dX11_init_9 (fun H locs hG hL => ?_)
  refine lv_aload_n K.1 K.2.1 dX11_init_12 rfl (lv_at hl 0 rfl) ?_
  refine lv_bipush (v := 73) K.1 K.2.1 dX11_init_13 (by decide) ?_
  refine ah_newi (N := 73) K hG q_153 (by decide) (by decide) (by decide) (by show _ ≤ 20; omega) (by show _ ≤ 3000; omega) dX11_init_15 (fun H hG => ?_)
  obtain ⟨M2, eM2, hf⟩ := Option.bind_eq_some_iff.mp hf
  refine ah_putF K hG hL eM2 fwX11_13_11 (hin rfl) rfl rfl dX11_init_17 (fun H locs hG hL => ?_)
  refine lv_aload_n K.1 K.2.1 dX11_init_20 rfl (lv_at hl 0 rfl) ?_
  refine lv_bipush (v := 73) K.1 K.2.1 dX11_init_21 (by decide) ?_
  refine ah_newi (N := 73) K hG q_153 (by decide) (by decide) (by decide) (by show _ ≤ 20; omega) (by show _ ≤ 3000; omega) dX11_init_23 (fun H hG => ?_)
  obtain ⟨M3, eM3, hf⟩ := Option.bind_eq_some_iff.mp hf
  refine ah_putF K hG hL eM3 fwX11_16_11 (hin rfl) rfl rfl dX11_init_25 (fun H locs hG hL => ?_)
  refine lv_aload_n K.1 K.2.1 dX11_init_28 rfl (lv_at hl 0 rfl) ?_
  refine lv_bipush (v := 73) K.1 K.2.1 dX11_init_29 (by decide) ?_
  refine ah_newi (N := 73) K hG q_153 (by decide) (by decide) (by decide) (by show _ ≤ 20; omega) (by show _ ≤ 3000; omega) dX11_init_31 (fun H hG => ?_)
  obtain ⟨M4, eM4, hf⟩ := Option.bind_eq_some_iff.mp hf
  refine ah_putF K hG hL eM4 fwX11_19_11 (hin rfl) rfl rfl dX11_init_33 (fun H locs hG hL => ?_)
  refine lv_aload_n K.1 K.2.1 dX11_init_36 rfl (lv_at hl 0 rfl) ?_
  refine lv_bipush (v := 8) K.1 K.2.1 dX11_init_37 (by decide) ?_
  refine ah_newi (N := 8) K hG q_153 (by decide) (by decide) (by decide) (by show _ ≤ 20; omega) (by show _ ≤ 3000; omega) dX11_init_39 (fun H hG => ?_)
  obtain ⟨M5, eM5, hf⟩ := Option.bind_eq_some_iff.mp hf
  refine ah_putF K hG hL eM5 fwX11_22_11 (hin rfl) rfl rfl dX11_init_41 (fun H locs hG hL => ?_)
  refine lv_aload_n K.1 K.2.1 dX11_init_44 rfl (lv_at hl 0 rfl) ?_
  refine lv_bipush (v := 8) K.1 K.2.1 dX11_init_45 (by decide) ?_
  refine ah_newi (N := 8) K hG q_153 (by decide) (by decide) (by decide) (by show _ ≤ 20; omega) (by show _ ≤ 3000; omega) dX11_init_47 (fun H hG => ?_)
  obtain ⟨M6, eM6, hf⟩ := Option.bind_eq_some_iff.mp hf
  refine ah_putF K hG hL eM6 fwX11_25_11 (hin rfl) rfl rfl dX11_init_49 (fun H locs hG hL => ?_)
  refine lv_aload_n K.1 K.2.1 dX11_init_52 rfl (lv_at hl 0 rfl) ?_
  refine lv_bipush (v := 8) K.1 K.2.1 dX11_init_53 (by decide) ?_
  refine ah_newi (N := 8) K hG q_153 (by decide) (by decide) (by decide) (by show _ ≤ 20; omega) (by show _ ≤ 3000; omega) dX11_init_55 (fun H hG => ?_)
  obtain ⟨M7, eM7, hf⟩ := Option.bind_eq_some_iff.mp hf
  refine ah_putF K hG hL eM7 fwX11_28_11 (hin rfl) rfl rfl dX11_init_57 (fun H locs hG hL => ?_)
  refine lv_aload_n K.1 K.2.1 dX11_init_60 rfl (lv_at hl 0 rfl) ?_
  refine lv_sipush (v := 800) K.1 K.2.1 dX11_init_61 (by decide) ?_
  refine ah_newi (N := 800) K hG q_153 (by decide) (by decide) (by decide) (by show _ ≤ 20; omega) (by show _ ≤ 3000; omega) dX11_init_64 (fun H hG => ?_)
  obtain ⟨M8, eM8, hf⟩ := Option.bind_eq_some_iff.mp hf
  refine ah_putF K hG hL eM8 fwX11_31_11 (hin rfl) rfl rfl dX11_init_66 (fun H locs hG hL => ?_)
  refine lv_aload_n K.1 K.2.1 dX11_init_69 rfl (lv_at hl 0 rfl) ?_
  refine lv_bipush (v := 8) K.1 K.2.1 dX11_init_70 (by decide) ?_
  refine ah_newi (N := 8) K hG q_153 (by decide) (by decide) (by decide) (by show _ ≤ 20; omega) (by show _ ≤ 3000; omega) dX11_init_72 (fun H hG => ?_)
  obtain ⟨M9, eM9, hf⟩ := Option.bind_eq_some_iff.mp hf
  refine ah_putF K hG hL eM9 fwX11_34_11 (hin rfl) rfl rfl dX11_init_74 (fun H locs hG hL => ?_)
  refine lv_aload_n K.1 K.2.1 dX11_init_77 rfl (lv_at hl 0 rfl) ?_
  refine lv_bipush (v := 8) K.1 K.2.1 dX11_init_78 (by decide) ?_
  refine ah_newi (N := 8) K hG q_153 (by decide) (by decide) (by decide) (by show _ ≤ 20; omega) (by show _ ≤ 3000; omega) dX11_init_80 (fun H hG => ?_)
  obtain ⟨M10, eM10, hf⟩ := Option.bind_eq_some_iff.mp hf
  refine ah_putF K hG hL eM10 fwX11_37_11 (hin rfl) rfl rfl dX11_init_82 (fun H locs hG hL => ?_)
  refine lv_aload_n K.1 K.2.1 dX11_init_85 rfl (lv_at hl 0 rfl) ?_
  refine lv_iconst (v := 3) K.1 K.2.1 dX11_init_86 (by decide) ?_
  refine ah_newi (N := 3) K hG q_153 (by decide) (by decide) (by decide) (by show _ ≤ 20; omega) (by show _ ≤ 3000; omega) dX11_init_87 (fun H hG => ?_)
  obtain ⟨M11, eM11, hf⟩ := Option.bind_eq_some_iff.mp hf
  refine ah_putF K hG hL eM11 fwX11_40_11 (hin rfl) rfl rfl dX11_init_89 (fun H locs hG hL => ?_)
  refine lv_aload_n K.1 K.2.1 dX11_init_92 rfl (lv_at hl 0 rfl) ?_
  refine lv_iconst (v := 5) K.1 K.2.1 dX11_init_93 (by decide) ?_
  refine ah_newj (N := 5) K hG q_205 (by decide) (by decide) (by decide) (by show _ ≤ 20; omega) (by show _ ≤ 3000; omega) dX11_init_94 (fun H hG => ?_)
  obtain ⟨M12, eM12, hf⟩ := Option.bind_eq_some_iff.mp hf
  refine ah_putF K hG hL eM12 fwX11_43_11 (hin rfl) rfl rfl dX11_init_96 (fun H locs hG hL => ?_)
  refine lv_aload_n K.1 K.2.1 dX11_init_99 rfl (lv_at hl 0 rfl) ?_
  refine lv_sipush (v := 365) K.1 K.2.1 dX11_init_100 (by decide) ?_
  refine ah_newi (N := 365) K hG q_153 (by decide) (by decide) (by decide) (by show _ ≤ 20; omega) (by show _ ≤ 3000; omega) dX11_init_103 (fun H hG => ?_)
  obtain ⟨M13, eM13, hf⟩ := Option.bind_eq_some_iff.mp hf
  refine ah_putF K hG hL eM13 fwX11_47_11 (hin rfl) rfl rfl dX11_init_105 (fun H locs hG hL => ?_)
  refine lv_aload_n K.1 K.2.1 dX11_init_108 rfl (lv_at hl 0 rfl) ?_
  refine lv_bipush (v := 12) K.1 K.2.1 dX11_init_109 (by decide) ?_
  refine ah_newi (N := 12) K hG q_153 (by decide) (by decide) (by decide) (by show _ ≤ 20; omega) (by show _ ≤ 3000; omega) dX11_init_111 (fun H hG => ?_)
  obtain ⟨M14, eM14, hf⟩ := Option.bind_eq_some_iff.mp hf
  refine ah_putF K hG hL eM14 fwX11_50_11 (hin rfl) rfl rfl dX11_init_113 (fun H locs hG hL => ?_)
  have hf := Option.some.inj hf
  subst hf
  exact ah_vret K hG hL (by omega) (by omega) dX11_init_116
def fX11_thrown (M : ah_h) (a0 : Nat) : Option (Int32) := (ah_ob M a0 11).bind fun _ => (ah_gi M a0 11 11).bind fun v1 => some v1
set_option maxRecDepth 100000 in
set_option maxHeartbeats 4000000 in
theorem ctX11_thrown (l : Launch) (H0 : Heap) (D : va_G) (ca : Nat → ClassId) (M : ah_h) (z : Nat) (a0 : Nat) (Z : Int32) (hf : fX11_thrown M a0 = some Z) : ah_ct l H0 D ca yX11_thrown cX11_thrown 1 (some .int) 0 0 0 0 [.ref a0] M z (some (.int Z)) M z := by
  refine ah_of (by decide) (Nat.le_of_ble_eq_true rfl) ?_
  intro p e s m below meth c ls hin K hG hl
  have hL : ah_L H0 [] := ah_L.nil
  have hl : lv_has ls 1 [(0, .ref a0)] := hl
  unfold fX11_thrown at hf
  obtain ⟨-, -, hf⟩ := Option.bind_eq_some_iff.mp hf
  refine lv_aload_n K.1 K.2.1 dX11_thrown_0 rfl (lv_at hl 0 rfl) ?_
  obtain ⟨v1, ev1, hf⟩ := Option.bind_eq_some_iff.mp hf
  refine ah_geti K hG ev1 ffX11_53_11 dX11_thrown_1 ?_
  have hf := Option.some.inj hf
  subst hf
  exact ah_iret K hG hL (Nat.le_refl _) (Nat.le_refl _) dX11_thrown_4
def fX11_isIn (M : ah_h) (x0 : Int64) (x2 : Int64) (x4 : Int64) : Option (Int32) := if (lg_cmp x0 x2) < 0 then (some 0) else (if 0 < (lg_cmp x0 x4) then (some 0) else (some 1))
set_option maxRecDepth 100000 in
set_option maxHeartbeats 4000000 in
theorem ctX11_isIn (l : Launch) (H0 : Heap) (D : va_G) (ca : Nat → ClassId) (M : ah_h) (z : Nat) (x0 : Int64) (x2 : Int64) (x4 : Int64) (Z : Int32) (hf : fX11_isIn M x0 x2 x4 = some Z) : ah_ct l H0 D ca yX11_isIn cX11_isIn 6 (some .boolean) 0 0 0 0 [.long x0, .long x2, .long x4] M z (some (.int Z)) M z := by
  refine ah_of (by decide) (Nat.le_of_ble_eq_true rfl) ?_
  intro p e s m below meth c ls hin K hG hl
  have hL : ah_L H0 [] := ah_L.nil
  have hl : lv_has ls 6 [(0, .long x0), (2, .long x2), (4, .long x4)] := hl
  unfold fX11_isIn at hf
  refine lv_lload_n K.1 K.2.1 dX11_isIn_0 rfl (lv_at hl 0 rfl) ?_
  refine lv_lload_n K.1 K.2.1 dX11_isIn_1 rfl (lv_at hl 1 rfl) ?_
  refine W.lcmp K.1 K.2.1 dX11_isIn_2 ?_
  refine lv_if_lt (tgt := 17) K.1 K.2.1 dX11_isIn_3 (by decide) (fun h1 => ?_) (fun h1 => ?_)
  · rw [if_pos h1] at hf
    refine lv_iconst (v := 0) K.1 K.2.1 dX11_isIn_17 (by decide) ?_
    have hf := Option.some.inj hf
    subst hf
    exact ah_zret K hG hL (Or.inl rfl) (Nat.le_refl _) (Nat.le_refl _) dX11_isIn_18
  · rw [if_neg h1] at hf
    refine lv_lload_n K.1 K.2.1 dX11_isIn_6 rfl (lv_at hl 0 rfl) ?_
    refine lv_lload K.1 K.2.1 dX11_isIn_7 (lv_at hl 2 rfl) ?_
    refine W.lcmp K.1 K.2.1 dX11_isIn_9 ?_
    refine lv_if_gt (tgt := 17) K.1 K.2.1 dX11_isIn_10 (by decide) (fun h2 => ?_) (fun h2 => ?_)
    · rw [if_pos h2] at hf
      refine lv_iconst (v := 0) K.1 K.2.1 dX11_isIn_17 (by decide) ?_
      have hf := Option.some.inj hf
      subst hf
      exact ah_zret K hG hL (Or.inl rfl) (Nat.le_refl _) (Nat.le_refl _) dX11_isIn_18
    · rw [if_neg h2] at hf
      refine lv_iconst (v := 1) K.1 K.2.1 dX11_isIn_13 (by decide) ?_
      refine lv_goto (tgt := 18) K.1 K.2.1 dX11_isIn_14 (by decide) ?_
      have hf := Option.some.inj hf
      subst hf
      exact ah_zret K hG hL (Or.inr rfl) (Nat.le_refl _) (Nat.le_refl _) dX11_isIn_18
def fX11_isShelf (M : ah_h) (x0 : Int32) : Option (Int32) := (fX11_isIn M x0.toInt64 0 7).bind fun v1 => if v1 = 0 ∨ v1 = 1 then some v1 else none
set_option maxRecDepth 100000 in
set_option maxHeartbeats 4000000 in
theorem ctX11_isShelf (l : Launch) (H0 : Heap) (D : va_G) (ca : Nat → ClassId) (M : ah_h) (z : Nat) (x0 : Int32) (Z : Int32) (hf : fX11_isShelf M x0 = some Z) : ah_ct l H0 D ca yX11_isShelf cX11_isShelf 1 (some .boolean) 1 25 0 0 [.int x0] M z (some (.int Z)) M z := by
  refine ah_of (by decide) (Nat.le_of_ble_eq_true rfl) ?_
  intro p e s m below meth c ls hin K hG hl
  have hL : ah_L H0 [] := ah_L.nil
  have hl : lv_has ls 1 [(0, .int x0)] := hl
  unfold fX11_isShelf at hf
  refine lv_iload_n K.1 K.2.1 dX11_isShelf_0 rfl (lv_at hl 0 rfl) ?_
  refine lv_i2l (v := x0.toInt64) K.1 K.2.1 dX11_isShelf_1 rfl ?_
  refine lv_lconst (v := 0) K.1 K.2.1 dX11_isShelf_2 (by decide) ?_
  refine lv_ldc2 (v := 7) K.1 K.2.1 K.2.2.2.1 (K.2.2.2.2.1 _ q_971) dX11_isShelf_3 ?_
  obtain ⟨v1, ev1, hf⟩ := Option.bind_eq_some_iff.mp hf
  refine ah_callS (As := [.long x0.toInt64, .long 0, .long 7]) (rest := []) K hG hL hl.1 (ctX11_isIn l H0 D ca M z x0.toInt64 0 7 v1 ev1) hdX11_isIn q_972 q_973 q_54 q_974 ⟨Nat.le_of_ble_eq_true rfl, Nat.le_of_ble_eq_true rfl⟩ rfl rfl (Nat.le_of_ble_eq_true rfl) ⟨Nat.le_refl _, Nat.le_refl _⟩ dX11_isShelf_6 (fun H locs hG hL => ?_)
  by_cases h2 : v1 = 0 ∨ v1 = 1
  case neg => rw [if_neg h2] at hf; cases hf
  rw [if_pos h2] at hf
  have hf := Option.some.inj hf
  subst hf
  exact ah_zret K hG hL h2 (Nat.le_refl _) (Nat.le_refl _) dX11_isShelf_9
def fX11_isShip (M : ah_h) (a0 : Nat) (x1 : Int32) : Option (Int32) := (ah_ob M a0 11).bind fun _ => (ah_gr M a0 11 0).bind fun v1 => (ah_ai M v1 0).bind fun v2 => (fX11_isIn M x1.toInt64 0 ((v2 - 1).toInt64)).bind fun v3 => if v3 = 0 ∨ v3 = 1 then some v3 else none
set_option maxRecDepth 100000 in
set_option maxHeartbeats 4000000 in
theorem ctX11_isShip (l : Launch) (H0 : Heap) (D : va_G) (ca : Nat → ClassId) (M : ah_h) (z : Nat) (a0 : Nat) (x1 : Int32) (Z : Int32) (hf : fX11_isShip M a0 x1 = some Z) : ah_ct l H0 D ca yX11_isShip cX11_isShip 2 (some .boolean) 1 25 0 0 [.ref a0, .int x1] M z (some (.int Z)) M z := by
  refine ah_of (by decide) (Nat.le_of_ble_eq_true rfl) ?_
  intro p e s m below meth c ls hin K hG hl
  have hL : ah_L H0 [] := ah_L.nil
  have hl : lv_has ls 2 [(0, .ref a0), (1, .int x1)] := hl
  unfold fX11_isShip at hf
  obtain ⟨-, -, hf⟩ := Option.bind_eq_some_iff.mp hf
  refine lv_iload_n K.1 K.2.1 dX11_isShip_0 rfl (lv_at hl 1 rfl) ?_
  refine lv_i2l (v := x1.toInt64) K.1 K.2.1 dX11_isShip_1 rfl ?_
  refine lv_lconst (v := 0) K.1 K.2.1 dX11_isShip_2 (by decide) ?_
  refine lv_aload_n K.1 K.2.1 dX11_isShip_3 rfl (lv_at hl 0 rfl) ?_
  obtain ⟨v1, ev1, hf⟩ := Option.bind_eq_some_iff.mp hf
  refine ah_getr K hG ev1 ffX11_9_11 dX11_isShip_4 ?_
  refine lv_iconst (v := 0) K.1 K.2.1 dX11_isShip_7 (by decide) ?_
  obtain ⟨v2, ev2, hf⟩ := Option.bind_eq_some_iff.mp hf
  refine ah_iald K hG ev2 dX11_isShip_8 ?_
  refine lv_iconst (v := 1) K.1 K.2.1 dX11_isShip_9 (by decide) ?_
  refine lv_isub K.1 K.2.1 dX11_isShip_10 ?_
  refine lv_i2l (v := (v2 - 1).toInt64) K.1 K.2.1 dX11_isShip_11 rfl ?_
  obtain ⟨v3, ev3, hf⟩ := Option.bind_eq_some_iff.mp hf
  refine ah_callS (As := [.long x1.toInt64, .long 0, .long ((v2 - 1).toInt64)]) (rest := []) K hG hL hl.1 (ctX11_isIn l H0 D ca M z x1.toInt64 0 ((v2 - 1).toInt64) v3 ev3) hdX11_isIn q_972 q_973 q_54 q_974 ⟨Nat.le_of_ble_eq_true rfl, Nat.le_of_ble_eq_true rfl⟩ rfl rfl (Nat.le_of_ble_eq_true rfl) ⟨Nat.le_refl _, Nat.le_refl _⟩ dX11_isShip_12 (fun H locs hG hL => ?_)
  by_cases h4 : v3 = 0 ∨ v3 = 1
  case neg => rw [if_neg h4] at hf; cases hf
  rw [if_pos h4] at hf
  have hf := Option.some.inj hf
  subst hf
  exact ah_zret K hG hL h4 (Nat.le_refl _) (Nat.le_refl _) dX11_isShip_15
def fX11_isMan (M : ah_h) (a0 : Nat) (x1 : Int32) : Option (Int32) := (ah_ob M a0 11).bind fun _ => (ah_gr M a0 11 0).bind fun v1 => (ah_ai M v1 1).bind fun v2 => (fX11_isIn M x1.toInt64 0 ((v2 - 1).toInt64)).bind fun v3 => if v3 = 0 ∨ v3 = 1 then some v3 else none
set_option maxRecDepth 100000 in
set_option maxHeartbeats 4000000 in
theorem ctX11_isMan (l : Launch) (H0 : Heap) (D : va_G) (ca : Nat → ClassId) (M : ah_h) (z : Nat) (a0 : Nat) (x1 : Int32) (Z : Int32) (hf : fX11_isMan M a0 x1 = some Z) : ah_ct l H0 D ca yX11_isMan cX11_isMan 2 (some .boolean) 1 25 0 0 [.ref a0, .int x1] M z (some (.int Z)) M z := by
  refine ah_of (by decide) (Nat.le_of_ble_eq_true rfl) ?_
  intro p e s m below meth c ls hin K hG hl
  have hL : ah_L H0 [] := ah_L.nil
  have hl : lv_has ls 2 [(0, .ref a0), (1, .int x1)] := hl
  unfold fX11_isMan at hf
  obtain ⟨-, -, hf⟩ := Option.bind_eq_some_iff.mp hf
  refine lv_iload_n K.1 K.2.1 dX11_isMan_0 rfl (lv_at hl 1 rfl) ?_
  refine lv_i2l (v := x1.toInt64) K.1 K.2.1 dX11_isMan_1 rfl ?_
  refine lv_lconst (v := 0) K.1 K.2.1 dX11_isMan_2 (by decide) ?_
  refine lv_aload_n K.1 K.2.1 dX11_isMan_3 rfl (lv_at hl 0 rfl) ?_
  obtain ⟨v1, ev1, hf⟩ := Option.bind_eq_some_iff.mp hf
  refine ah_getr K hG ev1 ffX11_9_11 dX11_isMan_4 ?_
  refine lv_iconst (v := 1) K.1 K.2.1 dX11_isMan_7 (by decide) ?_
  obtain ⟨v2, ev2, hf⟩ := Option.bind_eq_some_iff.mp hf
  refine ah_iald K hG ev2 dX11_isMan_8 ?_
  refine lv_iconst (v := 1) K.1 K.2.1 dX11_isMan_9 (by decide) ?_
  refine lv_isub K.1 K.2.1 dX11_isMan_10 ?_
  refine lv_i2l (v := (v2 - 1).toInt64) K.1 K.2.1 dX11_isMan_11 rfl ?_
  obtain ⟨v3, ev3, hf⟩ := Option.bind_eq_some_iff.mp hf
  refine ah_callS (As := [.long x1.toInt64, .long 0, .long ((v2 - 1).toInt64)]) (rest := []) K hG hL hl.1 (ctX11_isIn l H0 D ca M z x1.toInt64 0 ((v2 - 1).toInt64) v3 ev3) hdX11_isIn q_972 q_973 q_54 q_974 ⟨Nat.le_of_ble_eq_true rfl, Nat.le_of_ble_eq_true rfl⟩ rfl rfl (Nat.le_of_ble_eq_true rfl) ⟨Nat.le_refl _, Nat.le_refl _⟩ dX11_isMan_12 (fun H locs hG hL => ?_)
  by_cases h4 : v3 = 0 ∨ v3 = 1
  case neg => rw [if_neg h4] at hf; cases hf
  rw [if_pos h4] at hf
  have hf := Option.some.inj hf
  subst hf
  exact ah_zret K hG hL h4 (Nat.le_refl _) (Nat.le_refl _) dX11_isMan_15
