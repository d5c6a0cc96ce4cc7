-- X1_init X1_wages X1_worthOfFailure X2_init X2_become X2_isShip X2_isMan X2_areUnlikeShips X2_canMeet X2_takesShip X2_bring X2_acquaint X2_hasTrade X2_mixedPairs X2_withShipmates X2_setAllCaptains X2_isAstray X2_astray X2_firstAstray X2_shipsWithoutMen X4_init X4_wages X5_init X5_wages X6_init X6_wages X7_init X7_holdsNothing X7_holdsRow X7_holdNothing X7_holdCaptain X7_holdRow X7_hasPlace X7_hasStretch X7_at X7_meetings X7_one
def fX1_init (M : ah_h) (a0 : Nat) (x1 : Int32) (x2 : Int32) : Option (ah_h) := (ah_pc M a0 0 (.int x1)).bind fun M1 => (ah_pc M1 a0 1 (.int x2)).bind fun M2 => some M2
set_option maxRecDepth 100000 in
set_option maxHeartbeats 4000000 in
theorem ctX1_init (l : Launch) (H0 : Heap) (D : va_G) (ca : Nat → ClassId) (M : ah_h) (z : Nat) (a0 : Nat) (x1 : Int32) (x2 : Int32) (Z : ah_h) (hf : fX1_init M a0 x1 x2 = some Z) : ah_ct l H0 D ca yX1_init cX1_init 3 none 1 20 0 0 [.ref a0, .int x1, .int x2] M z none Z z := by
  refine ah_of (by decide) (Nat.le_of_ble_eq_true rfl) ?_
  intro p e s m below meth c ls hin K hG hl
  have hL : ah_L H0 [] := ah_L.nil
  have hl : lv_has ls 3 [(0, .ref a0), (1, .int x1), (2, .int x2)] := hl
  unfold fX1_init at hf
  refine lv_aload_n K.1 K.2.1 dX1_init_0 rfl (lv_at hl 0 rfl) ?_
  refine W.objInit K.1 K.2.1 K.2.2.2.1 (K.2.2.2.2.1 _ q_90) (K.2.2.2.2.1 _ q_76) (K.2.2.2.2.1 _ q_77) rfl (by rw [K.2.2.1]; exact hl.1) rfl dX1_init_1 (Nat.le_of_ble_eq_true rfl) (Nat.le_of_ble_eq_true rfl) ?_
  refine W.eq (g2 := F0 m 4 ls []) rfl ?_
  refine lv_aload_n K.1 K.2.1 dX1_init_4 rfl (lv_at hl 0 rfl) ?_
  refine lv_iload_n K.1 K.2.1 dX1_init_5 rfl (lv_at hl 1 rfl) ?_
  obtain ⟨M1, eM1, hf⟩ := Option.bind_eq_some_iff.mp hf
  refine ah_putC K hG hL eM1 fwX1_9_c (hin rfl) dX1_init_6 (fun H locs hG hL => ?_)
  refine lv_aload_n K.1 K.2.1 dX1_init_9 rfl (lv_at hl 0 rfl) ?_
  refine lv_iload_n K.1 K.2.1 dX1_init_10 rfl (lv_at hl 2 rfl) ?_
  obtain ⟨M2, eM2, hf⟩ := Option.bind_eq_some_iff.mp hf
  refine ah_putC K hG hL eM2 fwX1_15_c (hin rfl) dX1_init_11 (fun H locs hG hL => ?_)
  have hf := Option.some.inj hf
  subst hf
  exact ah_vret K hG hL (Nat.le_refl _) (Nat.le_refl _) dX1_init_14
def fX1_wages (M : ah_h) (a0 : Nat) : Option (Int32) := some 6
set_option maxRecDepth 100000 in
set_option maxHeartbeats 4000000 in
theorem ctX1_wages (l : Launch) (H0 : Heap) (D : va_G) (ca : Nat → ClassId) (M : ah_h) (z : Nat) (a0 : Nat) (Z : Int32) (hf : fX1_wages M a0 = some Z) : ah_ct l H0 D ca yX1_wages cX1_wages 1 (some .int) 0 0 0 0 [.ref a0] M z (some (.int Z)) M z := by
  refine ah_of (by decide) (Nat.le_of_ble_eq_true rfl) ?_
  intro p e s m below meth c ls hin K hG hl
  have hL : ah_L H0 [] := ah_L.nil
  have hl : lv_has ls 1 [(0, .ref a0)] := hl
  unfold fX1_wages at hf
  refine lv_bipush (v := 6) K.1 K.2.1 dX1_wages_0 (by decide) ?_
  have hf := Option.some.inj hf
  subst hf
  exact ah_iret K hG hL (Nat.le_refl _) (Nat.le_refl _) dX1_wages_2
def fX1_worthOfFailure (M : ah_h) (a0 : Nat) : Option (Int32) := (ah_gc M a0 1).bind fun v1 => some v1
set_option maxRecDepth 100000 in
set_option maxHeartbeats 4000000 in
theorem ctX1_worthOfFailure (l : Launch) (H0 : Heap) (D : va_G) (ca : Nat → ClassId) (M : ah_h) (z : Nat) (a0 : Nat) (Z : Int32) (hf : fX1_worthOfFailure M a0 = some Z) : ah_ct l H0 D ca yX1_worthOfFailure cX1_worthOfFailure 1 (some .int) 0 0 0 0 [.ref a0] M z (some (.int Z)) M z := by
  refine ah_of (by decide) (Nat.le_of_ble_eq_true rfl) ?_
  intro p e s m below meth c ls hin K hG hl
  have hL : ah_L H0 [] := ah_L.nil
  have hl : lv_has ls 1 [(0, .ref a0)] := hl
  unfold fX1_worthOfFailure at hf
  refine lv_aload_n K.1 K.2.1 dX1_worthOfFailure_0 rfl (lv_at hl 0 rfl) ?_
  obtain ⟨v1, ev1, hf⟩ := Option.bind_eq_some_iff.mp hf
  refine ah_getc K hG ev1 ffX1_15_c dX1_worthOfFailure_1 ?_
  have hf := Option.some.inj hf
  subst hf
  exact ah_iret K hG hL (Nat.le_refl _) (Nat.le_refl _) dX1_worthOfFailure_4
def fX2_init_24_b   (k24 : ah_h → Nat → Nat → Nat → Int32 → Option ((ah_h × Nat)))  (M : ah_h) (z : Nat) (a0 : Nat) (a1 : Nat) (x2 : Int32) : Option ((ah_h × Nat)) := if 5 ≤ x2 then ((ah_pf (ah_up M z (ah_I 5 (fun _ => 0))) a0 2 4 (.ref z)).bind fun M2 => (ah_pf (ah_up M2 (z + 1) (ah_I 12 (fun _ => 0))) a0 2 5 (.ref (z + 1))).bind fun M3 => (ah_pf (ah_up M3 ((z + 1) + 1) (ah_I 12 (fun _ => 0))) a0 2 6 (.ref ((z + 1) + 1))).bind fun M4 => (ah_pf (ah_up M4 (((z + 1) + 1) + 1) (ah_I 12 (fun _ => 0))) a0 2 7 (.ref (((z + 1) + 1) + 1))).bind fun M5 => (ah_pf (ah_up M5 ((((z + 1) + 1) + 1) + 1) (ah_I 12 (fun _ => 0))) a0 2 8 (.ref ((((z + 1) + 1) + 1) + 1))).bind fun M6 => (ah_pf (ah_up M6 (((((z + 1) + 1) + 1) + 1) + 1) (ah_I 12 (fun _ => 0))) a0 2 9 (.ref (((((z + 1) + 1) + 1) + 1) + 1))).bind fun M7 => some (M7, ((((((z + 1) + 1) + 1) + 1) + 1) + 1))) else ((ah_gr M a0 2 3).bind fun v8 => (ah_oc M a1).bind fun y10 => (ah_sr M v8 2 x2 a1).bind fun M9 => k24 M9 z a0 a1 (x2 + 1))
def fX2_init_24    : Nat → ah_h → Nat → Nat → Nat → Int32 → Option ((ah_h × Nat))
  | 0 => fun _ _ _ _ _ => none
  | n + 1 => fun M z a0 a1 x2 => fX2_init_24_b   (fX2_init_24    n)  M z a0 a1 x2
set_option maxRecDepth 100000 in
set_option maxHeartbeats 4000000 in
theorem wX2_init_24_b {p : Program} {l : Launch} {e : Env} {s : State} {m : MethodId} {args : Array Value} {below : List Frame} {meth : Method} {c : Code} {D : va_G} {ca : Nat → ClassId} {H0 : Heap}  (K : ah_K p s m args meth c D ca "ShipsThatMeet$Fleet" cX2_init 3 none) (hin : "<init>" = "<init>" → meth.name = "<init>")   {n24 : Nat} (k24 : ah_h → Nat → Nat → Nat → Int32 → Option ((ah_h × Nat))) (hk24 : ∀ (M : ah_h) (z : Nat) (a0 : Nat) (a1 : Nat) (x2 : Int32) (cells slots : Nat), cells + n24 * 0 ≤ 2 → slots + n24 * 0 ≤ 7 → ∀ (H : Heap) (locs : List Loc) (ls : Array Slot), ah_g H0 D ca M z H → ah_L H0 locs → lv_has ls 3 [(0, .ref a0), (1, .ref a1), (2, .int x2)] → ∀ Z, k24 M z a0 a1 x2 = some Z → W p l e { frames := 2, cells := 8, slots := 80, locals := 42 } s m args below meth c H locs cells slots (ah_Q below args s H0 D ca 8 80 none Z.1 Z.2) (F0 m 24 ls [])) : ∀ (M : ah_h) (z : Nat) (a0 : Nat) (a1 : Nat) (x2 : Int32) (cells slots : Nat), cells + (n24 + 1) * 0 ≤ 2 → slots + (n24 + 1) * 0 ≤ 7 → ∀ (H : Heap) (locs : List Loc) (ls : Array Slot), ah_g H0 D ca M z H → ah_L H0 locs → lv_has ls 3 [(0, .ref a0), (1, .ref a1), (2, .int x2)] → ∀ Z, fX2_init_24_b   k24  M z a0 a1 x2 = some Z → W p l e { frames := 2, cells := 8, slots := 80, locals := 42 } s m args below meth c H locs cells slots (ah_Q below args s H0 D ca 8 80 none Z.1 Z.2) (F0 m 24 ls []) := by
  intro M z a0 a1 x2 cells slots hc hs H locs ls hG hL hl Z hf
  unfold fX2_init_24_b at hf
  refine lv_iload_n K.1 K.2.1 dX2_init_24 rfl (lv_at hl 2 rfl) ?_
  refine lv_iconst (v := 5) K.1 K.2.1 dX2_init_25 (by decide) ?_
  refine lv_icmp_ge (tgt := 42) K.1 K.2.1 dX2_init_26 (by decide) (fun h1 => ?_) (fun h1 => ?_)
  · rw [if_pos h1] at hf
    refine lv_aload_n K.1 K.2.1 dX2_init_42 rfl (lv_at hl 0 rfl) ?_
    refine lv_iconst (v := 5) K.1 K.2.1 dX2_init_43 (by decide) ?_
    refine ah_newi (N := 5) K hG q_153 (by decide) (by decide) (by decide) (by show _ ≤ 8; omega) (by show _ ≤ 80; omega) dX2_init_44 (fun H hG => ?_)
    obtain ⟨M2, eM2, hf⟩ := Option.bind_eq_some_iff.mp hf
    refine ah_putF K hG hL eM2 fwX2_20_2 (hin rfl) rfl rfl dX2_init_46 (fun H locs hG hL => ?_)
    refine lv_aload_n K.1 K.2.1 dX2_init_49 rfl (lv_at hl 0 rfl) ?_
    refine lv_bipush (v := 12) K.1 K.2.1 dX2_init_50 (by decide) ?_
    refine ah_newi (N := 12) K hG q_153 (by decide) (by decide) (by decide) (by show _ ≤ 8; omega) (by show _ ≤ 80; omega) dX2_init_52 (fun H hG => ?_)
    obtain ⟨M3, eM3, hf⟩ := Option.bind_eq_some_iff.mp hf
    refine ah_putF K hG hL eM3 fwX2_24_2 (hin rfl) rfl rfl dX2_init_54 (fun H locs hG hL => ?_)
    refine lv_aload_n K.1 K.2.1 dX2_init_57 rfl (lv_at hl 0 rfl) ?_
    refine lv_bipush (v := 12) K.1 K.2.1 dX2_init_58 (by decide) ?_
    refine ah_newi (N := 12) K hG q_153 (by decide) (by decide) (by decide) (by show _ ≤ 8; omega) (by show _ ≤ 80; omega) dX2_init_60 (fun H hG => ?_)
    obtain ⟨M4, eM4, hf⟩ := Option.bind_eq_some_iff.mp hf
    refine ah_putF K hG hL eM4 fwX2_27_2 (hin rfl) rfl rfl dX2_init_62 (fun H locs hG hL => ?_)
    refine lv_aload_n K.1 K.2.1 dX2_init_65 rfl (lv_at hl 0 rfl) ?_
    refine lv_bipush (v := 12) K.1 K.2.1 dX2_init_66 (by decide) ?_
    refine ah_newi (N := 12) K hG q_153 (by decide) (by decide) (by decide) (by show _ ≤ 8; omega) (by show _ ≤ 80; omega) dX2_init_68 (fun H hG => ?_)
    obtain ⟨M5, eM5, hf⟩ := Option.bind_eq_some_iff.mp hf
    refine ah_putF K hG hL eM5 fwX2_30_2 (hin rfl) rfl rfl dX2_init_70 (fun H locs hG hL => ?_)
    refine lv_aload_n K.1 K.2.1 dX2_init_73 rfl (lv_at hl 0 rfl) ?_
    refine lv_bipush (v := 12) K.1 K.2.1 dX2_init_74 (by decide) ?_
    refine ah_newi (N := 12) K hG q_153 (by decide) (by decide) (by decide) (by show _ ≤ 8; omega) (by show _ ≤ 80; omega) dX2_init_76 (fun H hG => ?_)
    obtain ⟨M6, eM6, hf⟩ := Option.bind_eq_some_iff.mp hf
    refine ah_putF K hG hL eM6 fwX2_33_2 (hin rfl) rfl rfl dX2_init_78 (fun H locs hG hL => ?_)
    refine lv_aload_n K.1 K.2.1 dX2_init_81 rfl (lv_at hl 0 rfl) ?_
    refine lv_bipush (v := 12) K.1 K.2.1 dX2_init_82 (by decide) ?_
    refine ah_newi (N := 12) K hG q_153 (by decide) (by decide) (by decide) (by show _ ≤ 8; omega) (by show _ ≤ 80; omega) dX2_init_84 (fun H hG => ?_)
    obtain ⟨M7, eM7, hf⟩ := Option.bind_eq_some_iff.mp hf
    refine ah_putF K hG hL eM7 fwX2_36_2 (hin rfl) rfl rfl dX2_init_86 (fun H locs hG hL => ?_)
    have hf := Option.some.inj hf
    subst hf
    exact ah_vret K hG hL (by omega) (by omega) dX2_init_89
  · rw [if_neg h1] at hf
    refine lv_aload_n K.1 K.2.1 dX2_init_29 rfl (lv_at hl 0 rfl) ?_
    obtain ⟨v8, ev8, hf⟩ := Option.bind_eq_some_iff.mp hf
    refine ah_getr K hG ev8 ffX2_11_2 dX2_init_30 ?_
    refine lv_iload_n K.1 K.2.1 dX2_init_33 rfl (lv_at hl 2 rfl) ?_
    refine lv_aload_n K.1 K.2.1 dX2_init_34 rfl (lv_at hl 1 rfl) ?_
    obtain ⟨y10, ey10, hf⟩ := Option.bind_eq_some_iff.mp hf
    obtain ⟨M9, eM9, hf⟩ := Option.bind_eq_some_iff.mp hf
    refine ah_aast (t := 2) K hG hL eM9 rfl (ah_anyC K hG ey10) dX2_init_35 (fun H locs hG hL => ?_)
    refine lv_iinc (v := x2 + 1) (lv' := [(2, .int (x2 + 1)), (0, .ref a0), (1, .ref a1)]) K.1 K.2.1 dX2_init_36 hl (k := 2) rfl rfl (by decide) rfl (fun ls hl => ?_)
    refine lv_goto (tgt := 24) K.1 K.2.1 dX2_init_39 (by decide) ?_
    exact hk24 M9 z a0 a1 (x2 + 1) _ _ (by omega) (by omega) _ _ _ hG hL (lv_sub hl [1, 2, 0] rfl) _ hf
theorem wX2_init_24 {p : Program} {l : Launch} {e : Env} {s : State} {m : MethodId} {args : Array Value} {below : List Frame} {meth : Method} {c : Code} {D : va_G} {ca : Nat → ClassId} {H0 : Heap}  (K : ah_K p s m args meth c D ca "ShipsThatMeet$Fleet" cX2_init 3 none) (hin : "<init>" = "<init>" → meth.name = "<init>")   (n : Nat) : ∀ (M : ah_h) (z : Nat) (a0 : Nat) (a1 : Nat) (x2 : Int32) (cells slots : Nat), cells + n * 0 ≤ 2 → slots + n * 0 ≤ 7 → ∀ (H : Heap) (locs : List Loc) (ls : Array Slot), ah_g H0 D ca M z H → ah_L H0 locs → lv_has ls 3 [(0, .ref a0), (1, .ref a1), (2, .int x2)] → ∀ Z, fX2_init_24    n M z a0 a1 x2 = some Z → W p l e { frames := 2, cells := 8, slots := 80, locals := 42 } s m args below meth c H locs cells slots (ah_Q below args s H0 D ca 8 80 none Z.1 Z.2) (F0 m 24 ls []) := by
  induction n with
  | zero => intro M z a0 a1 x2 cells slots hc hs H locs ls hG hL hl Z hf; cases hf
  | succ n ih => exact wX2_init_24_b K hin  _ ih
def fX2_init (M : ah_h) (z : Nat) (a0 : Nat) : Option ((ah_h × Nat)) := (ah_pf (ah_up M z (ah_R 2 5 (fun _ => none))) a0 2 3 (.ref z)).bind fun M1 => (fX1_init (ah_up M1 (z + 1) (ah_O 1 [.int 0, .int 0])) (z + 1) 0 0).bind fun v2 => fX2_init_24 ah_fu v2 ((z + 1) + 1) a0 (z + 1) 0
set_option maxRecDepth 100000 in
set_option maxHeartbeats 4000000 in
theorem ctX2_init (l : Launch) (H0 : Heap) (D : va_G) (ca : Nat → ClassId) (M : ah_h) (z : Nat) (a0 : Nat) (Z : (ah_h × Nat)) (hf : fX2_init M z a0 = some Z) : ah_ct l H0 D ca yX2_init cX2_init 3 none 2 42 8 80 [.ref a0] M z none Z.1 Z.2 := by
  refine ah_of (by decide) (Nat.le_of_ble_eq_true rfl) ?_
  intro p e s m below meth c ls hin K hG hl
  have hL : ah_L H0 [] := ah_L.nil
  have hl : lv_has ls 3 [(0, .ref a0)] := hl
  unfold fX2_init at hf
  refine lv_aload_n K.1 K.2.1 dX2_init_0 rfl (lv_at hl 0 rfl) ?_
  refine W.objInit K.1 K.2.1 K.2.2.2.1 (K.2.2.2.2.1 _ q_83) (K.2.2.2.2.1 _ q_76) (K.2.2.2.2.1 _ q_77) rfl (by rw [K.2.2.1]; exact hl.1) rfl dX2_init_1 (Nat.le_of_ble_eq_true rfl) (Nat.le_of_ble_eq_true rfl) ?_
  refine W.eq (g2 := F0 m 4 ls []) rfl ?_
  refine lv_aload_n K.1 K.2.1 dX2_init_4 rfl (lv_at hl 0 rfl) ?_
  refine lv_iconst (v := 5) K.1 K.2.1 dX2_init_5 (by decide) ?_
  refine ah_newr (C := "ShipsThatMeet$Captain") (t := 2) (N := 5) K hG K.2.2.2.2.2.1.2.2.2.1 rfl q_84 (by decide) (by decide) (by decide) (by show _ ≤ 8; omega) (by show _ ≤ 80; omega) dX2_init_6 (fun H hG => ?_)
  obtain ⟨M1, eM1, hf⟩ := Option.bind_eq_some_iff.mp hf
  refine ah_putF K hG hL eM1 fwX2_11_2 (hin rfl) rfl rfl dX2_init_9 (fun H locs hG hL => ?_)
  refine ah_new (ci := 1) (C := "ShipsThatMeet$Captain") (T := TX1) (N := 2) K hG tyX1 rfl tyX1_ok inX1 q_84 q_86 q_52 [.int 0, .int 0] (fun j hj => by rcases (show j = 0 ∨ j = 1 by omega) with rfl | rfl <;> rfl) (by show _ ≤ 8; omega) (by show _ ≤ 80; omega) dX2_init_12 (fun H hG => ?_)
  refine lv_dup K.1 K.2.1 dX2_init_15 rfl ?_
  refine lv_iconst (v := 0) K.1 K.2.1 dX2_init_16 (by decide) ?_
  refine lv_iconst (v := 0) K.1 K.2.1 dX2_init_17 (by decide) ?_
  obtain ⟨v2, ev2, hf⟩ := Option.bind_eq_some_iff.mp hf
  refine ah_callI (As := [.int 0, .int 0]) (rest := [.ref (z + 1)]) K hG hL hl.1 (ctX1_init l H0 D ca (ah_up M1 (z + 1) (ah_O 1 [.int 0, .int 0])) ((z + 1) + 1) (z + 1) 0 0 v2 ev2) rfl hdX1_init q_87 q_88 q_52 q_89 ⟨Nat.le_of_ble_eq_true rfl, Nat.le_of_ble_eq_true rfl⟩ rfl rfl (Nat.le_of_ble_eq_true rfl) ⟨by show _ ≤ 8; omega, by show _ ≤ 80; omega⟩ dX2_init_18 (fun H locs hG hL => ?_)
  refine lv_astore_n (lv' := [(1, .ref (z + 1)), (0, .ref a0)]) K.1 K.2.1 dX2_init_21 rfl hl (by decide) rfl (fun ls hl => ?_)
  refine lv_iconst (v := 0) K.1 K.2.1 dX2_init_22 (by decide) ?_
  refine lv_istore_n (lv' := [(2, .int 0), (1, .ref (z + 1)), (0, .ref a0)]) K.1 K.2.1 dX2_init_23 rfl hl (by decide) rfl (fun ls hl => ?_)
  exact wX2_init_24 K hin  ah_fu v2 ((z + 1) + 1) a0 (z + 1) 0 _ _ (by unfold ah_fu; omega) (by unfold ah_fu; omega) _ _ _ hG hL (lv_sub hl [2, 1, 0] rfl) _ hf
def fX2_become_63_b   (k63 : ah_h → Nat → Nat → Int32 → Option (ah_h))  (M : ah_h) (a0 : Nat) (a1 : Nat) (x2 : Int32) : Option (ah_h) := if 12 ≤ x2 then (some M) else ((ah_gr M a0 2 5).bind fun v2 => (ah_gr M a1 2 5).bind fun v3 => (ah_ai M v3 x2).bind fun v4 => (ah_si M v2 x2 v4).bind fun M5 => (ah_gr M5 a0 2 6).bind fun v6 => (ah_gr M5 a1 2 6).bind fun v7 => (ah_ai M5 v7 x2).bind fun v8 => (ah_si M5 v6 x2 v8).bind fun M9 => (ah_gr M9 a0 2 7).bind fun v10 => (ah_gr M9 a1 2 7).bind fun v11 => (ah_ai M9 v11 x2).bind fun v12 => (ah_si M9 v10 x2 v12).bind fun M13 => (ah_gr M13 a0 2 8).bind fun v14 => (ah_gr M13 a1 2 8).bind fun v15 => (ah_ai M13 v15 x2).bind fun v16 => (ah_si M13 v14 x2 v16).bind fun M17 => (ah_gr M17 a0 2 9).bind fun v18 => (ah_gr M17 a1 2 9).bind fun v19 => (ah_ai M17 v19 x2).bind fun v20 => (ah_si M17 v18 x2 v20).bind fun M21 => k63 M21 a0 a1 (x2 + 1))
def fX2_become_63    : Nat → ah_h → Nat → Nat → Int32 → Option (ah_h)
  | 0 => fun _ _ _ _ => none
  | n + 1 => fun M a0 a1 x2 => fX2_become_63_b   (fX2_become_63    n)  M a0 a1 x2
set_option maxRecDepth 100000 in
set_option maxHeartbeats 4000000 in
theorem wX2_become_63_b {p : Program} {l : Launch} {e : Env} {s : State} {m : MethodId} {args : Array Value} {below : List Frame} {meth : Method} {c : Code} {D : va_G} {ca : Nat → ClassId} {H0 : Heap} {z : Nat} (K : ah_K p s m args meth c D ca "ShipsThatMeet$Fleet" cX2_become 3 none)   (k63 : ah_h → Nat → Nat → Int32 → Option (ah_h)) (hk63 : ∀ (M : ah_h) (a0 : Nat) (a1 : Nat) (x2 : Int32)  (H : Heap) (locs : List Loc) (ls : Array Slot), ah_g H0 D ca M z H → ah_L H0 locs → lv_has ls 3 [(0, .ref a0), (1, .ref a1), (2, .int x2)] → ∀ Z, k63 M a0 a1 x2 = some Z → W p l e { frames := 0, cells := 0, slots := 0, locals := 0 } s m args below meth c H locs 0 0 (ah_Q below args s H0 D ca 0 0 none Z z) (F0 m 63 ls [])) : ∀ (M : ah_h) (a0 : Nat) (a1 : Nat) (x2 : Int32)  (H : Heap) (locs : List Loc) (ls : Array Slot), ah_g H0 D ca M z H → ah_L H0 locs → lv_has ls 3 [(0, .ref a0), (1, .ref a1), (2, .int x2)] → ∀ Z, fX2_become_63_b   k63  M a0 a1 x2 = some Z → W p l e { frames := 0, cells := 0, slots := 0, locals := 0 } s m args below meth c H locs 0 0 (ah_Q below args s H0 D ca 0 0 none Z z) (F0 m 63 ls []) := by
  intro M a0 a1 x2 H locs ls hG hL hl Z hf
  unfold fX2_become_63_b at hf
  refine lv_iload_n K.1 K.2.1 dX2_become_63 rfl (lv_at hl 2 rfl) ?_
  refine lv_bipush (v := 12) K.1 K.2.1 dX2_become_64 (by decide) ?_
  refine lv_icmp_ge (tgt := 135) K.1 K.2.1 dX2_become_66 (by decide) (fun h1 => ?_) (fun h1 => ?_)
  · rw [if_pos h1] at hf
    have hf := Option.some.inj hf
    subst hf
    exact ah_vret K hG hL (Nat.le_refl _) (Nat.le_refl _) dX2_become_135
  · rw [if_neg h1] at hf
    refine lv_aload_n K.1 K.2.1 dX2_become_69 rfl (lv_at hl 0 rfl) ?_
    obtain ⟨v2, ev2, hf⟩ := Option.bind_eq_some_iff.mp hf
    refine ah_getr K hG ev2 ffX2_24_2 dX2_become_70 ?_
    refine lv_iload_n K.1 K.2.1 dX2_become_73 rfl (lv_at hl 2 rfl) ?_
    refine lv_aload_n K.1 K.2.1 dX2_become_74 rfl (lv_at hl 1 rfl) ?_
    obtain ⟨v3, ev3, hf⟩ := Option.bind_eq_some_iff.mp hf
    refine ah_getr K hG ev3 ffX2_24_2 dX2_become_75 ?_
    refine lv_iload_n K.1 K.2.1 dX2_become_78 rfl (lv_at hl 2 rfl) ?_
    obtain ⟨v4, ev4, hf⟩ := Option.bind_eq_some_iff.mp hf
    refine ah_iald K hG ev4 dX2_become_79 ?_
    obtain ⟨M5, eM5, hf⟩ := Option.bind_eq_some_iff.mp hf
    refine ah_iast K hG hL eM5 dX2_become_80 (fun H locs hG hL => ?_)
    refine lv_aload_n K.1 K.2.1 dX2_become_81 rfl (lv_at hl 0 rfl) ?_
    obtain ⟨v6, ev6, hf⟩ := Option.bind_eq_some_iff.mp hf
    refine ah_getr K hG ev6 ffX2_27_2 dX2_become_82 ?_
    refine lv_iload_n K.1 K.2.1 dX2_become_85 rfl (lv_at hl 2 rfl) ?_
    refine lv_aload_n K.1 K.2.1 dX2_become_86 rfl (lv_at hl 1 rfl) ?_
    obtain ⟨v7, ev7, hf⟩ := Option.bind_eq_some_iff.mp hf
    refine ah_getr K hG ev7 ffX2_27_2 dX2_become_87 ?_
    refine lv_iload_n K.1 K.2.1 dX2_become_90 rfl (lv_at hl 2 rfl) ?_
    obtain ⟨v8, ev8, hf⟩ := Option.bind_eq_some_iff.mp hf
    refine ah_iald K hG ev8 dX2_become_91 ?_
    obtain ⟨M9, eM9, hf⟩ := Option.bind_eq_some_iff.mp hf
    refine ah_iast K hG hL eM9 dX2_become_92 (fun H locs hG hL => ?_)
    refine lv_aload_n K.1 K.2.1 dX2_become_93 rfl (lv_at hl 0 rfl) ?_
    obtain ⟨v10, ev10, hf⟩ := Option.bind_eq_some_iff.mp hf
    refine ah_getr K hG ev10 ffX2_30_2 dX2_become_94 ?_
    refine lv_iload_n K.1 K.2.1 dX2_become_97 rfl (lv_at hl 2 rfl) ?_
    refine lv_aload_n K.1 K.2.1 dX2_become_98 rfl (lv_at hl 1 rfl) ?_
    obtain ⟨v11, ev11, hf⟩ := Option.bind_eq_some_iff.mp hf
    refine ah_getr K hG ev11 ffX2_30_2 dX2_become_99 ?_
    refine lv_iload_n K.1 K.2.1 dX2_become_102 rfl (lv_at hl 2 rfl) ?_
    obtain ⟨v12, ev12, hf⟩ := Option.bind_eq_some_iff.mp hf
    refine ah_iald K hG ev12 dX2_become_103 ?_
    obtain ⟨M13, eM13, hf⟩ := Option.bind_eq_some_iff.mp hf
    refine ah_iast K hG hL eM13 dX2_become_104 (fun H locs hG hL => ?_)
    refine lv_aload_n K.1 K.2.1 dX2_become_105 rfl (lv_at hl 0 rfl) ?_
    obtain ⟨v14, ev14, hf⟩ := Option.bind_eq_some_iff.mp hf
    refine ah_getr K hG ev14 ffX2_33_2 dX2_become_106 ?_
    refine lv_iload_n K.1 K.2.1 dX2_become_109 rfl (lv_at hl 2 rfl) ?_
    refine lv_aload_n K.1 K.2.1 dX2_become_110 rfl (lv_at hl 1 rfl) ?_
    obtain ⟨v15, ev15, hf⟩ := Option.bind_eq_some_iff.mp hf
    refine ah_getr K hG ev15 ffX2_33_2 dX2_become_111 ?_
    refine lv_iload_n K.1 K.2.1 dX2_become_114 rfl (lv_at hl 2 rfl) ?_
    obtain ⟨v16, ev16, hf⟩ := Option.bind_eq_some_iff.mp hf
    refine ah_iald K hG ev16 dX2_become_115 ?_
    obtain ⟨M17, eM17, hf⟩ := Option.bind_eq_some_iff.mp hf
    refine ah_iast K hG hL eM17 dX2_become_116 (fun H locs hG hL => ?_)
    refine lv_aload_n K.1 K.2.1 dX2_become_117 rfl (lv_at hl 0 rfl) ?_
    obtain ⟨v18, ev18, hf⟩ := Option.bind_eq_some_iff.mp hf
    refine ah_getr K hG ev18 ffX2_36_2 dX2_become_118 ?_
    refine lv_iload_n K.1 K.2.1 dX2_become_121 rfl (lv_at hl 2 rfl) ?_
    refine lv_aload_n K.1 K.2.1 dX2_become_122 rfl (lv_at hl 1 rfl) ?_
    obtain ⟨v19, ev19, hf⟩ := Option.bind_eq_some_iff.mp hf
    refine ah_getr K hG ev19 ffX2_36_2 dX2_become_123 ?_
    refine lv_iload_n K.1 K.2.1 dX2_become_126 rfl (lv_at hl 2 rfl) ?_
    obtain ⟨v20, ev20, hf⟩ := Option.bind_eq_some_iff.mp hf
    refine ah_iald K hG ev20 dX2_become_127 ?_
    obtain ⟨M21, eM21, hf⟩ := Option.bind_eq_some_iff.mp hf
    refine ah_iast K hG hL eM21 dX2_become_128 (fun H locs hG hL => ?_)
    refine lv_iinc (v := x2 + 1) (lv' := [(2, .int (x2 + 1)), (0, .ref a0), (1, .ref a1)]) K.1 K.2.1 dX2_become_129 hl (k := 2) rfl rfl (by decide) rfl (fun ls hl => ?_)
    refine lv_goto (tgt := 63) K.1 K.2.1 dX2_become_132 (by decide) ?_
    exact hk63 M21 a0 a1 (x2 + 1) _ _ _ hG hL (lv_sub hl [1, 2, 0] rfl) _ hf
theorem wX2_become_63 {p : Program} {l : Launch} {e : Env} {s : State} {m : MethodId} {args : Array Value} {below : List Frame} {meth : Method} {c : Code} {D : va_G} {ca : Nat → ClassId} {H0 : Heap} {z : Nat} (K : ah_K p s m args meth c D ca "ShipsThatMeet$Fleet" cX2_become 3 none)   (n : Nat) : ∀ (M : ah_h) (a0 : Nat) (a1 : Nat) (x2 : Int32)  (H : Heap) (locs : List Loc) (ls : Array Slot), ah_g H0 D ca M z H → ah_L H0 locs → lv_has ls 3 [(0, .ref a0), (1, .ref a1), (2, .int x2)] → ∀ Z, fX2_become_63    n M a0 a1 x2 = some Z → W p l e { frames := 0, cells := 0, slots := 0, locals := 0 } s m args below meth c H locs 0 0 (ah_Q below args s H0 D ca 0 0 none Z z) (F0 m 63 ls []) := by
  induction n with
  | zero => intro M a0 a1 x2 H locs ls hG hL hl Z hf; cases hf
  | succ n ih => exact wX2_become_63_b K  _ ih
def fX2_become_26_b   (k26 : ah_h → Nat → Nat → Int32 → Option (ah_h))  (M : ah_h) (a0 : Nat) (a1 : Nat) (x2 : Int32) : Option (ah_h) := if 5 ≤ x2 then (fX2_become_63 ah_fu M a0 a1 0) else ((ah_gr M a0 2 3).bind fun v2 => (ah_gr M a1 2 3).bind fun v3 => (ah_ar M v3 2 x2).bind fun v4 => (ah_oc M v4).bind fun y6 => (ah_sr M v2 2 x2 v4).bind fun M5 => (ah_gr M5 a0 2 4).bind fun v7 => (ah_gr M5 a1 2 4).bind fun v8 => (ah_ai M5 v8 x2).bind fun v9 => (ah_si M5 v7 x2 v9).bind fun M10 => k26 M10 a0 a1 (x2 + 1))
def fX2_become_26    : Nat → ah_h → Nat → Nat → Int32 → Option (ah_h)
  | 0 => fun _ _ _ _ => none
  | n + 1 => fun M a0 a1 x2 => fX2_become_26_b   (fX2_become_26    n)  M a0 a1 x2
set_option maxRecDepth 100000 in
set_option maxHeartbeats 4000000 in
theorem wX2_become_26_b {p : Program} {l : Launch} {e : Env} {s : State} {m : MethodId} {args : Array Value} {below : List Frame} {meth : Method} {c : Code} {D : va_G} {ca : Nat → ClassId} {H0 : Heap} {z : Nat} (K : ah_K p s m args meth c D ca "ShipsThatMeet$Fleet" cX2_become 3 none)   (k26 : ah_h → Nat → Nat → Int32 → Option (ah_h)) (hk26 : ∀ (M : ah_h) (a0 : Nat) (a1 : Nat) (x2 : Int32)  (H : Heap) (locs : List Loc) (ls : Array Slot), ah_g H0 D ca M z H → ah_L H0 locs → lv_has ls 3 [(0, .ref a0), (1, .ref a1), (2, .int x2)] → ∀ Z, k26 M a0 a1 x2 = some Z → W p l e { frames := 0, cells := 0, slots := 0, locals := 0 } s m args below meth c H locs 0 0 (ah_Q below args s H0 D ca 0 0 none Z z) (F0 m 26 ls [])) : ∀ (M : ah_h) (a0 : Nat) (a1 : Nat) (x2 : Int32)  (H : Heap) (locs : List Loc) (ls : Array Slot), ah_g H0 D ca M z H → ah_L H0 locs → lv_has ls 3 [(0, .ref a0), (1, .ref a1), (2, .int x2)] → ∀ Z, fX2_become_26_b   k26  M a0 a1 x2 = some Z → W p l e { frames := 0, cells := 0, slots := 0, locals := 0 } s m args below meth c H locs 0 0 (ah_Q below args s H0 D ca 0 0 none Z z) (F0 m 26 ls []) := by
  intro M a0 a1 x2 H locs ls hG hL hl Z hf
  unfold fX2_become_26_b at hf
  refine lv_iload_n K.1 K.2.1 dX2_become_26 rfl (lv_at hl 2 rfl) ?_
  refine lv_iconst (v := 5) K.1 K.2.1 dX2_become_27 (by decide) ?_
  refine lv_icmp_ge (tgt := 61) K.1 K.2.1 dX2_become_28 (by decide) (fun h1 => ?_) (fun h1 => ?_)
  · rw [if_pos h1] at hf
    refine lv_iconst (v := 0) K.1 K.2.1 dX2_become_61 (by decide) ?_
    refine lv_istore_n (lv' := [(2, .int 0), (0, .ref a0), (1, .ref a1)]) K.1 K.2.1 dX2_become_62 rfl hl (by decide) rfl (fun ls hl => ?_)
    exact wX2_become_63 K  ah_fu M a0 a1 0 _ _ _ hG hL (lv_sub hl [1, 2, 0] rfl) _ hf
  · rw [if_neg h1] at hf
    refine lv_aload_n K.1 K.2.1 dX2_become_31 rfl (lv_at hl 0 rfl) ?_
    obtain ⟨v2, ev2, hf⟩ := Option.bind_eq_some_iff.mp hf
    refine ah_getr K hG ev2 ffX2_11_2 dX2_become_32 ?_
    refine lv_iload_n K.1 K.2.1 dX2_become_35 rfl (lv_at hl 2 rfl) ?_
    refine lv_aload_n K.1 K.2.1 dX2_become_36 rfl (lv_at hl 1 rfl) ?_
    obtain ⟨v3, ev3, hf⟩ := Option.bind_eq_some_iff.mp hf
    refine ah_getr K hG ev3 ffX2_11_2 dX2_become_37 ?_
    refine lv_iload_n K.1 K.2.1 dX2_become_40 rfl (lv_at hl 2 rfl) ?_
    obtain ⟨v4, ev4, hf⟩ := Option.bind_eq_some_iff.mp hf
    refine ah_aald (t := 2) K hG ev4 rfl rfl dX2_become_41 ?_
    obtain ⟨y6, ey6, hf⟩ := Option.bind_eq_some_iff.mp hf
    obtain ⟨M5, eM5, hf⟩ := Option.bind_eq_some_iff.mp hf
    refine ah_aast (t := 2) K hG hL eM5 rfl (ah_anyC K hG ey6) dX2_become_42 (fun H locs hG hL => ?_)
    refine lv_aload_n K.1 K.2.1 dX2_become_43 rfl (lv_at hl 0 rfl) ?_
    obtain ⟨v7, ev7, hf⟩ := Option.bind_eq_some_iff.mp hf
    refine ah_getr K hG ev7 ffX2_20_2 dX2_become_44 ?_
    refine lv_iload_n K.1 K.2.1 dX2_become_47 rfl (lv_at hl 2 rfl) ?_
    refine lv_aload_n K.1 K.2.1 dX2_become_48 rfl (lv_at hl 1 rfl) ?_
    obtain ⟨v8, ev8, hf⟩ := Option.bind_eq_some_iff.mp hf
    refine ah_getr K hG ev8 ffX2_20_2 dX2_become_49 ?_
    refine lv_iload_n K.1 K.2.1 dX2_become_52 rfl (lv_at hl 2 rfl) ?_
    obtain ⟨v9, ev9, hf⟩ := Option.bind_eq_some_iff.mp hf
    refine ah_iald K hG ev9 dX2_become_53 ?_
    obtain ⟨M10, eM10, hf⟩ := Option.bind_eq_some_iff.mp hf
    refine ah_iast K hG hL eM10 dX2_become_54 (fun H locs hG hL => ?_)
    refine lv_iinc (v := x2 + 1) (lv' := [(2, .int (x2 + 1)), (0, .ref a0), (1, .ref a1)]) K.1 K.2.1 dX2_become_55 hl (k := 2) rfl rfl (by decide) rfl (fun ls hl => ?_)
    refine lv_goto (tgt := 26) K.1 K.2.1 dX2_become_58 (by decide) ?_
    exact hk26 M10 a0 a1 (x2 + 1) _ _ _ hG hL (lv_sub hl [1, 2, 0] rfl) _ hf
theorem wX2_become_26 {p : Program} {l : Launch} {e : Env} {s : State} {m : MethodId} {args : Array Value} {below : List Frame} {meth : Method} {c : Code} {D : va_G} {ca : Nat → ClassId} {H0 : Heap} {z : Nat} (K : ah_K p s m args meth c D ca "ShipsThatMeet$Fleet" cX2_become 3 none)   (n : Nat) : ∀ (M : ah_h) (a0 : Nat) (a1 : Nat) (x2 : Int32)  (H : Heap) (locs : List Loc) (ls : Array Slot), ah_g H0 D ca M z H → ah_L H0 locs → lv_has ls 3 [(0, .ref a0), (1, .ref a1), (2, .int x2)] → ∀ Z, fX2_become_26    n M a0 a1 x2 = some Z → W p l e { frames := 0, cells := 0, slots := 0, locals := 0 } s m args below meth c H locs 0 0 (ah_Q below args s H0 D ca 0 0 none Z z) (F0 m 26 ls []) := by
  induction n with
  | zero => intro M a0 a1 x2 H locs ls hG hL hl Z hf; cases hf
  | succ n ih => exact wX2_become_26_b K  _ ih
def fX2_become (M : ah_h) (a0 : Nat) (x1 : Nat) : Option (ah_h) := (ah_ob M a0 2).bind fun _ => (ah_gi M x1 2 0).bind fun v1 => (ah_pf M a0 2 0 (.int v1)).bind fun M2 => (ah_gi M2 x1 2 1).bind fun v3 => (ah_pf M2 a0 2 1 (.int v3)).bind fun M4 => (ah_gi M4 x1 2 2).bind fun v5 => (ah_pf M4 a0 2 2 (.int v5)).bind fun M6 => fX2_become_26 ah_fu M6 a0 x1 0
set_option maxRecDepth 100000 in
set_option maxHeartbeats 4000000 in
theorem ctX2_become (l : Launch) (H0 : Heap) (D : va_G) (ca : Nat → ClassId) (M : ah_h) (z : Nat) (a0 : Nat) (x1 : Nat) (Z : ah_h) (hf : fX2_become M a0 x1 = some Z) : ah_ct l H0 D ca yX2_become cX2_become 3 none 0 0 0 0 [.ref a0, .ref x1] M z none Z z := by
  refine ah_of (by decide) (Nat.le_of_ble_eq_true rfl) ?_
  intro p e s m below meth c ls hin K hG hl
  have hL : ah_L H0 [] := ah_L.nil
  have hl : lv_has ls 3 [(0, .ref a0), (1, .ref x1)] := hl
  unfold fX2_become at hf
  obtain ⟨-, -, hf⟩ := Option.bind_eq_some_iff.mp hf
  refine lv_aload_n K.1 K.2.1 dX2_become_0 rfl (lv_at hl 0 rfl) ?_
  refine lv_aload_n K.1 K.2.1 dX2_become_1 rfl (lv_at hl 1 rfl) ?_
  obtain ⟨v1, ev1, hf⟩ := Option.bind_eq_some_iff.mp hf
  refine ah_geti K hG ev1 ffX2_39_2 dX2_become_2 ?_
  obtain ⟨M2, eM2, hf⟩ := Option.bind_eq_some_iff.mp hf
  refine ah_put K hG hL eM2 fwX2_39_2 rfl rfl dX2_become_5 (fun H locs hG hL => ?_)
  refine lv_aload_n K.1 K.2.1 dX2_become_8 rfl (lv_at hl 0 rfl) ?_
  refine lv_aload_n K.1 K.2.1 dX2_become_9 rfl (lv_at hl 1 rfl) ?_
  obtain ⟨v3, ev3, hf⟩ := Option.bind_eq_some_iff.mp hf
  refine ah_geti K hG ev3 ffX2_43_2 dX2_become_10 ?_
  obtain ⟨M4, eM4, hf⟩ := Option.bind_eq_some_iff.mp hf
  refine ah_put K hG hL eM4 fwX2_43_2 rfl rfl dX2_become_13 (fun H locs hG hL => ?_)
  refine lv_aload_n K.1 K.2.1 dX2_become_16 rfl (lv_at hl 0 rfl) ?_
  refine lv_aload_n K.1 K.2.1 dX2_become_17 rfl (lv_at hl 1 rfl) ?_
  obtain ⟨v5, ev5, hf⟩ := Option.bind_eq_some_iff.mp hf
  refine ah_geti K hG ev5 ffX2_46_2 dX2_become_18 ?_
  obtain ⟨M6, eM6, hf⟩ := Option.bind_eq_some_iff.mp hf
  refine ah_put K hG hL eM6 fwX2_46_2 rfl rfl dX2_become_21 (fun H locs hG hL => ?_)
  refine lv_iconst (v := 0) K.1 K.2.1 dX2_become_24 (by decide) ?_
  refine lv_istore_n (lv' := [(2, .int 0), (0, .ref a0), (1, .ref x1)]) K.1 K.2.1 dX2_become_25 rfl hl (by decide) rfl (fun ls hl => ?_)
  exact wX2_become_26 K  ah_fu M6 a0 x1 0 _ _ _ hG hL (lv_sub hl [1, 2, 0] rfl) _ hf
def fX2_isShip (M : ah_h) (a0 : Nat) (x1 : Int32) : Option (Int32) := (ah_ob M a0 2).bind fun _ => if x1 < 0 then (some 0) else ((ah_gi M a0 2 0).bind fun v2 => if v2 ≤ x1 then (some 0) else (some 1))
set_option maxRecDepth 100000 in
set_option maxHeartbeats 4000000 in
theorem ctX2_isShip (l : Launch) (H0 : Heap) (D : va_G) (ca : Nat → ClassId) (M : ah_h) (z : Nat) (a0 : Nat) (x1 : Int32) (Z : Int32) (hf : fX2_isShip M a0 x1 = some Z) : ah_ct l H0 D ca yX2_isShip cX2_isShip 2 (some .boolean) 0 0 0 0 [.ref a0, .int x1] M z (some (.int Z)) M z := by
  refine ah_of (by decide) (Nat.le_of_ble_eq_true rfl) ?_
  intro p e s m below meth c ls hin K hG hl
  have hL : ah_L H0 [] := ah_L.nil
  have hl : lv_has ls 2 [(0, .ref a0), (1, .int x1)] := hl
  unfold fX2_isShip at hf
  obtain ⟨-, -, hf⟩ := Option.bind_eq_some_iff.mp hf
  refine lv_iload_n K.1 K.2.1 dX2_isShip_0 rfl (lv_at hl 1 rfl) ?_
  refine lv_if_lt (tgt := 16) K.1 K.2.1 dX2_isShip_1 (by decide) (fun h1 => ?_) (fun h1 => ?_)
  · rw [if_pos h1] at hf
    refine lv_iconst (v := 0) K.1 K.2.1 dX2_isShip_16 (by decide) ?_
    have hf := Option.some.inj hf
    subst hf
    exact ah_zret K hG hL (Or.inl rfl) (Nat.le_refl _) (Nat.le_refl _) dX2_isShip_17
  · rw [if_neg h1] at hf
    refine lv_iload_n K.1 K.2.1 dX2_isShip_4 rfl (lv_at hl 1 rfl) ?_
    refine lv_aload_n K.1 K.2.1 dX2_isShip_5 rfl (lv_at hl 0 rfl) ?_
    obtain ⟨v2, ev2, hf⟩ := Option.bind_eq_some_iff.mp hf
    refine ah_geti K hG ev2 ffX2_39_2 dX2_isShip_6 ?_
    refine lv_icmp_ge (tgt := 16) K.1 K.2.1 dX2_isShip_9 (by decide) (fun h3 => ?_) (fun h3 => ?_)
    · rw [if_pos h3] at hf
      refine lv_iconst (v := 0) K.1 K.2.1 dX2_isShip_16 (by decide) ?_
      have hf := Option.some.inj hf
      subst hf
      exact ah_zret K hG hL (Or.inl rfl) (Nat.le_refl _) (Nat.le_refl _) dX2_isShip_17
    · rw [if_neg h3] at hf
      refine lv_iconst (v := 1) K.1 K.2.1 dX2_isShip_12 (by decide) ?_
      refine lv_goto (tgt := 17) K.1 K.2.1 dX2_isShip_13 (by decide) ?_
      have hf := Option.some.inj hf
      subst hf
      exact ah_zret K hG hL (Or.inr rfl) (Nat.le_refl _) (Nat.le_refl _) dX2_isShip_17
def fX2_isMan (M : ah_h) (a0 : Nat) (x1 : Int32) : Option (Int32) := (ah_ob M a0 2).bind fun _ => if x1 < 0 then (some 0) else ((ah_gi M a0 2 1).bind fun v2 => if v2 ≤ x1 then (some 0) else (some 1))
set_option maxRecDepth 100000 in
set_option maxHeartbeats 4000000 in
theorem ctX2_isMan (l : Launch) (H0 : Heap) (D : va_G) (ca : Nat → ClassId) (M : ah_h) (z : Nat) (a0 : Nat) (x1 : Int32) (Z : Int32) (hf : fX2_isMan M a0 x1 = some Z) : ah_ct l H0 D ca yX2_isMan cX2_isMan 2 (some .boolean) 0 0 0 0 [.ref a0, .int x1] M z (some (.int Z)) M z := by
  refine ah_of (by decide) (Nat.le_of_ble_eq_true rfl) ?_
  intro p e s m below meth c ls hin K hG hl
  have hL : ah_L H0 [] := ah_L.nil
  have hl : lv_has ls 2 [(0, .ref a0), (1, .int x1)] := hl
  unfold fX2_isMan at hf
  obtain ⟨-, -, hf⟩ := Option.bind_eq_some_iff.mp hf
  refine lv_iload_n K.1 K.2.1 dX2_isMan_0 rfl (lv_at hl 1 rfl) ?_
  refine lv_if_lt (tgt := 16) K.1 K.2.1 dX2_isMan_1 (by decide) (fun h1 => ?_) (fun h1 => ?_)
  · rw [if_pos h1] at hf
    refine lv_iconst (v := 0) K.1 K.2.1 dX2_isMan_16 (by decide) ?_
    have hf := Option.some.inj hf
    subst hf
    exact ah_zret K hG hL (Or.inl rfl) (Nat.le_refl _) (Nat.le_refl _) dX2_isMan_17
  · rw [if_neg h1] at hf
    refine lv_iload_n K.1 K.2.1 dX2_isMan_4 rfl (lv_at hl 1 rfl) ?_
    refine lv_aload_n K.1 K.2.1 dX2_isMan_5 rfl (lv_at hl 0 rfl) ?_
    obtain ⟨v2, ev2, hf⟩ := Option.bind_eq_some_iff.mp hf
    refine ah_geti K hG ev2 ffX2_43_2 dX2_isMan_6 ?_
    refine lv_icmp_ge (tgt := 16) K.1 K.2.1 dX2_isMan_9 (by decide) (fun h3 => ?_) (fun h3 => ?_)
    · rw [if_pos h3] at hf
      refine lv_iconst (v := 0) K.1 K.2.1 dX2_isMan_16 (by decide) ?_
      have hf := Option.some.inj hf
      subst hf
      exact ah_zret K hG hL (Or.inl rfl) (Nat.le_refl _) (Nat.le_refl _) dX2_isMan_17
    · rw [if_neg h3] at hf
      refine lv_iconst (v := 1) K.1 K.2.1 dX2_isMan_12 (by decide) ?_
      refine lv_goto (tgt := 17) K.1 K.2.1 dX2_isMan_13 (by decide) ?_
      have hf := Option.some.inj hf
      subst hf
      exact ah_zret K hG hL (Or.inr rfl) (Nat.le_refl _) (Nat.le_refl _) dX2_isMan_17
def fX2_areUnlikeShips (M : ah_h) (a0 : Nat) (x1 : Int32) (x2 : Int32) : Option (Int32) := (ah_ob M a0 2).bind fun _ => (fX2_isShip M a0 x1).bind fun v1 => if v1 = 0 then (some 0) else ((fX2_isShip M a0 x2).bind fun v4 => if v4 = 0 then (some 0) else (if x1 = x2 then (some 0) else (some 1)))
set_option maxRecDepth 100000 in
set_option maxHeartbeats 4000000 in
theorem ctX2_areUnlikeShips (l : Launch) (H0 : Heap) (D : va_G) (ca : Nat → ClassId) (M : ah_h) (z : Nat) (a0 : Nat) (x1 : Int32) (x2 : Int32) (Z : Int32) (hf : fX2_areUnlikeShips M a0 x1 x2 = some Z) : ah_ct l H0 D ca yX2_areUnlikeShips cX2_areUnlikeShips 3 (some .boolean) 1 21 0 0 [.ref a0, .int x1, .int x2] M z (some (.int Z)) M z := by
  refine ah_of (by decide) (Nat.le_of_ble_eq_true rfl) ?_
  intro p e s m below meth c ls hin K hG hl
  have hL : ah_L H0 [] := ah_L.nil
  have hl : lv_has ls 3 [(0, .ref a0), (1, .int x1), (2, .int x2)] := hl
  unfold fX2_areUnlikeShips at hf
  obtain ⟨-, -, hf⟩ := Option.bind_eq_some_iff.mp hf
  refine lv_aload_n K.1 K.2.1 dX2_areUnlikeShips_0 rfl (lv_at hl 0 rfl) ?_
  refine lv_iload_n K.1 K.2.1 dX2_areUnlikeShips_1 rfl (lv_at hl 1 rfl) ?_
  obtain ⟨v1, ev1, hf⟩ := Option.bind_eq_some_iff.mp hf
  obtain ⟨q2, eq2⟩ := ah_this ev1
  refine ah_callV (As := [.int x1]) (rest := []) K hG hL hl.1 eq2 rfl (ctX2_isShip l H0 D ca M z a0 x1 v1 ev1) hdX2_isShip q_332 q_333 q_51 q_335 q_334 ⟨Nat.le_of_ble_eq_true rfl, Nat.le_of_ble_eq_true rfl⟩ rfl rfl (Nat.le_of_ble_eq_true rfl) ⟨Nat.le_refl _, Nat.le_refl _⟩ dX2_areUnlikeShips_2 (fun H locs hG hL => ?_)
  refine lv_if_eq (tgt := 25) K.1 K.2.1 dX2_areUnlikeShips_5 (by decide) (fun h3 => ?_) (fun h3 => ?_)
  · rw [if_pos h3] at hf
    refine lv_iconst (v := 0) K.1 K.2.1 dX2_areUnlikeShips_25 (by decide) ?_
    have hf := Option.some.inj hf
    subst hf
    exact ah_zret K hG hL (Or.inl rfl) (Nat.le_refl _) (Nat.le_refl _) dX2_areUnlikeShips_26
  · rw [if_neg h3] at hf
    refine lv_aload_n K.1 K.2.1 dX2_areUnlikeShips_8 rfl (lv_at hl 0 rfl) ?_
    refine lv_iload_n K.1 K.2.1 dX2_areUnlikeShips_9 rfl (lv_at hl 2 rfl) ?_
    obtain ⟨v4, ev4, hf⟩ := Option.bind_eq_some_iff.mp hf
    obtain ⟨q5, eq5⟩ := ah_this ev4
    refine ah_callV (As := [.int x2]) (rest := []) K hG hL hl.1 eq5 rfl (ctX2_isShip l H0 D ca M z a0 x2 v4 ev4) hdX2_isShip q_332 q_333 q_51 q_335 q_334 ⟨Nat.le_of_ble_eq_true rfl, Nat.le_of_ble_eq_true rfl⟩ rfl rfl (Nat.le_of_ble_eq_true rfl) ⟨Nat.le_refl _, Nat.le_refl _⟩ dX2_areUnlikeShips_10 (fun H locs hG hL => ?_)
    refine lv_if_eq (tgt := 25) K.1 K.2.1 dX2_areUnlikeShips_13 (by decide) (fun h6 => ?_) (fun h6 => ?_)
    · rw [if_pos h6] at hf
      refine lv_iconst (v := 0) K.1 K.2.1 dX2_areUnlikeShips_25 (by decide) ?_
      have hf := Option.some.inj hf
      subst hf
      exact ah_zret K hG hL (Or.inl rfl) (Nat.le_refl _) (Nat.le_refl _) dX2_areUnlikeShips_26
    · rw [if_neg h6] at hf
      refine lv_iload_n K.1 K.2.1 dX2_areUnlikeShips_16 rfl (lv_at hl 1 rfl) ?_
      refine lv_iload_n K.1 K.2.1 dX2_areUnlikeShips_17 rfl (lv_at hl 2 rfl) ?_
      refine lv_icmp_eq (tgt := 25) K.1 K.2.1 dX2_areUnlikeShips_18 (by decide) (fun h7 => ?_) (fun h7 => ?_)
      · rw [if_pos h7] at hf
        refine lv_iconst (v := 0) K.1 K.2.1 dX2_areUnlikeShips_25 (by decide) ?_
        have hf := Option.some.inj hf
        subst hf
        exact ah_zret K hG hL (Or.inl rfl) (Nat.le_refl _) (Nat.le_refl _) dX2_areUnlikeShips_26
      · rw [if_neg h7] at hf
        refine lv_iconst (v := 1) K.1 K.2.1 dX2_areUnlikeShips_21 (by decide) ?_
        refine lv_goto (tgt := 26) K.1 K.2.1 dX2_areUnlikeShips_22 (by decide) ?_
        have hf := Option.some.inj hf
        subst hf
        exact ah_zret K hG hL (Or.inr rfl) (Nat.le_refl _) (Nat.le_refl _) dX2_areUnlikeShips_26
def fX2_canMeet (M : ah_h) (a0 : Nat) (x1 : Int32) (x2 : Int32) : Option (Int32) := (ah_ob M a0 2).bind fun _ => (fX2_areUnlikeShips M a0 x1 x2).bind fun v1 => if v1 = 0 then (some 0) else ((ah_gr M a0 2 4).bind fun v4 => (ah_ai M v4 x1).bind fun v5 => if v5 = 0 then (some 0) else ((ah_gr M a0 2 4).bind fun v7 => (ah_ai M v7 x2).bind fun v8 => if v8 = 0 then (some 0) else (some 1)))
set_option maxRecDepth 100000 in
set_option maxHeartbeats 4000000 in
theorem ctX2_canMeet (l : Launch) (H0 : Heap) (D : va_G) (ca : Nat → ClassId) (M : ah_h) (z : Nat) (a0 : Nat) (x1 : Int32) (x2 : Int32) (Z : Int32) (hf : fX2_canMeet M a0 x1 x2 = some Z) : ah_ct l H0 D ca yX2_canMeet cX2_canMeet 3 (some .boolean) 2 43 0 0 [.ref a0, .int x1, .int x2] M z (some (.int Z)) M z := by
  refine ah_of (by decide) (Nat.le_of_ble_eq_true rfl) ?_
  intro p e s m below meth c ls hin K hG hl
  have hL : ah_L H0 [] := ah_L.nil
  have hl : lv_has ls 3 [(0, .ref a0), (1, .int x1), (2, .int x2)] := hl
  unfold fX2_canMeet at hf
  obtain ⟨-, -, hf⟩ := Option.bind_eq_some_iff.mp hf
  refine lv_aload_n K.1 K.2.1 dX2_canMeet_0 rfl (lv_at hl 0 rfl) ?_
  refine lv_iload_n K.1 K.2.1 dX2_canMeet_1 rfl (lv_at hl 1 rfl) ?_
  refine lv_iload_n K.1 K.2.1 dX2_canMeet_2 rfl (lv_at hl 2 rfl) ?_
  obtain ⟨v1, ev1, hf⟩ := Option.bind_eq_some_iff.mp hf
  obtain ⟨q2, eq2⟩ := ah_this ev1
  refine ah_callV (As := [.int x1, .int x2]) (rest := []) K hG hL hl.1 eq2 rfl (ctX2_areUnlikeShips l H0 D ca M z a0 x1 x2 v1 ev1) hdX2_areUnlikeShips q_348 q_349 q_51 q_351 q_350 ⟨Nat.le_of_ble_eq_true rfl, Nat.le_of_ble_eq_true rfl⟩ rfl rfl (Nat.le_of_ble_eq_true rfl) ⟨Nat.le_refl _, Nat.le_refl _⟩ dX2_canMeet_3 (fun H locs hG hL => ?_)
  refine lv_if_eq (tgt := 31) K.1 K.2.1 dX2_canMeet_6 (by decide) (fun h3 => ?_) (fun h3 => ?_)
  · rw [if_pos h3] at hf
    refine lv_iconst (v := 0) K.1 K.2.1 dX2_canMeet_31 (by decide) ?_
    have hf := Option.some.inj hf
    subst hf
    exact ah_zret K hG hL (Or.inl rfl) (Nat.le_refl _) (Nat.le_refl _) dX2_canMeet_32
  · rw [if_neg h3] at hf
    refine lv_aload_n K.1 K.2.1 dX2_canMeet_9 rfl (lv_at hl 0 rfl) ?_
    obtain ⟨v4, ev4, hf⟩ := Option.bind_eq_some_iff.mp hf
    refine ah_getr K hG ev4 ffX2_20_2 dX2_canMeet_10 ?_
    refine lv_iload_n K.1 K.2.1 dX2_canMeet_13 rfl (lv_at hl 1 rfl) ?_
    obtain ⟨v5, ev5, hf⟩ := Option.bind_eq_some_iff.mp hf
    refine ah_iald K hG ev5 dX2_canMeet_14 ?_
    refine lv_if_eq (tgt := 31) K.1 K.2.1 dX2_canMeet_15 (by decide) (fun h6 => ?_) (fun h6 => ?_)
    · rw [if_pos h6] at hf
      refine lv_iconst (v := 0) K.1 K.2.1 dX2_canMeet_31 (by decide) ?_
      have hf := Option.some.inj hf
      subst hf
      exact ah_zret K hG hL (Or.inl rfl) (Nat.le_refl _) (Nat.le_refl _) dX2_canMeet_32
    · rw [if_neg h6] at hf
      refine lv_aload_n K.1 K.2.1 dX2_canMeet_18 rfl (lv_at hl 0 rfl) ?_
      obtain ⟨v7, ev7, hf⟩ := Option.bind_eq_some_iff.mp hf
      refine ah_getr K hG ev7 ffX2_20_2 dX2_canMeet_19 ?_
      refine lv_iload_n K.1 K.2.1 dX2_canMeet_22 rfl (lv_at hl 2 rfl) ?_
      obtain ⟨v8, ev8, hf⟩ := Option.bind_eq_some_iff.mp hf
      refine ah_iald K hG ev8 dX2_canMeet_23 ?_
      refine lv_if_eq (tgt := 31) K.1 K.2.1 dX2_canMeet_24 (by decide) (fun h9 => ?_) (fun h9 => ?_)
      · rw [if_pos h9] at hf
        refine lv_iconst (v := 0) K.1 K.2.1 dX2_canMeet_31 (by decide) ?_
        have hf := Option.some.inj hf
        subst hf
        exact ah_zret K hG hL (Or.inl rfl) (Nat.le_refl _) (Nat.le_refl _) dX2_canMeet_32
      · rw [if_neg h9] at hf
        refine lv_iconst (v := 1) K.1 K.2.1 dX2_canMeet_27 (by decide) ?_
        refine lv_goto (tgt := 32) K.1 K.2.1 dX2_canMeet_28 (by decide) ?_
        have hf := Option.some.inj hf
        subst hf
        exact ah_zret K hG hL (Or.inr rfl) (Nat.le_refl _) (Nat.le_refl _) dX2_canMeet_32
def fX2_takesShip (M : ah_h) (a0 : Nat) (x1 : Nat) : Option (Int32 × ah_h) := (ah_ob M a0 2).bind fun _ => (ah_gi M a0 2 0).bind fun v1 => if v1 < 5 then ((ah_gr M a0 2 3).bind fun v3 => (ah_gi M a0 2 0).bind fun v4 => (ah_oc M x1).bind fun y6 => (ah_sr M v3 2 v4 x1).bind fun M5 => (ah_gr M5 a0 2 4).bind fun v7 => (ah_gi M5 a0 2 0).bind fun v8 => (ah_si M5 v7 v8 0).bind fun M9 => (ah_gi M9 a0 2 0).bind fun v10 => (ah_pf M9 a0 2 0 (.int (v10 + 1))).bind fun M11 => some (1, M11)) else (some (0, M))
set_option maxRecDepth 100000 in
set_option maxHeartbeats 4000000 in
theorem ctX2_takesShip (l : Launch) (H0 : Heap) (D : va_G) (ca : Nat → ClassId) (M : ah_h) (z : Nat) (a0 : Nat) (x1 : Nat) (Z : Int32 × ah_h) (hf : fX2_takesShip M a0 x1 = some Z) : ah_ct l H0 D ca yX2_takesShip cX2_takesShip 2 (some .boolean) 0 0 0 0 [.ref a0, .ref x1] M z (some (.int Z.1)) Z.2 z := by
  refine ah_of (by decide) (Nat.le_of_ble_eq_true rfl) ?_
  intro p e s m below meth c ls hin K hG hl
  have hL : ah_L H0 [] := ah_L.nil
  have hl : lv_has ls 2 [(0, .ref a0), (1, .ref x1)] := hl
  unfold fX2_takesShip at hf
  obtain ⟨-, -, hf⟩ := Option.bind_eq_some_iff.mp hf
  refine lv_aload_n K.1 K.2.1 dX2_takesShip_0 rfl (lv_at hl 0 rfl) ?_
  obtain ⟨v1, ev1, hf⟩ := Option.bind_eq_some_iff.mp hf
  refine ah_geti K hG ev1 ffX2_39_2 dX2_takesShip_1 ?_
  refine lv_iconst (v := 5) K.1 K.2.1 dX2_takesShip_4 (by decide) ?_
  refine lv_icmp_lt (tgt := 10) K.1 K.2.1 dX2_takesShip_5 (by decide) (fun h2 => ?_) (fun h2 => ?_)
  · rw [if_pos h2] at hf
    refine lv_aload_n K.1 K.2.1 dX2_takesShip_10 rfl (lv_at hl 0 rfl) ?_
    obtain ⟨v3, ev3, hf⟩ := Option.bind_eq_some_iff.mp hf
    refine ah_getr K hG ev3 ffX2_11_2 dX2_takesShip_11 ?_
    refine lv_aload_n K.1 K.2.1 dX2_takesShip_14 rfl (lv_at hl 0 rfl) ?_
    obtain ⟨v4, ev4, hf⟩ := Option.bind_eq_some_iff.mp hf
    refine ah_geti K hG ev4 ffX2_39_2 dX2_takesShip_15 ?_
    refine lv_aload_n K.1 K.2.1 dX2_takesShip_18 rfl (lv_at hl 1 rfl) ?_
    obtain ⟨y6, ey6, hf⟩ := Option.bind_eq_some_iff.mp hf
    obtain ⟨M5, eM5, hf⟩ := Option.bind_eq_some_iff.mp hf
    refine ah_aast (t := 2) K hG hL eM5 rfl (ah_anyC K hG ey6) dX2_takesShip_19 (fun H locs hG hL => ?_)
    refine lv_aload_n K.1 K.2.1 dX2_takesShip_20 rfl (lv_at hl 0 rfl) ?_
    obtain ⟨v7, ev7, hf⟩ := Option.bind_eq_some_iff.mp hf
    refine ah_getr K hG ev7 ffX2_20_2 dX2_takesShip_21 ?_
    refine lv_aload_n K.1 K.2.1 dX2_takesShip_24 rfl (lv_at hl 0 rfl) ?_
    obtain ⟨v8, ev8, hf⟩ := Option.bind_eq_some_iff.mp hf
    refine ah_geti K hG ev8 ffX2_39_2 dX2_takesShip_25 ?_
    refine lv_iconst (v := 0) K.1 K.2.1 dX2_takesShip_28 (by decide) ?_
    obtain ⟨M9, eM9, hf⟩ := Option.bind_eq_some_iff.mp hf
    refine ah_iast K hG hL eM9 dX2_takesShip_29 (fun H locs hG hL => ?_)
    refine lv_aload_n K.1 K.2.1 dX2_takesShip_30 rfl (lv_at hl 0 rfl) ?_
    refine lv_dup K.1 K.2.1 dX2_takesShip_31 rfl ?_
    obtain ⟨v10, ev10, hf⟩ := Option.bind_eq_some_iff.mp hf
    refine ah_geti K hG ev10 ffX2_39_2 dX2_takesShip_32 ?_
    refine lv_iconst (v := 1) K.1 K.2.1 dX2_takesShip_35 (by decide) ?_
    refine lv_iadd K.1 K.2.1 dX2_takesShip_36 ?_
    obtain ⟨M11, eM11, hf⟩ := Option.bind_eq_some_iff.mp hf
    refine ah_put K hG hL eM11 fwX2_39_2 rfl rfl dX2_takesShip_37 (fun H locs hG hL => ?_)
    refine lv_iconst (v := 1) K.1 K.2.1 dX2_takesShip_40 (by decide) ?_
    have hf := Option.some.inj hf
    subst hf
    exact ah_zret K hG hL (Or.inr rfl) (Nat.le_refl _) (Nat.le_refl _) dX2_takesShip_41
  · rw [if_neg h2] at hf
    refine lv_iconst (v := 0) K.1 K.2.1 dX2_takesShip_8 (by decide) ?_
    have hf := Option.some.inj hf
    subst hf
    exact ah_zret K hG hL (Or.inl rfl) (Nat.le_refl _) (Nat.le_refl _) dX2_takesShip_9
def fX2_bring (M : ah_h) (a0 : Nat) (x1 : Int32) (x2 : Int32) (x3 : Int32) : Option (ah_h) := (ah_ob M a0 2).bind fun _ => (ah_gr M a0 2 4).bind fun v1 => (ah_ai M v1 x2).bind fun v2 => (ah_si M v1 x2 (v2 &&& (((1 : Int32) <<< (x1 &&& 31)) ^^^ (-1)))).bind fun M3 => (ah_gr M3 a0 2 4).bind fun v4 => (ah_ai M3 v4 x3).bind fun v5 => (ah_si M3 v4 x3 (v5 ||| ((1 : Int32) <<< (x1 &&& 31)))).bind fun M6 => (ah_gr M6 a0 2 5).bind fun v7 => (ah_si M6 v7 x1 x3).bind fun M8 => some M8
set_option maxRecDepth 100000 in
set_option maxHeartbeats 4000000 in
theorem ctX2_bring (l : Launch) (H0 : Heap) (D : va_G) (ca : Nat → ClassId) (M : ah_h) (z : Nat) (a0 : Nat) (x1 : Int32) (x2 : Int32) (x3 : Int32) (Z : ah_h) (hf : fX2_bring M a0 x1 x2 x3 = some Z) : ah_ct l H0 D ca yX2_bring cX2_bring 4 none 0 0 0 0 [.ref a0, .int x1, .int x2, .int x3] M z none Z z := by
  refine ah_of (by decide) (Nat.le_of_ble_eq_true rfl) ?_
  intro p e s m below meth c ls hin K hG hl
  have hL : ah_L H0 [] := ah_L.nil
  have hl : lv_has ls 4 [(0, .ref a0), (1, .int x1), (2, .int x2), (3, .int x3)] := hl
  unfold fX2_bring at hf
  obtain ⟨-, -, hf⟩ := Option.bind_eq_some_iff.mp hf
  refine lv_aload_n K.1 K.2.1 dX2_bring_0 rfl (lv_at hl 0 rfl) ?_
  obtain ⟨v1, ev1, hf⟩ := Option.bind_eq_some_iff.mp hf
  refine ah_getr K hG ev1 ffX2_20_2 dX2_bring_1 ?_
  refine lv_iload_n K.1 K.2.1 dX2_bring_4 rfl (lv_at hl 2 rfl) ?_
  refine lv_dup2_11 K.1 K.2.1 dX2_bring_5 rfl rfl ?_
  obtain ⟨v2, ev2, hf⟩ := Option.bind_eq_some_iff.mp hf
  refine ah_iald K hG ev2 dX2_bring_6 ?_
  refine lv_iconst (v := 1) K.1 K.2.1 dX2_bring_7 (by decide) ?_
  refine lv_iload_n K.1 K.2.1 dX2_bring_8 rfl (lv_at hl 1 rfl) ?_
  refine lv_ishl K.1 K.2.1 dX2_bring_9 ?_
  refine lv_iconst (v := (-1)) K.1 K.2.1 dX2_bring_10 (by decide) ?_
  refine lv_ixor K.1 K.2.1 dX2_bring_11 ?_
  refine lv_iand K.1 K.2.1 dX2_bring_12 ?_
  obtain ⟨M3, eM3, hf⟩ := Option.bind_eq_some_iff.mp hf
  refine ah_iast K hG hL eM3 dX2_bring_13 (fun H locs hG hL => ?_)
  refine lv_aload_n K.1 K.2.1 dX2_bring_14 rfl (lv_at hl 0 rfl) ?_
  obtain ⟨v4, ev4, hf⟩ := Option.bind_eq_some_iff.mp hf
  refine ah_getr K hG ev4 ffX2_20_2 dX2_bring_15 ?_
  refine lv_iload_n K.1 K.2.1 dX2_bring_18 rfl (lv_at hl 3 rfl) ?_
  refine lv_dup2_11 K.1 K.2.1 dX2_bring_19 rfl rfl ?_
  obtain ⟨v5, ev5, hf⟩ := Option.bind_eq_some_iff.mp hf
  refine ah_iald K hG ev5 dX2_bring_20 ?_
  refine lv_iconst (v := 1) K.1 K.2.1 dX2_bring_21 (by decide) ?_
  refine lv_iload_n K.1 K.2.1 dX2_bring_22 rfl (lv_at hl 1 rfl) ?_
  refine lv_ishl K.1 K.2.1 dX2_bring_23 ?_
  refine lv_ior K.1 K.2.1 dX2_bring_24 ?_
  obtain ⟨M6, eM6, hf⟩ := Option.bind_eq_some_iff.mp hf
  refine ah_iast K hG hL eM6 dX2_bring_25 (fun H locs hG hL => ?_)
  refine lv_aload_n K.1 K.2.1 dX2_bring_26 rfl (lv_at hl 0 rfl) ?_
  obtain ⟨v7, ev7, hf⟩ := Option.bind_eq_some_iff.mp hf
  refine ah_getr K hG ev7 ffX2_24_2 dX2_bring_27 ?_
  refine lv_iload_n K.1 K.2.1 dX2_bring_30 rfl (lv_at hl 1 rfl) ?_
  refine lv_iload_n K.1 K.2.1 dX2_bring_31 rfl (lv_at hl 3 rfl) ?_
  obtain ⟨M8, eM8, hf⟩ := Option.bind_eq_some_iff.mp hf
  refine ah_iast K hG hL eM8 dX2_bring_32 (fun H locs hG hL => ?_)
  have hf := Option.some.inj hf
  subst hf
  exact ah_vret K hG hL (Nat.le_refl _) (Nat.le_refl _) dX2_bring_33
def fX2_acquaint_41  (k2 : ah_h → Nat → Int32 → Int32 → Option (ah_h))  (M : ah_h) (a0 : Nat) (x1 : Int32) (x2 : Int32) : Option (ah_h) := k2 M a0 x1 (x2 + 1)
set_option maxRecDepth 100000 in
set_option maxHeartbeats 4000000 in
theorem wX2_acquaint_41 {p : Program} {l : Launch} {e : Env} {s : State} {m : MethodId} {args : Array Value} {below : List Frame} {meth : Method} {c : Code} {D : va_G} {ca : Nat → ClassId} {H0 : Heap} {z : Nat} (K : ah_K p s m args meth c D ca "ShipsThatMeet$Fleet" cX2_acquaint 3 none)  (k2 : ah_h → Nat → Int32 → Int32 → Option (ah_h)) (hk2 : ∀ (M : ah_h) (a0 : Nat) (x1 : Int32) (x2 : Int32)  (H : Heap) (locs : List Loc) (ls : Array Slot), ah_g H0 D ca M z H → ah_L H0 locs → lv_has ls 3 [(0, .ref a0), (1, .int x1), (2, .int x2)] → ∀ Z, k2 M a0 x1 x2 = some Z → W p l e { frames := 0, cells := 0, slots := 0, locals := 0 } s m args below meth c H locs 0 0 (ah_Q below args s H0 D ca 0 0 none Z z) (F0 m 2 ls [])) : ∀ (M : ah_h) (a0 : Nat) (x1 : Int32) (x2 : Int32)  (H : Heap) (locs : List Loc) (ls : Array Slot), ah_g H0 D ca M z H → ah_L H0 locs → lv_has ls 3 [(0, .ref a0), (1, .int x1), (2, .int x2)] → ∀ Z, fX2_acquaint_41  k2  M a0 x1 x2 = some Z → W p l e { frames := 0, cells := 0, slots := 0, locals := 0 } s m args below meth c H locs 0 0 (ah_Q below args s H0 D ca 0 0 none Z z) (F0 m 41 ls []) := by
  intro M a0 x1 x2 H locs ls hG hL hl Z hf
  unfold fX2_acquaint_41 at hf
  refine lv_iinc (v := x2 + 1) (lv' := [(2, .int (x2 + 1)), (0, .ref a0), (1, .int x1)]) K.1 K.2.1 dX2_acquaint_41 hl (k := 2) rfl rfl (by decide) rfl (fun ls hl => ?_)
  refine lv_goto (tgt := 2) K.1 K.2.1 dX2_acquaint_44 (by decide) ?_
  exact hk2 M a0 x1 (x2 + 1) _ _ _ hG hL (lv_sub hl [1, 2, 0] rfl) _ hf
def fX2_acquaint_2_b   (k2 : ah_h → Nat → Int32 → Int32 → Option (ah_h))  (M : ah_h) (a0 : Nat) (x1 : Int32) (x2 : Int32) : Option (ah_h) := (ah_gi M a0 2 1).bind fun v1 => if v1 ≤ x2 then (some M) else ((ah_gr M a0 2 5).bind fun v3 => (ah_ai M v3 x2).bind fun v4 => if v4 = x1 then ((ah_gr M a0 2 9).bind fun v6 => (ah_ai M v6 x2).bind fun v7 => (ah_gr M a0 2 4).bind fun v8 => (ah_ai M v8 x1).bind fun v9 => (ah_si M v6 x2 (v7 ||| (v9 &&& (((1 : Int32) <<< (x2 &&& 31)) ^^^ (-1))))).bind fun M10 => fX2_acquaint_41 k2 M10 a0 x1 x2) else (fX2_acquaint_41 k2 M a0 x1 x2))
def fX2_acquaint_2    : Nat → ah_h → Nat → Int32 → Int32 → Option (ah_h)
  | 0 => fun _ _ _ _ => none
  | n + 1 => fun M a0 x1 x2 => fX2_acquaint_2_b   (fX2_acquaint_2    n)  M a0 x1 x2
set_option maxRecDepth 100000 in
set_option maxHeartbeats 4000000 in
theorem wX2_acquaint_2_b {p : Program} {l : Launch} {e : Env} {s : State} {m : MethodId} {args : Array Value} {below : List Frame} {meth : Method} {c : Code} {D : va_G} {ca : Nat → ClassId} {H0 : Heap} {z : Nat} (K : ah_K p s m args meth c D ca "ShipsThatMeet$Fleet" cX2_acquaint 3 none)   (k2 : ah_h → Nat → Int32 → Int32 → Option (ah_h)) (hk2 : ∀ (M : ah_h) (a0 : Nat) (x1 : Int32) (x2 : Int32)  (H : Heap) (locs : List Loc) (ls : Array Slot), ah_g H0 D ca M z H → ah_L H0 locs → lv_has ls 3 [(0, .ref a0), (1, .int x1), (2, .int x2)] → ∀ Z, k2 M a0 x1 x2 = some Z → W p l e { frames := 0, cells := 0, slots := 0, locals := 0 } s m args below meth c H locs 0 0 (ah_Q below args s H0 D ca 0 0 none Z z) (F0 m 2 ls [])) : ∀ (M : ah_h) (a0 : Nat) (x1 : Int32) (x2 : Int32)  (H : Heap) (locs : List Loc) (ls : Array Slot), ah_g H0 D ca M z H → ah_L H0 locs → lv_has ls 3 [(0, .ref a0), (1, .int x1), (2, .int x2)] → ∀ Z, fX2_acquaint_2_b   k2  M a0 x1 x2 = some Z → W p l e { frames := 0, cells := 0, slots := 0, locals := 0 } s m args below meth c H locs 0 0 (ah_Q below args s H0 D ca 0 0 none Z z) (F0 m 2 ls []) := by
  intro M a0 x1 x2 H locs ls hG hL hl Z hf
  unfold fX2_acquaint_2_b at hf
  refine lv_iload_n K.1 K.2.1 dX2_acquaint_2 rfl (lv_at hl 2 rfl) ?_
  refine lv_aload_n K.1 K.2.1 dX2_acquaint_3 rfl (lv_at hl 0 rfl) ?_
  obtain ⟨v1, ev1, hf⟩ := Option.bind_eq_some_iff.mp hf
  refine ah_geti K hG ev1 ffX2_43_2 dX2_acquaint_4 ?_
  refine lv_icmp_ge (tgt := 47) K.1 K.2.1 dX2_acquaint_7 (by decide) (fun h2 => ?_) (fun h2 => ?_)
  · rw [if_pos h2] at hf
    have hf := Option.some.inj hf
    subst hf
    exact ah_vret K hG hL (Nat.le_refl _) (Nat.le_refl _) dX2_acquaint_47
  · rw [if_neg h2] at hf
    refine lv_aload_n K.1 K.2.1 dX2_acquaint_10 rfl (lv_at hl 0 rfl) ?_
    obtain ⟨v3, ev3, hf⟩ := Option.bind_eq_some_iff.mp hf
    refine ah_getr K hG ev3 ffX2_24_2 dX2_acquaint_11 ?_
    refine lv_iload_n K.1 K.2.1 dX2_acquaint_14 rfl (lv_at hl 2 rfl) ?_
    obtain ⟨v4, ev4, hf⟩ := Option.bind_eq_some_iff.mp hf
    refine ah_iald K hG ev4 dX2_acquaint_15 ?_
    refine lv_iload_n K.1 K.2.1 dX2_acquaint_16 rfl (lv_at hl 1 rfl) ?_
    refine lv_icmp_ne (tgt := 41) K.1 K.2.1 dX2_acquaint_17 (by decide) (fun h5 => ?_) (fun h5 => ?_)
    · rw [if_neg h5] at hf
      exact wX2_acquaint_41 K k2 hk2 M a0 x1 x2 _ _ _ hG hL (lv_sub hl [0, 1, 2] rfl) _ hf
    · rw [if_pos h5] at hf
      refine lv_aload_n K.1 K.2.1 dX2_acquaint_20 rfl (lv_at hl 0 rfl) ?_
      obtain ⟨v6, ev6, hf⟩ := Option.bind_eq_some_iff.mp hf
      refine ah_getr K hG ev6 ffX2_36_2 dX2_acquaint_21 ?_
      refine lv_iload_n K.1 K.2.1 dX2_acquaint_24 rfl (lv_at hl 2 rfl) ?_
      refine lv_dup2_11 K.1 K.2.1 dX2_acquaint_25 rfl rfl ?_
      obtain ⟨v7, ev7, hf⟩ := Option.bind_eq_some_iff.mp hf
      refine ah_iald K hG ev7 dX2_acquaint_26 ?_
      refine lv_aload_n K.1 K.2.1 dX2_acquaint_27 rfl (lv_at hl 0 rfl) ?_
      obtain ⟨v8, ev8, hf⟩ := Option.bind_eq_some_iff.mp hf
      refine ah_getr K hG ev8 ffX2_20_2 dX2_acquaint_28 ?_
      refine lv_iload_n K.1 K.2.1 dX2_acquaint_31 rfl (lv_at hl 1 rfl) ?_
      obtain ⟨v9, ev9, hf⟩ := Option.bind_eq_some_iff.mp hf
      refine ah_iald K hG ev9 dX2_acquaint_32 ?_
      refine lv_iconst (v := 1) K.1 K.2.1 dX2_acquaint_33 (by decide) ?_
      refine lv_iload_n K.1 K.2.1 dX2_acquaint_34 rfl (lv_at hl 2 rfl) ?_
      refine lv_ishl K.1 K.2.1 dX2_acquaint_35 ?_
      refine lv_iconst (v := (-1)) K.1 K.2.1 dX2_acquaint_36 (by decide) ?_
      refine lv_ixor K.1 K.2.1 dX2_acquaint_37 ?_
      refine lv_iand K.1 K.2.1 dX2_acquaint_38 ?_
      refine lv_ior K.1 K.2.1 dX2_acquaint_39 ?_
      obtain ⟨M10, eM10, hf⟩ := Option.bind_eq_some_iff.mp hf
      refine ah_iast K hG hL eM10 dX2_acquaint_40 (fun H locs hG hL => ?_)
      exact wX2_acquaint_41 K k2 hk2 M10 a0 x1 x2 _ _ _ hG hL (lv_sub hl [0, 1, 2] rfl) _ hf
theorem wX2_acquaint_2 {p : Program} {l : Launch} {e : Env} {s : State} {m : MethodId} {args : Array Value} {below : List Frame} {meth : Method} {c : Code} {D : va_G} {ca : Nat → ClassId} {H0 : Heap} {z : Nat} (K : ah_K p s m args meth c D ca "ShipsThatMeet$Fleet" cX2_acquaint 3 none)   (n : Nat) : ∀ (M : ah_h) (a0 : Nat) (x1 : Int32) (x2 : Int32)  (H : Heap) (locs : List Loc) (ls : Array Slot), ah_g H0 D ca M z H → ah_L H0 locs → lv_has ls 3 [(0, .ref a0), (1, .int x1), (2, .int x2)] → ∀ Z, fX2_acquaint_2    n M a0 x1 x2 = some Z → W p l e { frames := 0, cells := 0, slots := 0, locals := 0 } s m args below meth c H locs 0 0 (ah_Q below args s H0 D ca 0 0 none Z z) (F0 m 2 ls []) := by
  induction n with
  | zero => intro M a0 x1 x2 H locs ls hG hL hl Z hf; cases hf
  | succ n ih => exact wX2_acquaint_2_b K  _ ih
def fX2_acquaint (M : ah_h) (a0 : Nat) (x1 : Int32) : Option (ah_h) := (ah_ob M a0 2).bind fun _ => fX2_acquaint_2 ah_fu M a0 x1 0
set_option maxRecDepth 100000 in
set_option maxHeartbeats 4000000 in
theorem ctX2_acquaint (l : Launch) (H0 : Heap) (D : va_G) (ca : Nat → ClassId) (M : ah_h) (z : Nat) (a0 : Nat) (x1 : Int32) (Z : ah_h) (hf : fX2_acquaint M a0 x1 = some Z) : ah_ct l H0 D ca yX2_acquaint cX2_acquaint 3 none 0 0 0 0 [.ref a0, .int x1] M z none Z z := by
  refine ah_of (by decide) (Nat.le_of_ble_eq_true rfl) ?_
  intro p e s m below meth c ls hin K hG hl
  have hL : ah_L H0 [] := ah_L.nil
  have hl : lv_has ls 3 [(0, .ref a0), (1, .int x1)] := hl
  unfold fX2_acquaint at hf
  obtain ⟨-, -, hf⟩ := Option.bind_eq_some_iff.mp hf
  refine lv_iconst (v := 0) K.1 K.2.1 dX2_acquaint_0 (by decide) ?_
  refine lv_istore_n (lv' := [(2, .int 0), (0, .ref a0), (1, .int x1)]) K.1 K.2.1 dX2_acquaint_1 rfl hl (by decide) rfl (fun ls hl => ?_)
  exact wX2_acquaint_2 K  ah_fu M a0 x1 0 _ _ _ hG hL (lv_sub hl [1, 2, 0] rfl) _ hf
def fX2_hasTrade_32  (k2 : Nat → Int32 → Int32 → Int32 → Option (Int32)) (M : ah_h) (a0 : Nat) (x1 : Int32) (x2 : Int32) (x3 : Int32) : Option (Int32) := k2 a0 x1 x2 (x3 + 1)
set_option maxRecDepth 100000 in
set_option maxHeartbeats 4000000 in
theorem wX2_hasTrade_32 {p : Program} {l : Launch} {e : Env} {s : State} {m : MethodId} {args : Array Value} {below : List Frame} {meth : Method} {c : Code} {D : va_G} {ca : Nat → ClassId} {H0 : Heap} {M : ah_h} {z : Nat} (K : ah_K p s m args meth c D ca "ShipsThatMeet$Fleet" cX2_hasTrade 4 (some .boolean))  (k2 : Nat → Int32 → Int32 → Int32 → Option (Int32)) (hk2 : ∀ (a0 : Nat) (x1 : Int32) (x2 : Int32) (x3 : Int32)  (H : Heap) (locs : List Loc) (ls : Array Slot), ah_g H0 D ca M z H → ah_L H0 locs → lv_has ls 4 [(0, .ref a0), (1, .int x1), (2, .int x2), (3, .int x3)] → ∀ Z, k2 a0 x1 x2 x3 = some Z → W p l e { frames := 0, cells := 0, slots := 0, locals := 0 } s m args below meth c H locs 0 0 (ah_Q below args s H0 D ca 0 0 (some (.int Z)) M z) (F0 m 2 ls [])) : ∀ (a0 : Nat) (x1 : Int32) (x2 : Int32) (x3 : Int32)  (H : Heap) (locs : List Loc) (ls : Array Slot), ah_g H0 D ca M z H → ah_L H0 locs → lv_has ls 4 [(0, .ref a0), (1, .int x1), (2, .int x2), (3, .int x3)] → ∀ Z, fX2_hasTrade_32  k2 M a0 x1 x2 x3 = some Z → W p l e { frames := 0, cells := 0, slots := 0, locals := 0 } s m args below meth c H locs 0 0 (ah_Q below args s H0 D ca 0 0 (some (.int Z)) M z) (F0 m 32 ls []) := by
  intro a0 x1 x2 x3 H locs ls hG hL hl Z hf
  unfold fX2_hasTrade_32 at hf
  refine lv_iinc (v := x3 + 1) (lv' := [(3, .int (x3 + 1)), (0, .ref a0), (1, .int x1), (2, .int x2)]) K.1 K.2.1 dX2_hasTrade_32 hl (k := 3) rfl rfl (by decide) rfl (fun ls hl => ?_)
  refine lv_goto (tgt := 2) K.1 K.2.1 dX2_hasTrade_35 (by decide) ?_
  exact hk2 a0 x1 x2 (x3 + 1) _ _ _ hG hL (lv_sub hl [1, 2, 3, 0] rfl) _ hf
def fX2_hasTrade_2_b   (k2 : Nat → Int32 → Int32 → Int32 → Option (Int32)) (M : ah_h) (a0 : Nat) (x1 : Int32) (x2 : Int32) (x3 : Int32) : Option (Int32) := (ah_gi M a0 2 1).bind fun v1 => if v1 ≤ x3 then (some 0) else ((ah_gr M a0 2 5).bind fun v3 => (ah_ai M v3 x3).bind fun v4 => if v4 = x1 then ((ah_gr M a0 2 6).bind fun v6 => (ah_ai M v6 x3).bind fun v7 => if v7 = x2 then (some 1) else (fX2_hasTrade_32 k2 M a0 x1 x2 x3)) else (fX2_hasTrade_32 k2 M a0 x1 x2 x3))
def fX2_hasTrade_2   (M : ah_h) : Nat → Nat → Int32 → Int32 → Int32 → Option (Int32)
  | 0 => fun _ _ _ _ => none
  | n + 1 => fun a0 x1 x2 x3 => fX2_hasTrade_2_b   (fX2_hasTrade_2   M n) M a0 x1 x2 x3
set_option maxRecDepth 100000 in
set_option maxHeartbeats 4000000 in
theorem wX2_hasTrade_2_b {p : Program} {l : Launch} {e : Env} {s : State} {m : MethodId} {args : Array Value} {below : List Frame} {meth : Method} {c : Code} {D : va_G} {ca : Nat → ClassId} {H0 : Heap} {M : ah_h} {z : Nat} (K : ah_K p s m args meth c D ca "ShipsThatMeet$Fleet" cX2_hasTrade 4 (some .boolean))   (k2 : Nat → Int32 → Int32 → Int32 → Option (Int32)) (hk2 : ∀ (a0 : Nat) (x1 : Int32) (x2 : Int32) (x3 : Int32)  (H : Heap) (locs : List Loc) (ls : Array Slot), ah_g H0 D ca M z H → ah_L H0 locs → lv_has ls 4 [(0, .ref a0), (1, .int x1), (2, .int x2), (3, .int x3)] → ∀ Z, k2 a0 x1 x2 x3 = some Z → W p l e { frames := 0, cells := 0, slots := 0, locals := 0 } s m args below meth c H locs 0 0 (ah_Q below args s H0 D ca 0 0 (some (.int Z)) M z) (F0 m 2 ls [])) : ∀ (a0 : Nat) (x1 : Int32) (x2 : Int32) (x3 : Int32)  (H : Heap) (locs : List Loc) (ls : Array Slot), ah_g H0 D ca M z H → ah_L H0 locs → lv_has ls 4 [(0, .ref a0), (1, .int x1), (2, .int x2), (3, .int x3)] → ∀ Z, fX2_hasTrade_2_b   k2 M a0 x1 x2 x3 = some Z → W p l e { frames := 0, cells := 0, slots := 0, locals := 0 } s m args below meth c H locs 0 0 (ah_Q below args s H0 D ca 0 0 (some (.int Z)) M z) (F0 m 2 ls []) := by
  intro a0 x1 x2 x3 H locs ls hG hL hl Z hf
  unfold fX2_hasTrade_2_b at hf
  refine lv_iload_n K.1 K.2.1 dX2_hasTrade_2 rfl (lv_at hl 3 rfl) ?_
  refine lv_aload_n K.1 K.2.1 dX2_hasTrade_3 rfl (lv_at hl 0 rfl) ?_
  obtain ⟨v1, ev1, hf⟩ := Option.bind_eq_some_iff.mp hf
  refine ah_geti K hG ev1 ffX2_43_2 dX2_hasTrade_4 ?_
  refine lv_icmp_ge (tgt := 38) K.1 K.2.1 dX2_hasTrade_7 (by decide) (fun h2 => ?_) (fun h2 => ?_)
  · rw [if_pos h2] at hf
    refine lv_iconst (v := 0) K.1 K.2.1 dX2_hasTrade_38 (by decide) ?_
    have hf := Option.some.inj hf
    subst hf
    exact ah_zret K hG hL (Or.inl rfl) (Nat.le_refl _) (Nat.le_refl _) dX2_hasTrade_39
  · rw [if_neg h2] at hf
    refine lv_aload_n K.1 K.2.1 dX2_hasTrade_10 rfl (lv_at hl 0 rfl) ?_
    obtain ⟨v3, ev3, hf⟩ := Option.bind_eq_some_iff.mp hf
    refine ah_getr K hG ev3 ffX2_24_2 dX2_hasTrade_11 ?_
    refine lv_iload_n K.1 K.2.1 dX2_hasTrade_14 rfl (lv_at hl 3 rfl) ?_
    obtain ⟨v4, ev4, hf⟩ := Option.bind_eq_some_iff.mp hf
    refine ah_iald K hG ev4 dX2_hasTrade_15 ?_
    refine lv_iload_n K.1 K.2.1 dX2_hasTrade_16 rfl (lv_at hl 1 rfl) ?_
    refine lv_icmp_ne (tgt := 32) K.1 K.2.1 dX2_hasTrade_17 (by decide) (fun h5 => ?_) (fun h5 => ?_)
    · rw [if_neg h5] at hf
      exact wX2_hasTrade_32 K k2 hk2 a0 x1 x2 x3 _ _ _ hG hL (lv_sub hl [0, 1, 2, 3] rfl) _ hf
    · rw [if_pos h5] at hf
      refine lv_aload_n K.1 K.2.1 dX2_hasTrade_20 rfl (lv_at hl 0 rfl) ?_
      obtain ⟨v6, ev6, hf⟩ := Option.bind_eq_some_iff.mp hf
      refine ah_getr K hG ev6 ffX2_27_2 dX2_hasTrade_21 ?_
      refine lv_iload_n K.1 K.2.1 dX2_hasTrade_24 rfl (lv_at hl 3 rfl) ?_
      obtain ⟨v7, ev7, hf⟩ := Option.bind_eq_some_iff.mp hf
      refine ah_iald K hG ev7 dX2_hasTrade_25 ?_
      refine lv_iload_n K.1 K.2.1 dX2_hasTrade_26 rfl (lv_at hl 2 rfl) ?_
      refine lv_icmp_ne (tgt := 32) K.1 K.2.1 dX2_hasTrade_27 (by decide) (fun h8 => ?_) (fun h8 => ?_)
      · rw [if_neg h8] at hf
        exact wX2_hasTrade_32 K k2 hk2 a0 x1 x2 x3 _ _ _ hG hL (lv_sub hl [0, 1, 2, 3] rfl) _ hf
      · rw [if_pos h8] at hf
        refine lv_iconst (v := 1) K.1 K.2.1 dX2_hasTrade_30 (by decide) ?_
        have hf := Option.some.inj hf
        subst hf
        exact ah_zret K hG hL (Or.inr rfl) (Nat.le_refl _) (Nat.le_refl _) dX2_hasTrade_31
theorem wX2_hasTrade_2 {p : Program} {l : Launch} {e : Env} {s : State} {m : MethodId} {args : Array Value} {below : List Frame} {meth : Method} {c : Code} {D : va_G} {ca : Nat → ClassId} {H0 : Heap} {M : ah_h} {z : Nat} (K : ah_K p s m args meth c D ca "ShipsThatMeet$Fleet" cX2_hasTrade 4 (some .boolean))   (n : Nat) : ∀ (a0 : Nat) (x1 : Int32) (x2 : Int32) (x3 : Int32)  (H : Heap) (locs : List Loc) (ls : Array Slot), ah_g H0 D ca M z H → ah_L H0 locs → lv_has ls 4 [(0, .ref a0), (1, .int x1), (2, .int x2), (3, .int x3)] → ∀ Z, fX2_hasTrade_2   M n a0 x1 x2 x3 = some Z → W p l e { frames := 0, cells := 0, slots := 0, locals := 0 } s m args below meth c H locs 0 0 (ah_Q below args s H0 D ca 0 0 (some (.int Z)) M z) (F0 m 2 ls []) := by
  induction n with
  | zero => intro a0 x1 x2 x3 H locs ls hG hL hl Z hf; cases hf
  | succ n ih => exact wX2_hasTrade_2_b K  _ ih
def fX2_hasTrade (M : ah_h) (a0 : Nat) (x1 : Int32) (x2 : Int32) : Option (Int32) := (ah_ob M a0 2).bind fun _ => fX2_hasTrade_2 M ah_fu a0 x1 x2 0
set_option maxRecDepth 100000 in
set_option maxHeartbeats 4000000 in
theorem ctX2_hasTrade (l : Launch) (H0 : Heap) (D : va_G) (ca : Nat → ClassId) (M : ah_h) (z : Nat) (a0 : Nat) (x1 : Int32) (x2 : Int32) (Z : Int32) (hf : fX2_hasTrade M a0 x1 x2 = some Z) : ah_ct l H0 D ca yX2_hasTrade cX2_hasTrade 4 (some .boolean) 0 0 0 0 [.ref a0, .int x1, .int x2] M z (some (.int Z)) M z := by
  refine ah_of (by decide) (Nat.le_of_ble_eq_true rfl) ?_
  intro p e s m below meth c ls hin K hG hl
  have hL : ah_L H0 [] := ah_L.nil
  have hl : lv_has ls 4 [(0, .ref a0), (1, .int x1), (2, .int x2)] := hl
  unfold fX2_hasTrade at hf
  obtain ⟨-, -, hf⟩ := Option.bind_eq_some_iff.mp hf
  refine lv_iconst (v := 0) K.1 K.2.1 dX2_hasTrade_0 (by decide) ?_
  refine lv_istore_n (lv' := [(3, .int 0), (0, .ref a0), (1, .int x1), (2, .int x2)]) K.1 K.2.1 dX2_hasTrade_1 rfl hl (by decide) rfl (fun ls hl => ?_)
  exact wX2_hasTrade_2 K  ah_fu a0 x1 x2 0 _ _ _ hG hL (lv_sub hl [1, 2, 3, 0] rfl) _ hf
def fX2_mixedPairs_57  (k4 : Nat → Int32 → Int32 → Option (Int32)) (k16 : Nat → Int32 → Int32 → Int32 → Option (Int32)) (M : ah_h) (a0 : Nat) (x1 : Int32) (x2 : Int32) (x3 : Int32) : Option (Int32) := k16 a0 x1 x2 (x3 + 1)
set_option maxRecDepth 100000 in
set_option maxHeartbeats 4000000 in
theorem wX2_mixedPairs_57 {p : Program} {l : Launch} {e : Env} {s : State} {m : MethodId} {args : Array Value} {below : List Frame} {meth : Method} {c : Code} {D : va_G} {ca : Nat → ClassId} {H0 : Heap} {M : ah_h} {z : Nat} (K : ah_K p s m args meth c D ca "ShipsThatMeet$Fleet" cX2_mixedPairs 4 (some .int))  (k4 : Nat → Int32 → Int32 → Option (Int32)) (hk4 : ∀ (a0 : Nat) (x1 : Int32) (x2 : Int32)  (H : Heap) (locs : List Loc) (ls : Array Slot), ah_g H0 D ca M z H → ah_L H0 locs → lv_has ls 4 [(0, .ref a0), (1, .int x1), (2, .int x2)] → ∀ Z, k4 a0 x1 x2 = some Z → W p l e { frames := 0, cells := 0, slots := 0, locals := 0 } s m args below meth c H locs 0 0 (ah_Q below args s H0 D ca 0 0 (some (.int Z)) M z) (F0 m 4 ls [])) (k16 : Nat → Int32 → Int32 → Int32 → Option (Int32)) (hk16 : ∀ (a0 : Nat) (x1 : Int32) (x2 : Int32) (x3 : Int32)  (H : Heap) (locs : List Loc) (ls : Array Slot), ah_g H0 D ca M z H → ah_L H0 locs → lv_has ls 4 [(0, .ref a0), (1, .int x1), (2, .int x2), (3, .int x3)] → ∀ Z, k16 a0 x1 x2 x3 = some Z → W p l e { frames := 0, cells := 0, slots := 0, locals := 0 } s m args below meth c H locs 0 0 (ah_Q below args s H0 D ca 0 0 (some (.int Z)) M z) (F0 m 16 ls [])) : ∀ (a0 : Nat) (x1 : Int32) (x2 : Int32) (x3 : Int32)  (H : Heap) (locs : List Loc) (ls : Array Slot), ah_g H0 D ca M z H → ah_L H0 locs → lv_has ls 4 [(0, .ref a0), (1, .int x1), (2, .int x2), (3, .int x3)] → ∀ Z, fX2_mixedPairs_57  k4 k16 M a0 x1 x2 x3 = some Z → W p l e { frames := 0, cells := 0, slots := 0, locals := 0 } s m args below meth c H locs 0 0 (ah_Q below args s H0 D ca 0 0 (some (.int Z)) M z) (F0 m 57 ls []) := by
  intro a0 x1 x2 x3 H locs ls hG hL hl Z hf
  unfold fX2_mixedPairs_57 at hf
  refine lv_iinc (v := x3 + 1) (lv' := [(3, .int (x3 + 1)), (0, .ref a0), (1, .int x1), (2, .int x2)]) K.1 K.2.1 dX2_mixedPairs_57 hl (k := 3) rfl rfl (by decide) rfl (fun ls hl => ?_)
  refine lv_goto (tgt := 16) K.1 K.2.1 dX2_mixedPairs_60 (by decide) ?_
  exact hk16 a0 x1 x2 (x3 + 1) _ _ _ hG hL (lv_sub hl [1, 2, 3, 0] rfl) _ hf
def fX2_mixedPairs_16_b  (k4 : Nat → Int32 → Int32 → Option (Int32)) (k16 : Nat → Int32 → Int32 → Int32 → Option (Int32)) (M : ah_h) (a0 : Nat) (x1 : Int32) (x2 : Int32) (x3 : Int32) : Option (Int32) := (ah_gi M a0 2 1).bind fun v1 => if v1 ≤ x3 then (k4 a0 x1 (x2 + 1)) else ((ah_gr M a0 2 5).bind fun v3 => (ah_ai M v3 x2).bind fun v4 => (ah_gr M a0 2 5).bind fun v5 => (ah_ai M v5 x3).bind fun v6 => if v4 = v6 then ((ah_gr M a0 2 7).bind fun v8 => (ah_ai M v8 x2).bind fun v9 => (ah_gr M a0 2 7).bind fun v10 => (ah_ai M v10 x3).bind fun v11 => if v9 = v11 then (fX2_mixedPairs_57 k4 k16 M a0 x1 x2 x3) else (fX2_mixedPairs_57 k4 k16 M a0 (x1 + 1) x2 x3)) else (fX2_mixedPairs_57 k4 k16 M a0 x1 x2 x3))
def fX2_mixedPairs_16  (k4 : Nat → Int32 → Int32 → Option (Int32)) (M : ah_h) : Nat → Nat → Int32 → Int32 → Int32 → Option (Int32)
  | 0 => fun _ _ _ _ => none
  | n + 1 => fun a0 x1 x2 x3 => fX2_mixedPairs_16_b  k4 (fX2_mixedPairs_16  k4 M n) M a0 x1 x2 x3
set_option maxRecDepth 100000 in
set_option maxHeartbeats 4000000 in
theorem wX2_mixedPairs_16_b {p : Program} {l : Launch} {e : Env} {s : State} {m : MethodId} {args : Array Value} {below : List Frame} {meth : Method} {c : Code} {D : va_G} {ca : Nat → ClassId} {H0 : Heap} {M : ah_h} {z : Nat} (K : ah_K p s m args meth c D ca "ShipsThatMeet$Fleet" cX2_mixedPairs 4 (some .int))  (k4 : Nat → Int32 → Int32 → Option (Int32)) (hk4 : ∀ (a0 : Nat) (x1 : Int32) (x2 : Int32)  (H : Heap) (locs : List Loc) (ls : Array Slot), ah_g H0 D ca M z H → ah_L H0 locs → lv_has ls 4 [(0, .ref a0), (1, .int x1), (2, .int x2)] → ∀ Z, k4 a0 x1 x2 = some Z → W p l e { frames := 0, cells := 0, slots := 0, locals := 0 } s m args below meth c H locs 0 0 (ah_Q below args s H0 D ca 0 0 (some (.int Z)) M z) (F0 m 4 ls [])) (k16 : Nat → Int32 → Int32 → Int32 → Option (Int32)) (hk16 : ∀ (a0 : Nat) (x1 : Int32) (x2 : Int32) (x3 : Int32)  (H : Heap) (locs : List Loc) (ls : Array Slot), ah_g H0 D ca M z H → ah_L H0 locs → lv_has ls 4 [(0, .ref a0), (1, .int x1), (2, .int x2), (3, .int x3)] → ∀ Z, k16 a0 x1 x2 x3 = some Z → W p l e { frames := 0, cells := 0, slots := 0, locals := 0 } s m args below meth c H locs 0 0 (ah_Q below args s H0 D ca 0 0 (some (.int Z)) M z) (F0 m 16 ls [])) : ∀ (a0 : Nat) (x1 : Int32) (x2 : Int32) (x3 : Int32)  (H : Heap) (locs : List Loc) (ls : Array Slot), ah_g H0 D ca M z H → ah_L H0 locs → lv_has ls 4 [(0, .ref a0), (1, .int x1), (2, .int x2), (3, .int x3)] → ∀ Z, fX2_mixedPairs_16_b  k4 k16 M a0 x1 x2 x3 = some Z → W p l e { frames := 0, cells := 0, slots := 0, locals := 0 } s m args below meth c H locs 0 0 (ah_Q below args s H0 D ca 0 0 (some (.int Z)) M z) (F0 m 16 ls []) := by
  intro a0 x1 x2 x3 H locs ls hG hL hl Z hf
  unfold fX2_mixedPairs_16_b at hf
  refine lv_iload_n K.1 K.2.1 dX2_mixedPairs_16 rfl (lv_at hl 3 rfl) ?_
  refine lv_aload_n K.1 K.2.1 dX2_mixedPairs_17 rfl (lv_at hl 0 rfl) ?_
  obtain ⟨v1, ev1, hf⟩ := Option.bind_eq_some_iff.mp hf
  refine ah_geti K hG ev1 ffX2_43_2 dX2_mixedPairs_18 ?_
  refine lv_icmp_ge (tgt := 63) K.1 K.2.1 dX2_mixedPairs_21 (by decide) (fun h2 => ?_) (fun h2 => ?_)
  · rw [if_pos h2] at hf
    refine lv_iinc (v := x2 + 1) (lv' := [(2, .int (x2 + 1)), (0, .ref a0), (1, .int x1), (3, .int x3)]) K.1 K.2.1 dX2_mixedPairs_63 hl (k := 2) rfl rfl (by decide) rfl (fun ls hl => ?_)
    refine lv_goto (tgt := 4) K.1 K.2.1 dX2_mixedPairs_66 (by decide) ?_
    exact hk4 a0 x1 (x2 + 1) _ _ _ hG hL (lv_sub hl [1, 2, 0] rfl) _ hf
  · rw [if_neg h2] at hf
    refine lv_aload_n K.1 K.2.1 dX2_mixedPairs_24 rfl (lv_at hl 0 rfl) ?_
    obtain ⟨v3, ev3, hf⟩ := Option.bind_eq_some_iff.mp hf
    refine ah_getr K hG ev3 ffX2_24_2 dX2_mixedPairs_25 ?_
    refine lv_iload_n K.1 K.2.1 dX2_mixedPairs_28 rfl (lv_at hl 2 rfl) ?_
    obtain ⟨v4, ev4, hf⟩ := Option.bind_eq_some_iff.mp hf
    refine ah_iald K hG ev4 dX2_mixedPairs_29 ?_
    refine lv_aload_n K.1 K.2.1 dX2_mixedPairs_30 rfl (lv_at hl 0 rfl) ?_
    obtain ⟨v5, ev5, hf⟩ := Option.bind_eq_some_iff.mp hf
    refine ah_getr K hG ev5 ffX2_24_2 dX2_mixedPairs_31 ?_
    refine lv_iload_n K.1 K.2.1 dX2_mixedPairs_34 rfl (lv_at hl 3 rfl) ?_
    obtain ⟨v6, ev6, hf⟩ := Option.bind_eq_some_iff.mp hf
    refine ah_iald K hG ev6 dX2_mixedPairs_35 ?_
    refine lv_icmp_ne (tgt := 57) K.1 K.2.1 dX2_mixedPairs_36 (by decide) (fun h7 => ?_) (fun h7 => ?_)
    · rw [if_neg h7] at hf
      exact wX2_mixedPairs_57 K k4 hk4 k16 hk16 a0 x1 x2 x3 _ _ _ hG hL (lv_sub hl [0, 1, 2, 3] rfl) _ hf
    · rw [if_pos h7] at hf
      refine lv_aload_n K.1 K.2.1 dX2_mixedPairs_39 rfl (lv_at hl 0 rfl) ?_
      obtain ⟨v8, ev8, hf⟩ := Option.bind_eq_some_iff.mp hf
      refine ah_getr K hG ev8 ffX2_30_2 dX2_mixedPairs_40 ?_
      refine lv_iload_n K.1 K.2.1 dX2_mixedPairs_43 rfl (lv_at hl 2 rfl) ?_
      obtain ⟨v9, ev9, hf⟩ := Option.bind_eq_some_iff.mp hf
      refine ah_iald K hG ev9 dX2_mixedPairs_44 ?_
      refine lv_aload_n K.1 K.2.1 dX2_mixedPairs_45 rfl (lv_at hl 0 rfl) ?_
      obtain ⟨v10, ev10, hf⟩ := Option.bind_eq_some_iff.mp hf
      refine ah_getr K hG ev10 ffX2_30_2 dX2_mixedPairs_46 ?_
      refine lv_iload_n K.1 K.2.1 dX2_mixedPairs_49 rfl (lv_at hl 3 rfl) ?_
      obtain ⟨v11, ev11, hf⟩ := Option.bind_eq_some_iff.mp hf
      refine ah_iald K hG ev11 dX2_mixedPairs_50 ?_
      refine lv_icmp_eq (tgt := 57) K.1 K.2.1 dX2_mixedPairs_51 (by decide) (fun h12 => ?_) (fun h12 => ?_)
      · rw [if_pos h12] at hf
        exact wX2_mixedPairs_57 K k4 hk4 k16 hk16 a0 x1 x2 x3 _ _ _ hG hL (lv_sub hl [0, 1, 2, 3] rfl) _ hf
      · rw [if_neg h12] at hf
        refine lv_iinc (v := x1 + 1) (lv' := [(1, .int (x1 + 1)), (0, .ref a0), (2, .int x2), (3, .int x3)]) K.1 K.2.1 dX2_mixedPairs_54 hl (k := 1) rfl rfl (by decide) rfl (fun ls hl => ?_)
        exact wX2_mixedPairs_57 K k4 hk4 k16 hk16 a0 (x1 + 1) x2 x3 _ _ _ hG hL (lv_sub hl [1, 0, 2, 3] rfl) _ hf
theorem wX2_mixedPairs_16 {p : Program} {l : Launch} {e : Env} {s : State} {m : MethodId} {args : Array Value} {below : List Frame} {meth : Method} {c : Code} {D : va_G} {ca : Nat → ClassId} {H0 : Heap} {M : ah_h} {z : Nat} (K : ah_K p s m args meth c D ca "ShipsThatMeet$Fleet" cX2_mixedPairs 4 (some .int))  (k4 : Nat → Int32 → Int32 → Option (Int32)) (hk4 : ∀ (a0 : Nat) (x1 : Int32) (x2 : Int32)  (H : Heap) (locs : List Loc) (ls : Array Slot), ah_g H0 D ca M z H → ah_L H0 locs → lv_has ls 4 [(0, .ref a0), (1, .int x1), (2, .int x2)] → ∀ Z, k4 a0 x1 x2 = some Z → W p l e { frames := 0, cells := 0, slots := 0, locals := 0 } s m args below meth c H locs 0 0 (ah_Q below args s H0 D ca 0 0 (some (.int Z)) M z) (F0 m 4 ls [])) (n : Nat) : ∀ (a0 : Nat) (x1 : Int32) (x2 : Int32) (x3 : Int32)  (H : Heap) (locs : List Loc) (ls : Array Slot), ah_g H0 D ca M z H → ah_L H0 locs → lv_has ls 4 [(0, .ref a0), (1, .int x1), (2, .int x2), (3, .int x3)] → ∀ Z, fX2_mixedPairs_16  k4 M n a0 x1 x2 x3 = some Z → W p l e { frames := 0, cells := 0, slots := 0, locals := 0 } s m args below meth c H locs 0 0 (ah_Q below args s H0 D ca 0 0 (some (.int Z)) M z) (F0 m 16 ls []) := by
  induction n with
  | zero => intro a0 x1 x2 x3 H locs ls hG hL hl Z hf; cases hf
  | succ n ih => exact wX2_mixedPairs_16_b K k4 hk4 _ ih
def fX2_mixedPairs_4_b   (k4 : Nat → Int32 → Int32 → Option (Int32)) (M : ah_h) (a0 : Nat) (x1 : Int32) (x2 : Int32) : Option (Int32) := (ah_gi M a0 2 1).bind fun v1 => if v1 ≤ x2 then (some x1) else (fX2_mixedPairs_16 k4 M ah_fu a0 x1 x2 (x2 + 1))
def fX2_mixedPairs_4   (M : ah_h) : Nat → Nat → Int32 → Int32 → Option (Int32)
  | 0 => fun _ _ _ => none
  | n + 1 => fun a0 x1 x2 => fX2_mixedPairs_4_b   (fX2_mixedPairs_4   M n) M a0 x1 x2
set_option maxRecDepth 100000 in
set_option maxHeartbeats 4000000 in
theorem wX2_mixedPairs_4_b {p : Program} {l : Launch} {e : Env} {s : State} {m : MethodId} {args : Array Value} {below : List Frame} {meth : Method} {c : Code} {D : va_G} {ca : Nat → ClassId} {H0 : Heap} {M : ah_h} {z : Nat} (K : ah_K p s m args meth c D ca "ShipsThatMeet$Fleet" cX2_mixedPairs 4 (some .int))   (k4 : Nat → Int32 → Int32 → Option (Int32)) (hk4 : ∀ (a0 : Nat) (x1 : Int32) (x2 : Int32)  (H : Heap) (locs : List Loc) (ls : Array Slot), ah_g H0 D ca M z H → ah_L H0 locs → lv_has ls 4 [(0, .ref a0), (1, .int x1), (2, .int x2)] → ∀ Z, k4 a0 x1 x2 = some Z → W p l e { frames := 0, cells := 0, slots := 0, locals := 0 } s m args below meth c H locs 0 0 (ah_Q below args s H0 D ca 0 0 (some (.int Z)) M z) (F0 m 4 ls [])) : ∀ (a0 : Nat) (x1 : Int32) (x2 : Int32)  (H : Heap) (locs : List Loc) (ls : Array Slot), ah_g H0 D ca M z H → ah_L H0 locs → lv_has ls 4 [(0, .ref a0), (1, .int x1), (2, .int x2)] → ∀ Z, fX2_mixedPairs_4_b   k4 M a0 x1 x2 = some Z → W p l e { frames := 0, cells := 0, slots := 0, locals := 0 } s m args below meth c H locs 0 0 (ah_Q below args s H0 D ca 0 0 (some (.int Z)) M z) (F0 m 4 ls []) := by
  intro a0 x1 x2 H locs ls hG hL hl Z hf
  unfold fX2_mixedPairs_4_b at hf
  refine lv_iload_n K.1 K.2.1 dX2_mixedPairs_4 rfl (lv_at hl 2 rfl) ?_
  refine lv_aload_n K.1 K.2.1 dX2_mixedPairs_5 rfl (lv_at hl 0 rfl) ?_
  obtain ⟨v1, ev1, hf⟩ := Option.bind_eq_some_iff.mp hf
  refine ah_geti K hG ev1 ffX2_43_2 dX2_mixedPairs_6 ?_
  refine lv_icmp_ge (tgt := 69) K.1 K.2.1 dX2_mixedPairs_9 (by decide) (fun h2 => ?_) (fun h2 => ?_)
  · rw [if_pos h2] at hf
    refine lv_iload_n K.1 K.2.1 dX2_mixedPairs_69 rfl (lv_at hl 1 rfl) ?_
    have hf := Option.some.inj hf
    subst hf
    exact ah_iret K hG hL (Nat.le_refl _) (Nat.le_refl _) dX2_mixedPairs_70
  · rw [if_neg h2] at hf
    refine lv_iload_n K.1 K.2.1 dX2_mixedPairs_12 rfl (lv_at hl 2 rfl) ?_
    refine lv_iconst (v := 1) K.1 K.2.1 dX2_mixedPairs_13 (by decide) ?_
    refine lv_iadd K.1 K.2.1 dX2_mixedPairs_14 ?_
    refine lv_istore_n (lv' := [(3, .int (x2 + 1)), (0, .ref a0), (1, .int x1), (2, .int x2)]) K.1 K.2.1 dX2_mixedPairs_15 rfl hl (by decide) rfl (fun ls hl => ?_)
    exact wX2_mixedPairs_16 K k4 hk4 ah_fu a0 x1 x2 (x2 + 1) _ _ _ hG hL (lv_sub hl [1, 2, 3, 0] rfl) _ hf
theorem wX2_mixedPairs_4 {p : Program} {l : Launch} {e : Env} {s : State} {m : MethodId} {args : Array Value} {below : List Frame} {meth : Method} {c : Code} {D : va_G} {ca : Nat → ClassId} {H0 : Heap} {M : ah_h} {z : Nat} (K : ah_K p s m args meth c D ca "ShipsThatMeet$Fleet" cX2_mixedPairs 4 (some .int))   (n : Nat) : ∀ (a0 : Nat) (x1 : Int32) (x2 : Int32)  (H : Heap) (locs : List Loc) (ls : Array Slot), ah_g H0 D ca M z H → ah_L H0 locs → lv_has ls 4 [(0, .ref a0), (1, .int x1), (2, .int x2)] → ∀ Z, fX2_mixedPairs_4   M n a0 x1 x2 = some Z → W p l e { frames := 0, cells := 0, slots := 0, locals := 0 } s m args below meth c H locs 0 0 (ah_Q below args s H0 D ca 0 0 (some (.int Z)) M z) (F0 m 4 ls []) := by
  induction n with
  | zero => intro a0 x1 x2 H locs ls hG hL hl Z hf; cases hf
  | succ n ih => exact wX2_mixedPairs_4_b K  _ ih
def fX2_mixedPairs (M : ah_h) (a0 : Nat) : Option (Int32) := (ah_ob M a0 2).bind fun _ => fX2_mixedPairs_4 M ah_fu a0 0 0
set_option maxRecDepth 100000 in
set_option maxHeartbeats 4000000 in
theorem ctX2_mixedPairs (l : Launch) (H0 : Heap) (D : va_G) (ca : Nat → ClassId) (M : ah_h) (z : Nat) (a0 : Nat) (Z : Int32) (hf : fX2_mixedPairs M a0 = some Z) : ah_ct l H0 D ca yX2_mixedPairs cX2_mixedPairs 4 (some .int) 0 0 0 0 [.ref a0] M z (some (.int Z)) M z := by
  refine ah_of (by decide) (Nat.le_of_ble_eq_true rfl) ?_
  intro p e s m below meth c ls hin K hG hl
  have hL : ah_L H0 [] := ah_L.nil
  have hl : lv_has ls 4 [(0, .ref a0)] := hl
  unfold fX2_mixedPairs at hf
  obtain ⟨-, -, hf⟩ := Option.bind_eq_some_iff.mp hf
  refine lv_iconst (v := 0) K.1 K.2.1 dX2_mixedPairs_0 (by decide) ?_
  refine lv_istore_n (lv' := [(1, .int 0), (0, .ref a0)]) K.1 K.2.1 dX2_mixedPairs_1 rfl hl (by decide) rfl (fun ls hl => ?_)
  refine lv_iconst (v := 0) K.1 K.2.1 dX2_mixedPairs_2 (by decide) ?_
  refine lv_istore_n (lv' := [(2, .int 0), (1, .int 0), (0, .ref a0)]) K.1 K.2.1 dX2_mixedPairs_3 rfl hl (by decide) rfl (fun ls hl => ?_)
  exact wX2_mixedPairs_4 K  ah_fu a0 0 0 _ _ _ hG hL (lv_sub hl [2, 1, 0] rfl) _ hf
def fX2_withShipmates_32  (k4 : Nat → Int32 → Int32 → Int32 → Option (Int32)) (M : ah_h) (a0 : Nat) (x1 : Int32) (x2 : Int32) (x3 : Int32) : Option (Int32) := k4 a0 x1 x2 (x3 + 1)
set_option maxRecDepth 100000 in
set_option maxHeartbeats 4000000 in
theorem wX2_withShipmates_32 {p : Program} {l : Launch} {e : Env} {s : State} {m : MethodId} {args : Array Value} {below : List Frame} {meth : Method} {c : Code} {D : va_G} {ca : Nat → ClassId} {H0 : Heap} {M : ah_h} {z : Nat} (K : ah_K p s m args meth c D ca "ShipsThatMeet$Fleet" cX2_withShipmates 4 (some .int))  (k4 : Nat → Int32 → Int32 → Int32 → Option (Int32)) (hk4 : ∀ (a0 : Nat) (x1 : Int32) (x2 : Int32) (x3 : Int32)  (H : Heap) (locs : List Loc) (ls : Array Slot), ah_g H0 D ca M z H → ah_L H0 locs → lv_has ls 4 [(0, .ref a0), (1, .int x1), (2, .int x2), (3, .int x3)] → ∀ Z, k4 a0 x1 x2 x3 = some Z → W p l e { frames := 0, cells := 0, slots := 0, locals := 0 } s m args below meth c H locs 0 0 (ah_Q below args s H0 D ca 0 0 (some (.int Z)) M z) (F0 m 4 ls [])) : ∀ (a0 : Nat) (x1 : Int32) (x2 : Int32) (x3 : Int32)  (H : Heap) (locs : List Loc) (ls : Array Slot), ah_g H0 D ca M z H → ah_L H0 locs → lv_has ls 4 [(0, .ref a0), (1, .int x1), (2, .int x2), (3, .int x3)] → ∀ Z, fX2_withShipmates_32  k4 M a0 x1 x2 x3 = some Z → W p l e { frames := 0, cells := 0, slots := 0, locals := 0 } s m args below meth c H locs 0 0 (ah_Q below args s H0 D ca 0 0 (some (.int Z)) M z) (F0 m 32 ls []) := by
  intro a0 x1 x2 x3 H locs ls hG hL hl Z hf
  unfold fX2_withShipmates_32 at hf
  refine lv_iinc (v := x3 + 1) (lv' := [(3, .int (x3 + 1)), (0, .ref a0), (1, .int x1), (2, .int x2)]) K.1 K.2.1 dX2_withShipmates_32 hl (k := 3) rfl rfl (by decide) rfl (fun ls hl => ?_)
  refine lv_goto (tgt := 4) K.1 K.2.1 dX2_withShipmates_35 (by decide) ?_
  exact hk4 a0 x1 x2 (x3 + 1) _ _ _ hG hL (lv_sub hl [1, 2, 3, 0] rfl) _ hf
def fX2_withShipmates_4_b   (k4 : Nat → Int32 → Int32 → Int32 → Option (Int32)) (M : ah_h) (a0 : Nat) (x1 : Int32) (x2 : Int32) (x3 : Int32) : Option (Int32) := (ah_gi M a0 2 0).bind fun v1 => if v1 ≤ x3 then (some x2) else ((ah_gr M a0 2 4).bind fun v3 => (ah_ai M v3 x3).bind fun v4 => if (v4 &&& x1) = 0 then (fX2_withShipmates_32 k4 M a0 x1 x2 x3) else ((ah_gr M a0 2 4).bind fun v6 => (ah_ai M v6 x3).bind fun v7 => fX2_withShipmates_32 k4 M a0 x1 (x2 ||| v7) x3))
def fX2_withShipmates_4   (M : ah_h) : Nat → Nat → Int32 → Int32 → Int32 → Option (Int32)
  | 0 => fun _ _ _ _ => none
  | n + 1 => fun a0 x1 x2 x3 => fX2_withShipmates_4_b   (fX2_withShipmates_4   M n) M a0 x1 x2 x3
set_option maxRecDepth 100000 in
set_option maxHeartbeats 4000000 in
theorem wX2_withShipmates_4_b {p : Program} {l : Launch} {e : Env} {s : State} {m : MethodId} {args : Array Value} {below : List Frame} {meth : Method} {c : Code} {D : va_G} {ca : Nat → ClassId} {H0 : Heap} {M : ah_h} {z : Nat} (K : ah_K p s m args meth c D ca "ShipsThatMeet$Fleet" cX2_withShipmates 4 (some .int))   (k4 : Nat → Int32 → Int32 → Int32 → Option (Int32)) (hk4 : ∀ (a0 : Nat) (x1 : Int32) (x2 : Int32) (x3 : Int32)  (H : Heap) (locs : List Loc) (ls : Array Slot), ah_g H0 D ca M z H → ah_L H0 locs → lv_has ls 4 [(0, .ref a0), (1, .int x1), (2, .int x2), (3, .int x3)] → ∀ Z, k4 a0 x1 x2 x3 = some Z → W p l e { frames := 0, cells := 0, slots := 0, locals := 0 } s m args below meth c H locs 0 0 (ah_Q below args s H0 D ca 0 0 (some (.int Z)) M z) (F0 m 4 ls [])) : ∀ (a0 : Nat) (x1 : Int32) (x2 : Int32) (x3 : Int32)  (H : Heap) (locs : List Loc) (ls : Array Slot), ah_g H0 D ca M z H → ah_L H0 locs → lv_has ls 4 [(0, .ref a0), (1, .int x1), (2, .int x2), (3, .int x3)] → ∀ Z, fX2_withShipmates_4_b   k4 M a0 x1 x2 x3 = some Z → W p l e { frames := 0, cells := 0, slots := 0, locals := 0 } s m args below meth c H locs 0 0 (ah_Q below args s H0 D ca 0 0 (some (.int Z)) M z) (F0 m 4 ls []) := by
  intro a0 x1 x2 x3 H locs ls hG hL hl Z hf
  unfold fX2_withShipmates_4_b at hf
  refine lv_iload_n K.1 K.2.1 dX2_withShipmates_4 rfl (lv_at hl 3 rfl) ?_
  refine lv_aload_n K.1 K.2.1 dX2_withShipmates_5 rfl (lv_at hl 0 rfl) ?_
  obtain ⟨v1, ev1, hf⟩ := Option.bind_eq_some_iff.mp hf
  refine ah_geti K hG ev1 ffX2_39_2 dX2_withShipmates_6 ?_
  refine lv_icmp_ge (tgt := 38) K.1 K.2.1 dX2_withShipmates_9 (by decide) (fun h2 => ?_) (fun h2 => ?_)
  · rw [if_pos h2] at hf
    refine lv_iload_n K.1 K.2.1 dX2_withShipmates_38 rfl (lv_at hl 2 rfl) ?_
    have hf := Option.some.inj hf
    subst hf
    exact ah_iret K hG hL (Nat.le_refl _) (Nat.le_refl _) dX2_withShipmates_39
  · rw [if_neg h2] at hf
    refine lv_aload_n K.1 K.2.1 dX2_withShipmates_12 rfl (lv_at hl 0 rfl) ?_
    obtain ⟨v3, ev3, hf⟩ := Option.bind_eq_some_iff.mp hf
    refine ah_getr K hG ev3 ffX2_20_2 dX2_withShipmates_13 ?_
    refine lv_iload_n K.1 K.2.1 dX2_withShipmates_16 rfl (lv_at hl 3 rfl) ?_
    obtain ⟨v4, ev4, hf⟩ := Option.bind_eq_some_iff.mp hf
    refine ah_iald K hG ev4 dX2_withShipmates_17 ?_
    refine lv_iload_n K.1 K.2.1 dX2_withShipmates_18 rfl (lv_at hl 1 rfl) ?_
    refine lv_iand K.1 K.2.1 dX2_withShipmates_19 ?_
    refine lv_if_eq (tgt := 32) K.1 K.2.1 dX2_withShipmates_20 (by decide) (fun h5 => ?_) (fun h5 => ?_)
    · rw [if_pos h5] at hf
      exact wX2_withShipmates_32 K k4 hk4 a0 x1 x2 x3 _ _ _ hG hL (lv_sub hl [0, 1, 2, 3] rfl) _ hf
    · rw [if_neg h5] at hf
      refine lv_iload_n K.1 K.2.1 dX2_withShipmates_23 rfl (lv_at hl 2 rfl) ?_
      refine lv_aload_n K.1 K.2.1 dX2_withShipmates_24 rfl (lv_at hl 0 rfl) ?_
      obtain ⟨v6, ev6, hf⟩ := Option.bind_eq_some_iff.mp hf
      refine ah_getr K hG ev6 ffX2_20_2 dX2_withShipmates_25 ?_
      refine lv_iload_n K.1 K.2.1 dX2_withShipmates_28 rfl (lv_at hl 3 rfl) ?_
      obtain ⟨v7, ev7, hf⟩ := Option.bind_eq_some_iff.mp hf
      refine ah_iald K hG ev7 dX2_withShipmates_29 ?_
      refine lv_ior K.1 K.2.1 dX2_withShipmates_30 ?_
      refine lv_istore_n (lv' := [(2, .int (x2 ||| v7)), (0, .ref a0), (1, .int x1), (3, .int x3)]) K.1 K.2.1 dX2_withShipmates_31 rfl hl (by decide) rfl (fun ls hl => ?_)
      exact wX2_withShipmates_32 K k4 hk4 a0 x1 (x2 ||| v7) x3 _ _ _ hG hL (lv_sub hl [1, 2, 0, 3] rfl) _ hf
theorem wX2_withShipmates_4 {p : Program} {l : Launch} {e : Env} {s : State} {m : MethodId} {args : Array Value} {below : List Frame} {meth : Method} {c : Code} {D : va_G} {ca : Nat → ClassId} {H0 : Heap} {M : ah_h} {z : Nat} (K : ah_K p s m args meth c D ca "ShipsThatMeet$Fleet" cX2_withShipmates 4 (some .int))   (n : Nat) : ∀ (a0 : Nat) (x1 : Int32) (x2 : Int32) (x3 : Int32)  (H : Heap) (locs : List Loc) (ls : Array Slot), ah_g H0 D ca M z H → ah_L H0 locs → lv_has ls 4 [(0, .ref a0), (1, .int x1), (2, .int x2), (3, .int x3)] → ∀ Z, fX2_withShipmates_4   M n a0 x1 x2 x3 = some Z → W p l e { frames := 0, cells := 0, slots := 0, locals := 0 } s m args below meth c H locs 0 0 (ah_Q below args s H0 D ca 0 0 (some (.int Z)) M z) (F0 m 4 ls []) := by
  induction n with
  | zero => intro a0 x1 x2 x3 H locs ls hG hL hl Z hf; cases hf
  | succ n ih => exact wX2_withShipmates_4_b K  _ ih
def fX2_withShipmates (M : ah_h) (a0 : Nat) (x1 : Int32) : Option (Int32) := (ah_ob M a0 2).bind fun _ => fX2_withShipmates_4 M ah_fu a0 x1 x1 0
set_option maxRecDepth 100000 in
set_option maxHeartbeats 4000000 in
theorem ctX2_withShipmates (l : Launch) (H0 : Heap) (D : va_G) (ca : Nat → ClassId) (M : ah_h) (z : Nat) (a0 : Nat) (x1 : Int32) (Z : Int32) (hf : fX2_withShipmates M a0 x1 = some Z) : ah_ct l H0 D ca yX2_withShipmates cX2_withShipmates 4 (some .int) 0 0 0 0 [.ref a0, .int x1] M z (some (.int Z)) M z := by
  refine ah_of (by decide) (Nat.le_of_ble_eq_true rfl) ?_
  intro p e s m below meth c ls hin K hG hl
  have hL : ah_L H0 [] := ah_L.nil
  have hl : lv_has ls 4 [(0, .ref a0), (1, .int x1)] := hl
  unfold fX2_withShipmates at hf
  obtain ⟨-, -, hf⟩ := Option.bind_eq_some_iff.mp hf
  refine lv_iload_n K.1 K.2.1 dX2_withShipmates_0 rfl (lv_at hl 1 rfl) ?_
  refine lv_istore_n (lv' := [(2, .int x1), (0, .ref a0), (1, .int x1)]) K.1 K.2.1 dX2_withShipmates_1 rfl hl (by decide) rfl (fun ls hl => ?_)
  refine lv_iconst (v := 0) K.1 K.2.1 dX2_withShipmates_2 (by decide) ?_
  refine lv_istore_n (lv' := [(3, .int 0), (2, .int x1), (0, .ref a0), (1, .int x1)]) K.1 K.2.1 dX2_withShipmates_3 rfl hl (by decide) rfl (fun ls hl => ?_)
  exact wX2_withShipmates_4 K  ah_fu a0 x1 x1 0 _ _ _ hG hL (lv_sub hl [2, 3, 1, 0] rfl) _ hf
def fX2_setAllCaptains_2_b   (k2 : ah_h → Nat → Nat → Int32 → Option (ah_h))  (M : ah_h) (a0 : Nat) (a1 : Nat) (x2 : Int32) : Option (ah_h) := (ah_gi M a0 2 0).bind fun v1 => if v1 ≤ x2 then (some M) else ((ah_gr M a0 2 3).bind fun v3 => (ah_oc M a1).bind fun y5 => (ah_sr M v3 2 x2 a1).bind fun M4 => k2 M4 a0 a1 (x2 + 1))
def fX2_setAllCaptains_2    : Nat → ah_h → Nat → Nat → Int32 → Option (ah_h)
  | 0 => fun _ _ _ _ => none
  | n + 1 => fun M a0 a1 x2 => fX2_setAllCaptains_2_b   (fX2_setAllCaptains_2    n)  M a0 a1 x2
set_option maxRecDepth 100000 in
set_option maxHeartbeats 4000000 in
theorem wX2_setAllCaptains_2_b {p : Program} {l : Launch} {e : Env} {s : State} {m : MethodId} {args : Array Value} {below : List Frame} {meth : Method} {c : Code} {D : va_G} {ca : Nat → ClassId} {H0 : Heap} {z : Nat} (K : ah_K p s m args meth c D ca "ShipsThatMeet$Fleet" cX2_setAllCaptains 3 none)   (k2 : ah_h → Nat → Nat → Int32 → Option (ah_h)) (hk2 : ∀ (M : ah_h) (a0 : Nat) (a1 : Nat) (x2 : Int32)  (H : Heap) (locs : List Loc) (ls : Array Slot), ah_g H0 D ca M z H → ah_L H0 locs → lv_has ls 3 [(0, .ref a0), (1, .ref a1), (2, .int x2)] → ∀ Z, k2 M a0 a1 x2 = some Z → W p l e { frames := 0, cells := 0, slots := 0, locals := 0 } s m args below meth c H locs 0 0 (ah_Q below args s H0 D ca 0 0 none Z z) (F0 m 2 ls [])) : ∀ (M : ah_h) (a0 : Nat) (a1 : Nat) (x2 : Int32)  (H : Heap) (locs : List Loc) (ls : Array Slot), ah_g H0 D ca M z H → ah_L H0 locs → lv_has ls 3 [(0, .ref a0), (1, .ref a1), (2, .int x2)] → ∀ Z, fX2_setAllCaptains_2_b   k2  M a0 a1 x2 = some Z → W p l e { frames := 0, cells := 0, slots := 0, locals := 0 } s m args below meth c H locs 0 0 (ah_Q below args s H0 D ca 0 0 none Z z) (F0 m 2 ls []) := by
  intro M a0 a1 x2 H locs ls hG hL hl Z hf
  unfold fX2_setAllCaptains_2_b at hf
  refine lv_iload_n K.1 K.2.1 dX2_setAllCaptains_2 rfl (lv_at hl 2 rfl) ?_
  refine lv_aload_n K.1 K.2.1 dX2_setAllCaptains_3 rfl (lv_at hl 0 rfl) ?_
  obtain ⟨v1, ev1, hf⟩ := Option.bind_eq_some_iff.mp hf
  refine ah_geti K hG ev1 ffX2_39_2 dX2_setAllCaptains_4 ?_
  refine lv_icmp_ge (tgt := 23) K.1 K.2.1 dX2_setAllCaptains_7 (by decide) (fun h2 => ?_) (fun h2 => ?_)
  · rw [if_pos h2] at hf
    have hf := Option.some.inj hf
    subst hf
    exact ah_vret K hG hL (Nat.le_refl _) (Nat.le_refl _) dX2_setAllCaptains_23
  · rw [if_neg h2] at hf
    refine lv_aload_n K.1 K.2.1 dX2_setAllCaptains_10 rfl (lv_at hl 0 rfl) ?_
    obtain ⟨v3, ev3, hf⟩ := Option.bind_eq_some_iff.mp hf
    refine ah_getr K hG ev3 ffX2_11_2 dX2_setAllCaptains_11 ?_
    refine lv_iload_n K.1 K.2.1 dX2_setAllCaptains_14 rfl (lv_at hl 2 rfl) ?_
    refine lv_aload_n K.1 K.2.1 dX2_setAllCaptains_15 rfl (lv_at hl 1 rfl) ?_
    obtain ⟨y5, ey5, hf⟩ := Option.bind_eq_some_iff.mp hf
    obtain ⟨M4, eM4, hf⟩ := Option.bind_eq_some_iff.mp hf
    refine ah_aast (t := 2) K hG hL eM4 rfl (ah_anyC K hG ey5) dX2_setAllCaptains_16 (fun H locs hG hL => ?_)
    refine lv_iinc (v := x2 + 1) (lv' := [(2, .int (x2 + 1)), (0, .ref a0), (1, .ref a1)]) K.1 K.2.1 dX2_setAllCaptains_17 hl (k := 2) rfl rfl (by decide) rfl (fun ls hl => ?_)
    refine lv_goto (tgt := 2) K.1 K.2.1 dX2_setAllCaptains_20 (by decide) ?_
    exact hk2 M4 a0 a1 (x2 + 1) _ _ _ hG hL (lv_sub hl [1, 2, 0] rfl) _ hf
theorem wX2_setAllCaptains_2 {p : Program} {l : Launch} {e : Env} {s : State} {m : MethodId} {args : Array Value} {below : List Frame} {meth : Method} {c : Code} {D : va_G} {ca : Nat → ClassId} {H0 : Heap} {z : Nat} (K : ah_K p s m args meth c D ca "ShipsThatMeet$Fleet" cX2_setAllCaptains 3 none)   (n : Nat) : ∀ (M : ah_h) (a0 : Nat) (a1 : Nat) (x2 : Int32)  (H : Heap) (locs : List Loc) (ls : Array Slot), ah_g H0 D ca M z H → ah_L H0 locs → lv_has ls 3 [(0, .ref a0), (1, .ref a1), (2, .int x2)] → ∀ Z, fX2_setAllCaptains_2    n M a0 a1 x2 = some Z → W p l e { frames := 0, cells := 0, slots := 0, locals := 0 } s m args below meth c H locs 0 0 (ah_Q below args s H0 D ca 0 0 none Z z) (F0 m 2 ls []) := by
  induction n with
  | zero => intro M a0 a1 x2 H locs ls hG hL hl Z hf; cases hf
  | succ n ih => exact wX2_setAllCaptains_2_b K  _ ih
def fX2_setAllCaptains (M : ah_h) (a0 : Nat) (x1 : Nat) : Option (ah_h) := (ah_ob M a0 2).bind fun _ => fX2_setAllCaptains_2 ah_fu M a0 x1 0
set_option maxRecDepth 100000 in
set_option maxHeartbeats 4000000 in
theorem ctX2_setAllCaptains (l : Launch) (H0 : Heap) (D : va_G) (ca : Nat → ClassId) (M : ah_h) (z : Nat) (a0 : Nat) (x1 : Nat) (Z : ah_h) (hf : fX2_setAllCaptains M a0 x1 = some Z) : ah_ct l H0 D ca yX2_setAllCaptains cX2_setAllCaptains 3 none 0 0 0 0 [.ref a0, .ref x1] M z none Z z := by
  refine ah_of (by decide) (Nat.le_of_ble_eq_true rfl) ?_
  intro p e s m below meth c ls hin K hG hl
  have hL : ah_L H0 [] := ah_L.nil
  have hl : lv_has ls 3 [(0, .ref a0), (1, .ref x1)] := hl
  unfold fX2_setAllCaptains at hf
  obtain ⟨-, -, hf⟩ := Option.bind_eq_some_iff.mp hf
  refine lv_iconst (v := 0) K.1 K.2.1 dX2_setAllCaptains_0 (by decide) ?_
  refine lv_istore_n (lv' := [(2, .int 0), (0, .ref a0), (1, .ref x1)]) K.1 K.2.1 dX2_setAllCaptains_1 rfl hl (by decide) rfl (fun ls hl => ?_)
  exact wX2_setAllCaptains_2 K  ah_fu M a0 x1 0 _ _ _ hG hL (lv_sub hl [1, 2, 0] rfl) _ hf
def fX2_isAstray (M : ah_h) (a0 : Nat) (x1 : Int32) (x2 : Nat) : Option (Int32) := (ah_ob M a0 2).bind fun _ => (ah_al M x2).bind fun v1 => if v1 ≤ x1 then (some 0) else ((ah_ai M x2 x1).bind fun v3 => if v3 = (-1) then (some 0) else ((ah_ai M x2 x1).bind fun v5 => (ah_gr M a0 2 5).bind fun v6 => (ah_ai M v6 x1).bind fun v7 => if v5 = v7 then (some 0) else (some 1)))
set_option maxRecDepth 100000 in
set_option maxHeartbeats 4000000 in
theorem ctX2_isAstray (l : Launch) (H0 : Heap) (D : va_G) (ca : Nat → ClassId) (M : ah_h) (z : Nat) (a0 : Nat) (x1 : Int32) (x2 : Nat) (Z : Int32) (hf : fX2_isAstray M a0 x1 x2 = some Z) : ah_ct l H0 D ca yX2_isAstray cX2_isAstray 3 (some .boolean) 0 0 0 0 [.ref a0, .int x1, .ref x2] M z (some (.int Z)) M z := by
  refine ah_of (by decide) (Nat.le_of_ble_eq_true rfl) ?_
  intro p e s m below meth c ls hin K hG hl
  have hL : ah_L H0 [] := ah_L.nil
  have hl : lv_has ls 3 [(0, .ref a0), (1, .int x1), (2, .ref x2)] := hl
  unfold fX2_isAstray at hf
  obtain ⟨-, -, hf⟩ := Option.bind_eq_some_iff.mp hf
  refine lv_iload_n K.1 K.2.1 dX2_isAstray_0 rfl (lv_at hl 1 rfl) ?_
  refine lv_aload_n K.1 K.2.1 dX2_isAstray_1 rfl (lv_at hl 2 rfl) ?_
  obtain ⟨v1, ev1, hf⟩ := Option.bind_eq_some_iff.mp hf
  refine ah_ale K hG ev1 dX2_isAstray_2 ?_
  refine lv_icmp_ge (tgt := 29) K.1 K.2.1 dX2_isAstray_3 (by decide) (fun h2 => ?_) (fun h2 => ?_)
  · rw [if_pos h2] at hf
    refine lv_iconst (v := 0) K.1 K.2.1 dX2_isAstray_29 (by decide) ?_
    have hf := Option.some.inj hf
    subst hf
    exact ah_zret K hG hL (Or.inl rfl) (Nat.le_refl _) (Nat.le_refl _) dX2_isAstray_30
  · rw [if_neg h2] at hf
    refine lv_aload_n K.1 K.2.1 dX2_isAstray_6 rfl (lv_at hl 2 rfl) ?_
    refine lv_iload_n K.1 K.2.1 dX2_isAstray_7 rfl (lv_at hl 1 rfl) ?_
    obtain ⟨v3, ev3, hf⟩ := Option.bind_eq_some_iff.mp hf
    refine ah_iald K hG ev3 dX2_isAstray_8 ?_
    refine lv_iconst (v := (-1)) K.1 K.2.1 dX2_isAstray_9 (by decide) ?_
    refine lv_icmp_eq (tgt := 29) K.1 K.2.1 dX2_isAstray_10 (by decide) (fun h4 => ?_) (fun h4 => ?_)
    · rw [if_pos h4] at hf
      refine lv_iconst (v := 0) K.1 K.2.1 dX2_isAstray_29 (by decide) ?_
      have hf := Option.some.inj hf
      subst hf
      exact ah_zret K hG hL (Or.inl rfl) (Nat.le_refl _) (Nat.le_refl _) dX2_isAstray_30
    · rw [if_neg h4] at hf
      refine lv_aload_n K.1 K.2.1 dX2_isAstray_13 rfl (lv_at hl 2 rfl) ?_
      refine lv_iload_n K.1 K.2.1 dX2_isAstray_14 rfl (lv_at hl 1 rfl) ?_
      obtain ⟨v5, ev5, hf⟩ := Option.bind_eq_some_iff.mp hf
      refine ah_iald K hG ev5 dX2_isAstray_15 ?_
      refine lv_aload_n K.1 K.2.1 dX2_isAstray_16 rfl (lv_at hl 0 rfl) ?_
      obtain ⟨v6, ev6, hf⟩ := Option.bind_eq_some_iff.mp hf
      refine ah_getr K hG ev6 ffX2_24_2 dX2_isAstray_17 ?_
      refine lv_iload_n K.1 K.2.1 dX2_isAstray_20 rfl (lv_at hl 1 rfl) ?_
      obtain ⟨v7, ev7, hf⟩ := Option.bind_eq_some_iff.mp hf
      refine ah_iald K hG ev7 dX2_isAstray_21 ?_
      refine lv_icmp_eq (tgt := 29) K.1 K.2.1 dX2_isAstray_22 (by decide) (fun h8 => ?_) (fun h8 => ?_)
      · rw [if_pos h8] at hf
        refine lv_iconst (v := 0) K.1 K.2.1 dX2_isAstray_29 (by decide) ?_
        have hf := Option.some.inj hf
        subst hf
        exact ah_zret K hG hL (Or.inl rfl) (Nat.le_refl _) (Nat.le_refl _) dX2_isAstray_30
      · rw [if_neg h8] at hf
        refine lv_iconst (v := 1) K.1 K.2.1 dX2_isAstray_25 (by decide) ?_
        refine lv_goto (tgt := 30) K.1 K.2.1 dX2_isAstray_26 (by decide) ?_
        have hf := Option.some.inj hf
        subst hf
        exact ah_zret K hG hL (Or.inr rfl) (Nat.le_refl _) (Nat.le_refl _) dX2_isAstray_30
def fX2_astray_24  (k4 : Nat → Nat → Int32 → Int32 → Option (Int32)) (M : ah_h) (a0 : Nat) (a1 : Nat) (x2 : Int32) (x3 : Int32) : Option (Int32) := k4 a0 a1 x2 (x3 + 1)
set_option maxRecDepth 100000 in
set_option maxHeartbeats 4000000 in
theorem wX2_astray_24 {p : Program} {l : Launch} {e : Env} {s : State} {m : MethodId} {args : Array Value} {below : List Frame} {meth : Method} {c : Code} {D : va_G} {ca : Nat → ClassId} {H0 : Heap} {M : ah_h} {z : Nat} (K : ah_K p s m args meth c D ca "ShipsThatMeet$Fleet" cX2_astray 4 (some .int))  (k4 : Nat → Nat → Int32 → Int32 → Option (Int32)) (hk4 : ∀ (a0 : Nat) (a1 : Nat) (x2 : Int32) (x3 : Int32)  (H : Heap) (locs : List Loc) (ls : Array Slot), ah_g H0 D ca M z H → ah_L H0 locs → lv_has ls 4 [(0, .ref a0), (1, .ref a1), (2, .int x2), (3, .int x3)] → ∀ Z, k4 a0 a1 x2 x3 = some Z → W p l e { frames := 1, cells := 0, slots := 0, locals := 22 } s m args below meth c H locs 0 0 (ah_Q below args s H0 D ca 0 0 (some (.int Z)) M z) (F0 m 4 ls [])) : ∀ (a0 : Nat) (a1 : Nat) (x2 : Int32) (x3 : Int32)  (H : Heap) (locs : List Loc) (ls : Array Slot), ah_g H0 D ca M z H → ah_L H0 locs → lv_has ls 4 [(0, .ref a0), (1, .ref a1), (2, .int x2), (3, .int x3)] → ∀ Z, fX2_astray_24  k4 M a0 a1 x2 x3 = some Z → W p l e { frames := 1, cells := 0, slots := 0, locals := 22 } s m args below meth c H locs 0 0 (ah_Q below args s H0 D ca 0 0 (some (.int Z)) M z) (F0 m 24 ls []) := by
  intro a0 a1 x2 x3 H locs ls hG hL hl Z hf
  unfold fX2_astray_24 at hf
  refine lv_iinc (v := x3 + 1) (lv' := [(3, .int (x3 + 1)), (0, .ref a0), (1, .ref a1), (2, .int x2)]) K.1 K.2.1 dX2_astray_24 hl (k := 3) rfl rfl (by decide) rfl (fun ls hl => ?_)
  refine lv_goto (tgt := 4) K.1 K.2.1 dX2_astray_27 (by decide) ?_
  exact hk4 a0 a1 x2 (x3 + 1) _ _ _ hG hL (lv_sub hl [1, 2, 3, 0] rfl) _ hf
def fX2_astray_4_b   (k4 : Nat → Nat → Int32 → Int32 → Option (Int32)) (M : ah_h) (a0 : Nat) (a1 : Nat) (x2 : Int32) (x3 : Int32) : Option (Int32) := (ah_gi M a0 2 1).bind fun v1 => if v1 ≤ x3 then (some x2) else ((fX2_isAstray M a0 x3 a1).bind fun v3 => if v3 = 0 then (fX2_astray_24 k4 M a0 a1 x2 x3) else (fX2_astray_24 k4 M a0 a1 (x2 + 1) x3))
def fX2_astray_4   (M : ah_h) : Nat → Nat → Nat → Int32 → Int32 → Option (Int32)
  | 0 => fun _ _ _ _ => none
  | n + 1 => fun a0 a1 x2 x3 => fX2_astray_4_b   (fX2_astray_4   M n) M a0 a1 x2 x3
set_option maxRecDepth 100000 in
set_option maxHeartbeats 4000000 in
theorem wX2_astray_4_b {p : Program} {l : Launch} {e : Env} {s : State} {m : MethodId} {args : Array Value} {below : List Frame} {meth : Method} {c : Code} {D : va_G} {ca : Nat → ClassId} {H0 : Heap} {M : ah_h} {z : Nat} (K : ah_K p s m args meth c D ca "ShipsThatMeet$Fleet" cX2_astray 4 (some .int))   (k4 : Nat → Nat → Int32 → Int32 → Option (Int32)) (hk4 : ∀ (a0 : Nat) (a1 : Nat) (x2 : Int32) (x3 : Int32)  (H : Heap) (locs : List Loc) (ls : Array Slot), ah_g H0 D ca M z H → ah_L H0 locs → lv_has ls 4 [(0, .ref a0), (1, .ref a1), (2, .int x2), (3, .int x3)] → ∀ Z, k4 a0 a1 x2 x3 = some Z → W p l e { frames := 1, cells := 0, slots := 0, locals := 22 } s m args below meth c H locs 0 0 (ah_Q below args s H0 D ca 0 0 (some (.int Z)) M z) (F0 m 4 ls [])) : ∀ (a0 : Nat) (a1 : Nat) (x2 : Int32) (x3 : Int32)  (H : Heap) (locs : List Loc) (ls : Array Slot), ah_g H0 D ca M z H → ah_L H0 locs → lv_has ls 4 [(0, .ref a0), (1, .ref a1), (2, .int x2), (3, .int x3)] → ∀ Z, fX2_astray_4_b   k4 M a0 a1 x2 x3 = some Z → W p l e { frames := 1, cells := 0, slots := 0, locals := 22 } s m args below meth c H locs 0 0 (ah_Q below args s H0 D ca 0 0 (some (.int Z)) M z) (F0 m 4 ls []) := by
  intro a0 a1 x2 x3 H locs ls hG hL hl Z hf
  unfold fX2_astray_4_b at hf
  refine lv_iload_n K.1 K.2.1 dX2_astray_4 rfl (lv_at hl 3 rfl) ?_
  refine lv_aload_n K.1 K.2.1 dX2_astray_5 rfl (lv_at hl 0 rfl) ?_
  obtain ⟨v1, ev1, hf⟩ := Option.bind_eq_some_iff.mp hf
  refine ah_geti K hG ev1 ffX2_43_2 dX2_astray_6 ?_
  refine lv_icmp_ge (tgt := 30) K.1 K.2.1 dX2_astray_9 (by decide) (fun h2 => ?_) (fun h2 => ?_)
  · rw [if_pos h2] at hf
    refine lv_iload_n K.1 K.2.1 dX2_astray_30 rfl (lv_at hl 2 rfl) ?_
    have hf := Option.some.inj hf
    subst hf
    exact ah_iret K hG hL (Nat.le_refl _) (Nat.le_refl _) dX2_astray_31
  · rw [if_neg h2] at hf
    refine lv_aload_n K.1 K.2.1 dX2_astray_12 rfl (lv_at hl 0 rfl) ?_
    refine lv_iload_n K.1 K.2.1 dX2_astray_13 rfl (lv_at hl 3 rfl) ?_
    refine lv_aload_n K.1 K.2.1 dX2_astray_14 rfl (lv_at hl 1 rfl) ?_
    obtain ⟨v3, ev3, hf⟩ := Option.bind_eq_some_iff.mp hf
    obtain ⟨q4, eq4⟩ := ah_this ev3
    refine ah_callV (As := [.int x3, .ref a1]) (rest := []) K hG hL hl.1 eq4 rfl (ctX2_isAstray l H0 D ca M z a0 x3 a1 v3 ev3) hdX2_isAstray q_529 q_530 q_51 q_532 q_531 ⟨Nat.le_of_ble_eq_true rfl, Nat.le_of_ble_eq_true rfl⟩ rfl rfl (Nat.le_of_ble_eq_true rfl) ⟨Nat.le_refl _, Nat.le_refl _⟩ dX2_astray_15 (fun H locs hG hL => ?_)
    refine lv_if_eq (tgt := 24) K.1 K.2.1 dX2_astray_18 (by decide) (fun h5 => ?_) (fun h5 => ?_)
    · rw [if_pos h5] at hf
      exact wX2_astray_24 K k4 hk4 a0 a1 x2 x3 _ _ _ hG hL (lv_sub hl [0, 1, 2, 3] rfl) _ hf
    · rw [if_neg h5] at hf
      refine lv_iinc (v := x2 + 1) (lv' := [(2, .int (x2 + 1)), (0, .ref a0), (1, .ref a1), (3, .int x3)]) K.1 K.2.1 dX2_astray_21 hl (k := 2) rfl rfl (by decide) rfl (fun ls hl => ?_)
      exact wX2_astray_24 K k4 hk4 a0 a1 (x2 + 1) x3 _ _ _ hG hL (lv_sub hl [1, 2, 0, 3] rfl) _ hf
theorem wX2_astray_4 {p : Program} {l : Launch} {e : Env} {s : State} {m : MethodId} {args : Array Value} {below : List Frame} {meth : Method} {c : Code} {D : va_G} {ca : Nat → ClassId} {H0 : Heap} {M : ah_h} {z : Nat} (K : ah_K p s m args meth c D ca "ShipsThatMeet$Fleet" cX2_astray 4 (some .int))   (n : Nat) : ∀ (a0 : Nat) (a1 : Nat) (x2 : Int32) (x3 : Int32)  (H : Heap) (locs : List Loc) (ls : Array Slot), ah_g H0 D ca M z H → ah_L H0 locs → lv_has ls 4 [(0, .ref a0), (1, .ref a1), (2, .int x2), (3, .int x3)] → ∀ Z, fX2_astray_4   M n a0 a1 x2 x3 = some Z → W p l e { frames := 1, cells := 0, slots := 0, locals := 22 } s m args below meth c H locs 0 0 (ah_Q below args s H0 D ca 0 0 (some (.int Z)) M z) (F0 m 4 ls []) := by
  induction n with
  | zero => intro a0 a1 x2 x3 H locs ls hG hL hl Z hf; cases hf
  | succ n ih => exact wX2_astray_4_b K  _ ih
def fX2_astray (M : ah_h) (a0 : Nat) (x1 : Nat) : Option (Int32) := (ah_ob M a0 2).bind fun _ => fX2_astray_4 M ah_fu a0 x1 0 0
set_option maxRecDepth 100000 in
set_option maxHeartbeats 4000000 in
theorem ctX2_astray (l : Launch) (H0 : Heap) (D : va_G) (ca : Nat → ClassId) (M : ah_h) (z : Nat) (a0 : Nat) (x1 : Nat) (Z : Int32) (hf : fX2_astray M a0 x1 = some Z) : ah_ct l H0 D ca yX2_astray cX2_astray 4 (some .int) 1 22 0 0 [.ref a0, .ref x1] M z (some (.int Z)) M z := by
  refine ah_of (by decide) (Nat.le_of_ble_eq_true rfl) ?_
  intro p e s m below meth c ls hin K hG hl
  have hL : ah_L H0 [] := ah_L.nil
  have hl : lv_has ls 4 [(0, .ref a0), (1, .ref x1)] := hl
  unfold fX2_astray at hf
  obtain ⟨-, -, hf⟩ := Option.bind_eq_some_iff.mp hf
  refine lv_iconst (v := 0) K.1 K.2.1 dX2_astray_0 (by decide) ?_
  refine lv_istore_n (lv' := [(2, .int 0), (0, .ref a0), (1, .ref x1)]) K.1 K.2.1 dX2_astray_1 rfl hl (by decide) rfl (fun ls hl => ?_)
  refine lv_iconst (v := 0) K.1 K.2.1 dX2_astray_2 (by decide) ?_
  refine lv_istore_n (lv' := [(3, .int 0), (2, .int 0), (0, .ref a0), (1, .ref x1)]) K.1 K.2.1 dX2_astray_3 rfl hl (by decide) rfl (fun ls hl => ?_)
  exact wX2_astray_4 K  ah_fu a0 x1 0 0 _ _ _ hG hL (lv_sub hl [2, 3, 1, 0] rfl) _ hf
def fX2_firstAstray_2_b   (k2 : Nat → Nat → Int32 → Option (Int32)) (M : ah_h) (a0 : Nat) (a1 : Nat) (x2 : Int32) : Option (Int32) := (ah_gi M a0 2 1).bind fun v1 => if v1 ≤ x2 then (some (-4)) else ((fX2_isAstray M a0 x2 a1).bind fun v3 => if v3 = 0 then (k2 a0 a1 (x2 + 1)) else (some x2))
def fX2_firstAstray_2   (M : ah_h) : Nat → Nat → Nat → Int32 → Option (Int32)
  | 0 => fun _ _ _ => none
  | n + 1 => fun a0 a1 x2 => fX2_firstAstray_2_b   (fX2_firstAstray_2   M n) M a0 a1 x2
set_option maxRecDepth 100000 in
set_option maxHeartbeats 4000000 in
theorem wX2_firstAstray_2_b {p : Program} {l : Launch} {e : Env} {s : State} {m : MethodId} {args : Array Value} {below : List Frame} {meth : Method} {c : Code} {D : va_G} {ca : Nat → ClassId} {H0 : Heap} {M : ah_h} {z : Nat} (K : ah_K p s m args meth c D ca "ShipsThatMeet$Fleet" cX2_firstAstray 3 (some .int))   (k2 : Nat → Nat → Int32 → Option (Int32)) (hk2 : ∀ (a0 : Nat) (a1 : Nat) (x2 : Int32)  (H : Heap) (locs : List Loc) (ls : Array Slot), ah_g H0 D ca M z H → ah_L H0 locs → lv_has ls 3 [(0, .ref a0), (1, .ref a1), (2, .int x2)] → ∀ Z, k2 a0 a1 x2 = some Z → W p l e { frames := 1, cells := 0, slots := 0, locals := 22 } s m args below meth c H locs 0 0 (ah_Q below args s H0 D ca 0 0 (some (.int Z)) M z) (F0 m 2 ls [])) : ∀ (a0 : Nat) (a1 : Nat) (x2 : Int32)  (H : Heap) (locs : List Loc) (ls : Array Slot), ah_g H0 D ca M z H → ah_L H0 locs → lv_has ls 3 [(0, .ref a0), (1, .ref a1), (2, .int x2)] → ∀ Z, fX2_firstAstray_2_b   k2 M a0 a1 x2 = some Z → W p l e { frames := 1, cells := 0, slots := 0, locals := 22 } s m args below meth c H locs 0 0 (ah_Q below args s H0 D ca 0 0 (some (.int Z)) M z) (F0 m 2 ls []) := by
  intro a0 a1 x2 H locs ls hG hL hl Z hf
  unfold fX2_firstAstray_2_b at hf
  refine lv_iload_n K.1 K.2.1 dX2_firstAstray_2 rfl (lv_at hl 2 rfl) ?_
  refine lv_aload_n K.1 K.2.1 dX2_firstAstray_3 rfl (lv_at hl 0 rfl) ?_
  obtain ⟨v1, ev1, hf⟩ := Option.bind_eq_some_iff.mp hf
  refine ah_geti K hG ev1 ffX2_43_2 dX2_firstAstray_4 ?_
  refine lv_icmp_ge (tgt := 27) K.1 K.2.1 dX2_firstAstray_7 (by decide) (fun h2 => ?_) (fun h2 => ?_)
  · rw [if_pos h2] at hf
    refine lv_bipush (v := (-4)) K.1 K.2.1 dX2_firstAstray_27 (by decide) ?_
    have hf := Option.some.inj hf
    subst hf
    exact ah_iret K hG hL (Nat.le_refl _) (Nat.le_refl _) dX2_firstAstray_29
  · rw [if_neg h2] at hf
    refine lv_aload_n K.1 K.2.1 dX2_firstAstray_10 rfl (lv_at hl 0 rfl) ?_
    refine lv_iload_n K.1 K.2.1 dX2_firstAstray_11 rfl (lv_at hl 2 rfl) ?_
    refine lv_aload_n K.1 K.2.1 dX2_firstAstray_12 rfl (lv_at hl 1 rfl) ?_
    obtain ⟨v3, ev3, hf⟩ := Option.bind_eq_some_iff.mp hf
    obtain ⟨q4, eq4⟩ := ah_this ev3
    refine ah_callV (As := [.int x2, .ref a1]) (rest := []) K hG hL hl.1 eq4 rfl (ctX2_isAstray l H0 D ca M z a0 x2 a1 v3 ev3) hdX2_isAstray q_529 q_530 q_51 q_532 q_531 ⟨Nat.le_of_ble_eq_true rfl, Nat.le_of_ble_eq_true rfl⟩ rfl rfl (Nat.le_of_ble_eq_true rfl) ⟨Nat.le_refl _, Nat.le_refl _⟩ dX2_firstAstray_13 (fun H locs hG hL => ?_)
    refine lv_if_eq (tgt := 21) K.1 K.2.1 dX2_firstAstray_16 (by decide) (fun h5 => ?_) (fun h5 => ?_)
    · rw [if_pos h5] at hf
      refine lv_iinc (v := x2 + 1) (lv' := [(2, .int (x2 + 1)), (0, .ref a0), (1, .ref a1)]) K.1 K.2.1 dX2_firstAstray_21 hl (k := 2) rfl rfl (by decide) rfl (fun ls hl => ?_)
      refine lv_goto (tgt := 2) K.1 K.2.1 dX2_firstAstray_24 (by decide) ?_
      exact hk2 a0 a1 (x2 + 1) _ _ _ hG hL (lv_sub hl [1, 2, 0] rfl) _ hf
    · rw [if_neg h5] at hf
      refine lv_iload_n K.1 K.2.1 dX2_firstAstray_19 rfl (lv_at hl 2 rfl) ?_
      have hf := Option.some.inj hf
      subst hf
      exact ah_iret K hG hL (Nat.le_refl _) (Nat.le_refl _) dX2_firstAstray_20
theorem wX2_firstAstray_2 {p : Program} {l : Launch} {e : Env} {s : State} {m : MethodId} {args : Array Value} {below : List Frame} {meth : Method} {c : Code} {D : va_G} {ca : Nat → ClassId} {H0 : Heap} {M : ah_h} {z : Nat} (K : ah_K p s m args meth c D ca "ShipsThatMeet$Fleet" cX2_firstAstray 3 (some .int))   (n : Nat) : ∀ (a0 : Nat) (a1 : Nat) (x2 : Int32)  (H : Heap) (locs : List Loc) (ls : Array Slot), ah_g H0 D ca M z H → ah_L H0 locs → lv_has ls 3 [(0, .ref a0), (1, .ref a1), (2, .int x2)] → ∀ Z, fX2_firstAstray_2   M n a0 a1 x2 = some Z → W p l e { frames := 1, cells := 0, slots := 0, locals := 22 } s m args below meth c H locs 0 0 (ah_Q below args s H0 D ca 0 0 (some (.int Z)) M z) (F0 m 2 ls []) := by
  induction n with
  | zero => intro a0 a1 x2 H locs ls hG hL hl Z hf; cases hf
  | succ n ih => exact wX2_firstAstray_2_b K  _ ih
def fX2_firstAstray (M : ah_h) (a0 : Nat) (x1 : Nat) : Option (Int32) := (ah_ob M a0 2).bind fun _ => fX2_firstAstray_2 M ah_fu a0 x1 0
set_option maxRecDepth 100000 in
set_option maxHeartbeats 4000000 in
theorem ctX2_firstAstray (l : Launch) (H0 : Heap) (D : va_G) (ca : Nat → ClassId) (M : ah_h) (z : Nat) (a0 : Nat) (x1 : Nat) (Z : Int32) (hf : fX2_firstAstray M a0 x1 = some Z) : ah_ct l H0 D ca yX2_firstAstray cX2_firstAstray 3 (some .int) 1 22 0 0 [.ref a0, .ref x1] M z (some (.int Z)) M z := by
  refine ah_of (by decide) (Nat.le_of_ble_eq_true rfl) ?_
  intro p e s m below meth c ls hin K hG hl
  have hL : ah_L H0 [] := ah_L.nil
  have hl : lv_has ls 3 [(0, .ref a0), (1, .ref x1)] := hl
  unfold fX2_firstAstray at hf
  obtain ⟨-, -, hf⟩ := Option.bind_eq_some_iff.mp hf
  refine lv_iconst (v := 0) K.1 K.2.1 dX2_firstAstray_0 (by decide) ?_
  refine lv_istore_n (lv' := [(2, .int 0), (0, .ref a0), (1, .ref x1)]) K.1 K.2.1 dX2_firstAstray_1 rfl hl (by decide) rfl (fun ls hl => ?_)
  exact wX2_firstAstray_2 K  ah_fu a0 x1 0 _ _ _ hG hL (lv_sub hl [1, 2, 0] rfl) _ hf
def fX2_shipsWithoutMen_24  (k4 : Nat → Int32 → Int32 → Option (Int32)) (M : ah_h) (a0 : Nat) (x1 : Int32) (x2 : Int32) : Option (Int32) := k4 a0 x1 (x2 + 1)
set_option maxRecDepth 100000 in
set_option maxHeartbeats 4000000 in
theorem wX2_shipsWithoutMen_24 {p : Program} {l : Launch} {e : Env} {s : State} {m : MethodId} {args : Array Value} {below : List Frame} {meth : Method} {c : Code} {D : va_G} {ca : Nat → ClassId} {H0 : Heap} {M : ah_h} {z : Nat} (K : ah_K p s m args meth c D ca "ShipsThatMeet$Fleet" cX2_shipsWithoutMen 3 (some .int))  (k4 : Nat → Int32 → Int32 → Option (Int32)) (hk4 : ∀ (a0 : Nat) (x1 : Int32) (x2 : Int32)  (H : Heap) (locs : List Loc) (ls : Array Slot), ah_g H0 D ca M z H → ah_L H0 locs → lv_has ls 3 [(0, .ref a0), (1, .int x1), (2, .int x2)] → ∀ Z, k4 a0 x1 x2 = some Z → W p l e { frames := 0, cells := 0, slots := 0, locals := 0 } s m args below meth c H locs 0 0 (ah_Q below args s H0 D ca 0 0 (some (.int Z)) M z) (F0 m 4 ls [])) : ∀ (a0 : Nat) (x1 : Int32) (x2 : Int32)  (H : Heap) (locs : List Loc) (ls : Array Slot), ah_g H0 D ca M z H → ah_L H0 locs → lv_has ls 3 [(0, .ref a0), (1, .int x1), (2, .int x2)] → ∀ Z, fX2_shipsWithoutMen_24  k4 M a0 x1 x2 = some Z → W p l e { frames := 0, cells := 0, slots := 0, locals := 0 } s m args below meth c H locs 0 0 (ah_Q below args s H0 D ca 0 0 (some (.int Z)) M z) (F0 m 24 ls []) := by
  intro a0 x1 x2 H locs ls hG hL hl Z hf
  unfold fX2_shipsWithoutMen_24 at hf
  refine lv_iinc (v := x2 + 1) (lv' := [(2, .int (x2 + 1)), (0, .ref a0), (1, .int x1)]) K.1 K.2.1 dX2_shipsWithoutMen_24 hl (k := 2) rfl rfl (by decide) rfl (fun ls hl => ?_)
  refine lv_goto (tgt := 4) K.1 K.2.1 dX2_shipsWithoutMen_27 (by decide) ?_
  exact hk4 a0 x1 (x2 + 1) _ _ _ hG hL (lv_sub hl [1, 2, 0] rfl) _ hf
def fX2_shipsWithoutMen_4_b   (k4 : Nat → Int32 → Int32 → Option (Int32)) (M : ah_h) (a0 : Nat) (x1 : Int32) (x2 : Int32) : Option (Int32) := (ah_gi M a0 2 0).bind fun v1 => if v1 ≤ x2 then (some x1) else ((ah_gr M a0 2 4).bind fun v3 => (ah_ai M v3 x2).bind fun v4 => if v4 = 0 then (fX2_shipsWithoutMen_24 k4 M a0 (x1 + 1) x2) else (fX2_shipsWithoutMen_24 k4 M a0 x1 x2))
def fX2_shipsWithoutMen_4   (M : ah_h) : Nat → Nat → Int32 → Int32 → Option (Int32)
  | 0 => fun _ _ _ => none
  | n + 1 => fun a0 x1 x2 => fX2_shipsWithoutMen_4_b   (fX2_shipsWithoutMen_4   M n) M a0 x1 x2
set_option maxRecDepth 100000 in
set_option maxHeartbeats 4000000 in
theorem wX2_shipsWithoutMen_4_b {p : Program} {l : Launch} {e : Env} {s : State} {m : MethodId} {args : Array Value} {below : List Frame} {meth : Method} {c : Code} {D : va_G} {ca : Nat → ClassId} {H0 : Heap} {M : ah_h} {z : Nat} (K : ah_K p s m args meth c D ca "ShipsThatMeet$Fleet" cX2_shipsWithoutMen 3 (some .int))   (k4 : Nat → Int32 → Int32 → Option (Int32)) (hk4 : ∀ (a0 : Nat) (x1 : Int32) (x2 : Int32)  (H : Heap) (locs : List Loc) (ls : Array Slot), ah_g H0 D ca M z H → ah_L H0 locs → lv_has ls 3 [(0, .ref a0), (1, .int x1), (2, .int x2)] → ∀ Z, k4 a0 x1 x2 = some Z → W p l e { frames := 0, cells := 0, slots := 0, locals := 0 } s m args below meth c H locs 0 0 (ah_Q below args s H0 D ca 0 0 (some (.int Z)) M z) (F0 m 4 ls [])) : ∀ (a0 : Nat) (x1 : Int32) (x2 : Int32)  (H : Heap) (locs : List Loc) (ls : Array Slot), ah_g H0 D ca M z H → ah_L H0 locs → lv_has ls 3 [(0, .ref a0), (1, .int x1), (2, .int x2)] → ∀ Z, fX2_shipsWithoutMen_4_b   k4 M a0 x1 x2 = some Z → W p l e { frames := 0, cells := 0, slots := 0, locals := 0 } s m args below meth c H locs 0 0 (ah_Q below args s H0 D ca 0 0 (some (.int Z)) M z) (F0 m 4 ls []) := by
  intro a0 x1 x2 H locs ls hG hL hl Z hf
  unfold fX2_shipsWithoutMen_4_b at hf
  refine lv_iload_n K.1 K.2.1 dX2_shipsWithoutMen_4 rfl (lv_at hl 2 rfl) ?_
  refine lv_aload_n K.1 K.2.1 dX2_shipsWithoutMen_5 rfl (lv_at hl 0 rfl) ?_
  obtain ⟨v1, ev1, hf⟩ := Option.bind_eq_some_iff.mp hf
  refine ah_geti K hG ev1 ffX2_39_2 dX2_shipsWithoutMen_6 ?_
  refine lv_icmp_ge (tgt := 30) K.1 K.2.1 dX2_shipsWithoutMen_9 (by decide) (fun h2 => ?_) (fun h2 => ?_)
  · rw [if_pos h2] at hf
    refine lv_iload_n K.1 K.2.1 dX2_shipsWithoutMen_30 rfl (lv_at hl 1 rfl) ?_
    have hf := Option.some.inj hf
    subst hf
    exact ah_iret K hG hL (Nat.le_refl _) (Nat.le_refl _) dX2_shipsWithoutMen_31
  · rw [if_neg h2] at hf
    refine lv_aload_n K.1 K.2.1 dX2_shipsWithoutMen_12 rfl (lv_at hl 0 rfl) ?_
    obtain ⟨v3, ev3, hf⟩ := Option.bind_eq_some_iff.mp hf
    refine ah_getr K hG ev3 ffX2_20_2 dX2_shipsWithoutMen_13 ?_
    refine lv_iload_n K.1 K.2.1 dX2_shipsWithoutMen_16 rfl (lv_at hl 2 rfl) ?_
    obtain ⟨v4, ev4, hf⟩ := Option.bind_eq_some_iff.mp hf
    refine ah_iald K hG ev4 dX2_shipsWithoutMen_17 ?_
    refine lv_if_ne (tgt := 24) K.1 K.2.1 dX2_shipsWithoutMen_18 (by decide) (fun h5 => ?_) (fun h5 => ?_)
    · rw [if_neg h5] at hf
      exact wX2_shipsWithoutMen_24 K k4 hk4 a0 x1 x2 _ _ _ hG hL (lv_sub hl [0, 1, 2] rfl) _ hf
    · rw [if_pos h5] at hf
      refine lv_iinc (v := x1 + 1) (lv' := [(1, .int (x1 + 1)), (0, .ref a0), (2, .int x2)]) K.1 K.2.1 dX2_shipsWithoutMen_21 hl (k := 1) rfl rfl (by decide) rfl (fun ls hl => ?_)
      exact wX2_shipsWithoutMen_24 K k4 hk4 a0 (x1 + 1) x2 _ _ _ hG hL (lv_sub hl [1, 0, 2] rfl) _ hf
theorem wX2_shipsWithoutMen_4 {p : Program} {l : Launch} {e : Env} {s : State} {m : MethodId} {args : Array Value} {below : List Frame} {meth : Method} {c : Code} {D : va_G} {ca : Nat → ClassId} {H0 : Heap} {M : ah_h} {z : Nat} (K : ah_K p s m args meth c D ca "ShipsThatMeet$Fleet" cX2_shipsWithoutMen 3 (some .int))   (n : Nat) : ∀ (a0 : Nat) (x1 : Int32) (x2 : Int32)  (H : Heap) (locs : List Loc) (ls : Array Slot), ah_g H0 D ca M z H → ah_L H0 locs → lv_has ls 3 [(0, .ref a0), (1, .int x1), (2, .int x2)] → ∀ Z, fX2_shipsWithoutMen_4   M n a0 x1 x2 = some Z → W p l e { frames := 0, cells := 0, slots := 0, locals := 0 } s m args below meth c H locs 0 0 (ah_Q below args s H0 D ca 0 0 (some (.int Z)) M z) (F0 m 4 ls []) := by
  induction n with
  | zero => intro a0 x1 x2 H locs ls hG hL hl Z hf; cases hf
  | succ n ih => exact wX2_shipsWithoutMen_4_b K  _ ih
def fX2_shipsWithoutMen (M : ah_h) (a0 : Nat) : Option (Int32) := (ah_ob M a0 2).bind fun _ => fX2_shipsWithoutMen_4 M ah_fu a0 0 0
set_option maxRecDepth 100000 in
set_option maxHeartbeats 4000000 in
theorem ctX2_shipsWithoutMen (l : Launch) (H0 : Heap) (D : va_G) (ca : Nat → ClassId) (M : ah_h) (z : Nat) (a0 : Nat) (Z : Int32) (hf : fX2_shipsWithoutMen M a0 = some Z) : ah_ct l H0 D ca yX2_shipsWithoutMen cX2_shipsWithoutMen 3 (some .int) 0 0 0 0 [.ref a0] M z (some (.int Z)) M z := by
  refine ah_of (by decide) (Nat.le_of_ble_eq_true rfl) ?_
  intro p e s m below meth c ls hin K hG hl
  have hL : ah_L H0 [] := ah_L.nil
  have hl : lv_has ls 3 [(0, .ref a0)] := hl
  unfold fX2_shipsWithoutMen at hf
  obtain ⟨-, -, hf⟩ := Option.bind_eq_some_iff.mp hf
  refine lv_iconst (v := 0) K.1 K.2.1 dX2_shipsWithoutMen_0 (by decide) ?_
  refine lv_istore_n (lv' := [(1, .int 0), (0, .ref a0)]) K.1 K.2.1 dX2_shipsWithoutMen_1 rfl hl (by decide) rfl (fun ls hl => ?_)
  refine lv_iconst (v := 0) K.1 K.2.1 dX2_shipsWithoutMen_2 (by decide) ?_
  refine lv_istore_n (lv' := [(2, .int 0), (1, .int 0), (0, .ref a0)]) K.1 K.2.1 dX2_shipsWithoutMen_3 rfl hl (by decide) rfl (fun ls hl => ?_)
  exact wX2_shipsWithoutMen_4 K  ah_fu a0 0 0 _ _ _ hG hL (lv_sub hl [2, 1, 0] rfl) _ hf
def fX4_init (M : ah_h) (a0 : Nat) (x1 : Int32) : Option (ah_h) := (fX1_init M a0 1 x1).bind fun v1 => some v1
set_option maxRecDepth 100000 in
set_option maxHeartbeats 4000000 in
theorem ctX4_init (l : Launch) (H0 : Heap) (D : va_G) (ca : Nat → ClassId) (M : ah_h) (z : Nat) (a0 : Nat) (x1 : Int32) (Z : ah_h) (hf : fX4_init M a0 x1 = some Z) : ah_ct l H0 D ca yX4_init cX4_init 2 none 2 42 0 0 [.ref a0, .int x1] M z none Z z := by
  refine ah_of (by decide) (Nat.le_of_ble_eq_true rfl) ?_
  intro p e s m below meth c ls hin K hG hl
  have hL : ah_L H0 [] := ah_L.nil
  have hl : lv_has ls 2 [(0, .ref a0), (1, .int x1)] := hl
  unfold fX4_init at hf
  refine lv_aload_n K.1 K.2.1 dX4_init_0 rfl (lv_at hl 0 rfl) ?_
  refine lv_iconst (v := 1) K.1 K.2.1 dX4_init_1 (by decide) ?_
  refine lv_iload_n K.1 K.2.1 dX4_init_2 rfl (lv_at hl 1 rfl) ?_
  obtain ⟨v1, ev1, hf⟩ := Option.bind_eq_some_iff.mp hf
  refine ah_callI (As := [.int 1, .int x1]) (rest := []) K hG hL hl.1 (ctX1_init l H0 D ca M z a0 1 x1 v1 ev1) rfl hdX1_init q_264 q_88 q_52 q_89 ⟨Nat.le_of_ble_eq_true rfl, Nat.le_of_ble_eq_true rfl⟩ rfl rfl (Nat.le_of_ble_eq_true rfl) ⟨Nat.le_refl _, Nat.le_refl _⟩ dX4_init_3 (fun H locs hG hL => ?_)
  have hf := Option.some.inj hf
  subst hf
  exact ah_vret K hG hL (Nat.le_refl _) (Nat.le_refl _) dX4_init_6
def fX4_wages (M : ah_h) (a0 : Nat) : Option (Int32) := (ah_oc M a0).bind fun q2 => (fX1_wages M a0).bind fun v1 => (ah_gc M a0 1).bind fun v3 => some (v1 + v3)
set_option maxRecDepth 100000 in
set_option maxHeartbeats 4000000 in
theorem ctX4_wages (l : Launch) (H0 : Heap) (D : va_G) (ca : Nat → ClassId) (M : ah_h) (z : Nat) (a0 : Nat) (Z : Int32) (hf : fX4_wages M a0 = some Z) : ah_ct l H0 D ca yX4_wages cX4_wages 1 (some .int) 1 20 0 0 [.ref a0] M z (some (.int Z)) M z := by
  refine ah_of (by decide) (Nat.le_of_ble_eq_true rfl) ?_
  intro p e s m below meth c ls hin K hG hl
  have hL : ah_L H0 [] := ah_L.nil
  have hl : lv_has ls 1 [(0, .ref a0)] := hl
  unfold fX4_wages at hf
  refine lv_aload_n K.1 K.2.1 dX4_wages_0 rfl (lv_at hl 0 rfl) ?_
  obtain ⟨q2, eq2, hf⟩ := Option.bind_eq_some_iff.mp hf
  obtain ⟨v1, ev1, hf⟩ := Option.bind_eq_some_iff.mp hf
  refine ah_callUC (n := 0) (As := []) (rest := []) K hG hL hl.1 eq2 (ctX1_wages l H0 D ca M z a0 v1 ev1) (by decide +kernel) q_735 q_712 q_52 q_743 q_714 q_267 ⟨Nat.le_of_ble_eq_true rfl, Nat.le_of_ble_eq_true rfl⟩ rfl rfl (Nat.le_of_ble_eq_true rfl) ⟨Nat.le_refl _, Nat.le_refl _⟩ dX4_wages_1 (fun H locs hG hL => ?_)
  refine lv_aload_n K.1 K.2.1 dX4_wages_4 rfl (lv_at hl 0 rfl) ?_
  obtain ⟨v3, ev3, hf⟩ := Option.bind_eq_some_iff.mp hf
  refine ah_getc K hG ev3 ffX4_15_c dX4_wages_5 ?_
  refine lv_iadd K.1 K.2.1 dX4_wages_8 ?_
  have hf := Option.some.inj hf
  subst hf
  exact ah_iret K hG hL (Nat.le_refl _) (Nat.le_refl _) dX4_wages_9
def fX5_init (M : ah_h) (a0 : Nat) (x1 : Int32) (x2 : Int32) : Option (ah_h) := (fX1_init M a0 x1 x2).bind fun v1 => some v1
set_option maxRecDepth 100000 in
set_option maxHeartbeats 4000000 in
theorem ctX5_init (l : Launch) (H0 : Heap) (D : va_G) (ca : Nat → ClassId) (M : ah_h) (z : Nat) (a0 : Nat) (x1 : Int32) (x2 : Int32) (Z : ah_h) (hf : fX5_init M a0 x1 x2 = some Z) : ah_ct l H0 D ca yX5_init cX5_init 3 none 2 42 0 0 [.ref a0, .int x1, .int x2] M z none Z z := by
  refine ah_of (by decide) (Nat.le_of_ble_eq_true rfl) ?_
  intro p e s m below meth c ls hin K hG hl
  have hL : ah_L H0 [] := ah_L.nil
  have hl : lv_has ls 3 [(0, .ref a0), (1, .int x1), (2, .int x2)] := hl
  unfold fX5_init at hf
  refine lv_aload_n K.1 K.2.1 dX5_init_0 rfl (lv_at hl 0 rfl) ?_
  refine lv_iload_n K.1 K.2.1 dX5_init_1 rfl (lv_at hl 1 rfl) ?_
  refine lv_iload_n K.1 K.2.1 dX5_init_2 rfl (lv_at hl 2 rfl) ?_
  obtain ⟨v1, ev1, hf⟩ := Option.bind_eq_some_iff.mp hf
  refine ah_callI (As := [.int x1, .int x2]) (rest := []) K hG hL hl.1 (ctX1_init l H0 D ca M z a0 x1 x2 v1 ev1) rfl hdX1_init q_273 q_88 q_52 q_89 ⟨Nat.le_of_ble_eq_true rfl, Nat.le_of_ble_eq_true rfl⟩ rfl rfl (Nat.le_of_ble_eq_true rfl) ⟨Nat.le_refl _, Nat.le_refl _⟩ dX5_init_3 (fun H locs hG hL => ?_)
  have hf := Option.some.inj hf
  subst hf
  exact ah_vret K hG hL (Nat.le_refl _) (Nat.le_refl _) dX5_init_6
def fX5_wages (M : ah_h) (a0 : Nat) : Option (Int32) := (ah_oc M a0).bind fun q2 => (fX1_wages M a0).bind fun v1 => some (v1 - 1)
set_option maxRecDepth 100000 in
set_option maxHeartbeats 4000000 in
theorem ctX5_wages (l : Launch) (H0 : Heap) (D : va_G) (ca : Nat → ClassId) (M : ah_h) (z : Nat) (a0 : Nat) (Z : Int32) (hf : fX5_wages M a0 = some Z) : ah_ct l H0 D ca yX5_wages cX5_wages 1 (some .int) 1 20 0 0 [.ref a0] M z (some (.int Z)) M z := by
  refine ah_of (by decide) (Nat.le_of_ble_eq_true rfl) ?_
  intro p e s m below meth c ls hin K hG hl
  have hL : ah_L H0 [] := ah_L.nil
  have hl : lv_has ls 1 [(0, .ref a0)] := hl
  unfold fX5_wages at hf
  refine lv_aload_n K.1 K.2.1 dX5_wages_0 rfl (lv_at hl 0 rfl) ?_
  obtain ⟨q2, eq2, hf⟩ := Option.bind_eq_some_iff.mp hf
  obtain ⟨v1, ev1, hf⟩ := Option.bind_eq_some_iff.mp hf
  refine ah_callUC (n := 0) (As := []) (rest := []) K hG hL hl.1 eq2 (ctX1_wages l H0 D ca M z a0 v1 ev1) (by decide +kernel) q_731 q_712 q_52 q_743 q_714 q_276 ⟨Nat.le_of_ble_eq_true rfl, Nat.le_of_ble_eq_true rfl⟩ rfl rfl (Nat.le_of_ble_eq_true rfl) ⟨Nat.le_refl _, Nat.le_refl _⟩ dX5_wages_1 (fun H locs hG hL => ?_)
  refine lv_iconst (v := 1) K.1 K.2.1 dX5_wages_4 (by decide) ?_
  refine lv_isub K.1 K.2.1 dX5_wages_5 ?_
  have hf := Option.some.inj hf
  subst hf
  exact ah_iret K hG hL (Nat.le_refl _) (Nat.le_refl _) dX5_wages_6
def fX6_init (M : ah_h) (a0 : Nat) (x1 : Int32) (x2 : Int32) : Option (ah_h) := (fX5_init M a0 x1 x2).bind fun v1 => some v1
set_option maxRecDepth 100000 in
set_option maxHeartbeats 4000000 in
theorem ctX6_init (l : Launch) (H0 : Heap) (D : va_G) (ca : Nat → ClassId) (M : ah_h) (z : Nat) (a0 : Nat) (x1 : Int32) (x2 : Int32) (Z : ah_h) (hf : fX6_init M a0 x1 x2 = some Z) : ah_ct l H0 D ca yX6_init cX6_init 3 none 3 64 0 0 [.ref a0, .int x1, .int x2] M z none Z z := by
  refine ah_of (by decide) (Nat.le_of_ble_eq_true rfl) ?_
  intro p e s m below meth c ls hin K hG hl
  have hL : ah_L H0 [] := ah_L.nil
  have hl : lv_has ls 3 [(0, .ref a0), (1, .int x1), (2, .int x2)] := hl
  unfold fX6_init at hf
  refine lv_aload_n K.1 K.2.1 dX6_init_0 rfl (lv_at hl 0 rfl) ?_
  refine lv_iload_n K.1 K.2.1 dX6_init_1 rfl (lv_at hl 1 rfl) ?_
  refine lv_iload_n K.1 K.2.1 dX6_init_2 rfl (lv_at hl 2 rfl) ?_
  obtain ⟨v1, ev1, hf⟩ := Option.bind_eq_some_iff.mp hf
  refine ah_callI (As := [.int x1, .int x2]) (rest := []) K hG hL hl.1 (ctX5_init l H0 D ca M z a0 x1 x2 v1 ev1) rfl hdX5_init q_282 q_271 q_56 q_272 ⟨Nat.le_of_ble_eq_true rfl, Nat.le_of_ble_eq_true rfl⟩ rfl rfl (Nat.le_of_ble_eq_true rfl) ⟨Nat.le_refl _, Nat.le_refl _⟩ dX6_init_3 (fun H locs hG hL => ?_)
  have hf := Option.some.inj hf
  subst hf
  exact ah_vret K hG hL (Nat.le_refl _) (Nat.le_refl _) dX6_init_6
def fX6_wages (M : ah_h) (a0 : Nat) : Option (Int32) := (ah_oc M a0).bind fun q2 => (fX5_wages M a0).bind fun v1 => some (2 * v1)
set_option maxRecDepth 100000 in
set_option maxHeartbeats 4000000 in
theorem ctX6_wages (l : Launch) (H0 : Heap) (D : va_G) (ca : Nat → ClassId) (M : ah_h) (z : Nat) (a0 : Nat) (Z : Int32) (hf : fX6_wages M a0 = some Z) : ah_ct l H0 D ca yX6_wages cX6_wages 1 (some .int) 2 40 0 0 [.ref a0] M z (some (.int Z)) M z := by
  refine ah_of (by decide) (Nat.le_of_ble_eq_true rfl) ?_
  intro p e s m below meth c ls hin K hG hl
  have hL : ah_L H0 [] := ah_L.nil
  have hl : lv_has ls 1 [(0, .ref a0)] := hl
  unfold fX6_wages at hf
  refine lv_iconst (v := 2) K.1 K.2.1 dX6_wages_0 (by decide) ?_
  refine lv_aload_n K.1 K.2.1 dX6_wages_1 rfl (lv_at hl 0 rfl) ?_
  obtain ⟨q2, eq2, hf⟩ := Option.bind_eq_some_iff.mp hf
  obtain ⟨v1, ev1, hf⟩ := Option.bind_eq_some_iff.mp hf
  refine ah_callUC (n := 0) (As := []) (rest := [.int 2]) K hG hL hl.1 eq2 (ctX5_wages l H0 D ca M z a0 v1 ev1) (by decide +kernel) q_728 q_729 q_56 q_730 q_1278 q_285 ⟨Nat.le_of_ble_eq_true rfl, Nat.le_of_ble_eq_true rfl⟩ rfl rfl (Nat.le_of_ble_eq_true rfl) ⟨Nat.le_refl _, Nat.le_refl _⟩ dX6_wages_2 (fun H locs hG hL => ?_)
  refine lv_imul K.1 K.2.1 dX6_wages_5 ?_
  have hf := Option.some.inj hf
  subst hf
  exact ah_iret K hG hL (Nat.le_refl _) (Nat.le_refl _) dX6_wages_6
def fX7_init (M : ah_h) (z : Nat) (a0 : Nat) : Option ((ah_h × Nat)) := (ah_pf M a0 7 0 (.null)).bind fun M1 => (ah_pf M1 a0 7 1 (.int (-1))).bind fun M2 => (ah_pf M2 a0 7 2 (.int 0)).bind fun M3 => (ah_pf (ah_up M3 z (ah_I 100 (fun _ => 0))) a0 7 3 (.ref z)).bind fun M4 => some (M4, (z + 1))
set_option maxRecDepth 100000 in
set_option maxHeartbeats 4000000 in
theorem ctX7_init (l : Launch) (H0 : Heap) (D : va_G) (ca : Nat → ClassId) (M : ah_h) (z : Nat) (a0 : Nat) (Z : (ah_h × Nat)) (hf : fX7_init M z a0 = some Z) : ah_ct l H0 D ca yX7_init cX7_init 1 none 1 20 1 100 [.ref a0] M z none Z.1 Z.2 := by
  refine ah_of (by decide) (Nat.le_of_ble_eq_true rfl) ?_
  intro p e s m below meth c ls hin K hG hl
  have hL : ah_L H0 [] := ah_L.nil
  have hl : lv_has ls 1 [(0, .ref a0)] := hl
  unfold fX7_init at hf
  refine lv_aload_n K.1 K.2.1 dX7_init_0 rfl (lv_at hl 0 rfl) ?_
  refine W.objInit K.1 K.2.1 K.2.2.2.1 (K.2.2.2.2.1 _ q_160) (K.2.2.2.2.1 _ q_76) (K.2.2.2.2.1 _ q_77) rfl (by rw [K.2.2.1]; exact hl.1) rfl dX7_init_1 (Nat.le_of_ble_eq_true rfl) (Nat.le_of_ble_eq_true rfl) ?_
  refine W.eq (g2 := F0 m 4 ls []) rfl ?_
  refine lv_aload_n K.1 K.2.1 dX7_init_4 rfl (lv_at hl 0 rfl) ?_
  refine lv_null K.1 K.2.1 dX7_init_5 ?_
  obtain ⟨M1, eM1, hf⟩ := Option.bind_eq_some_iff.mp hf
  refine ah_put K hG hL eM1 fwX7_9_7 rfl rfl dX7_init_6 (fun H locs hG hL => ?_)
  refine lv_aload_n K.1 K.2.1 dX7_init_9 rfl (lv_at hl 0 rfl) ?_
  refine lv_iconst (v := (-1)) K.1 K.2.1 dX7_init_10 (by decide) ?_
  obtain ⟨M2, eM2, hf⟩ := Option.bind_eq_some_iff.mp hf
  refine ah_put K hG hL eM2 fwX7_15_7 rfl rfl dX7_init_11 (fun H locs hG hL => ?_)
  refine lv_aload_n K.1 K.2.1 dX7_init_14 rfl (lv_at hl 0 rfl) ?_
  refine lv_iconst (v := 0) K.1 K.2.1 dX7_init_15 (by decide) ?_
  obtain ⟨M3, eM3, hf⟩ := Option.bind_eq_some_iff.mp hf
  refine ah_put K hG hL eM3 fwX7_19_7 rfl rfl dX7_init_16 (fun H locs hG hL => ?_)
  refine lv_aload_n K.1 K.2.1 dX7_init_19 rfl (lv_at hl 0 rfl) ?_
  refine lv_bipush (v := 100) K.1 K.2.1 dX7_init_20 (by decide) ?_
  refine ah_newi (N := 100) K hG q_153 (by decide) (by decide) (by decide) (by show _ ≤ 1; omega) (by show _ ≤ 100; omega) dX7_init_22 (fun H hG => ?_)
  obtain ⟨M4, eM4, hf⟩ := Option.bind_eq_some_iff.mp hf
  refine ah_putF K hG hL eM4 fwX7_22_7 (hin rfl) rfl rfl dX7_init_24 (fun H locs hG hL => ?_)
  have hf := Option.some.inj hf
  subst hf
  exact ah_vret K hG hL (by omega) (by omega) dX7_init_27
def fX7_holdsNothing (M : ah_h) (a0 : Nat) : Option (Int32) := (ah_ob M a0 7).bind fun _ => (ah_gq M a0 7 0).bind fun v1 => if v1 = none then ((ah_gi M a0 7 1).bind fun v3 => if 0 ≤ v3 then (some 0) else (some 1)) else (some 0)
set_option maxRecDepth 100000 in
set_option maxHeartbeats 4000000 in
theorem ctX7_holdsNothing (l : Launch) (H0 : Heap) (D : va_G) (ca : Nat → ClassId) (M : ah_h) (z : Nat) (a0 : Nat) (Z : Int32) (hf : fX7_holdsNothing M a0 = some Z) : ah_ct l H0 D ca yX7_holdsNothing cX7_holdsNothing 1 (some .boolean) 0 0 0 0 [.ref a0] M z (some (.int Z)) M z := by
  refine ah_of (by decide) (Nat.le_of_ble_eq_true rfl) ?_
  intro p e s m below meth c ls hin K hG hl
  have hL : ah_L H0 [] := ah_L.nil
  have hl : lv_has ls 1 [(0, .ref a0)] := hl
  unfold fX7_holdsNothing at hf
  obtain ⟨-, -, hf⟩ := Option.bind_eq_some_iff.mp hf
  refine lv_aload_n K.1 K.2.1 dX7_holdsNothing_0 rfl (lv_at hl 0 rfl) ?_
  obtain ⟨v1, ev1, hf⟩ := Option.bind_eq_some_iff.mp hf
  refine ah_getq K hG ev1 ffX7_9_7 dX7_holdsNothing_1 ?_
  rcases eo2 : v1 with _ | o2
  · rw [if_pos eo2] at hf
    rw [show va_rf none = .null from rfl]
    refine lv_ifnonnullN K.1 K.2.1 dX7_holdsNothing_4 ?_
    refine lv_aload_n K.1 K.2.1 dX7_holdsNothing_7 rfl (lv_at hl 0 rfl) ?_
    obtain ⟨v3, ev3, hf⟩ := Option.bind_eq_some_iff.mp hf
    refine ah_geti K hG ev3 ffX7_15_7 dX7_holdsNothing_8 ?_
    refine lv_if_ge (tgt := 18) K.1 K.2.1 dX7_holdsNothing_11 (by decide) (fun h4 => ?_) (fun h4 => ?_)
    · rw [if_pos h4] at hf
      refine lv_iconst (v := 0) K.1 K.2.1 dX7_holdsNothing_18 (by decide) ?_
      have hf := Option.some.inj hf
      subst hf
      exact ah_zret K hG hL (Or.inl rfl) (Nat.le_refl _) (Nat.le_refl _) dX7_holdsNothing_19
    · rw [if_neg h4] at hf
      refine lv_iconst (v := 1) K.1 K.2.1 dX7_holdsNothing_14 (by decide) ?_
      refine lv_goto (tgt := 19) K.1 K.2.1 dX7_holdsNothing_15 (by decide) ?_
      have hf := Option.some.inj hf
      subst hf
      exact ah_zret K hG hL (Or.inr rfl) (Nat.le_refl _) (Nat.le_refl _) dX7_holdsNothing_19
  · rw [if_neg (by rw [eo2]; exact fun h => by cases h)] at hf
    rw [show va_rf (some o2) = .ref o2 from rfl]
    refine lv_ifnonnull (tgt := 18) K.1 K.2.1 dX7_holdsNothing_4 (by decide) ?_
    refine lv_iconst (v := 0) K.1 K.2.1 dX7_holdsNothing_18 (by decide) ?_
    have hf := Option.some.inj hf
    subst hf
    exact ah_zret K hG hL (Or.inl rfl) (Nat.le_refl _) (Nat.le_refl _) dX7_holdsNothing_19
def fX7_holdsRow (M : ah_h) (a0 : Nat) : Option (Int32) := (ah_ob M a0 7).bind fun _ => (ah_gi M a0 7 1).bind fun v1 => if v1 < 0 then (some 0) else (some 1)
set_option maxRecDepth 100000 in
set_option maxHeartbeats 4000000 in
theorem ctX7_holdsRow (l : Launch) (H0 : Heap) (D : va_G) (ca : Nat → ClassId) (M : ah_h) (z : Nat) (a0 : Nat) (Z : Int32) (hf : fX7_holdsRow M a0 = some Z) : ah_ct l H0 D ca yX7_holdsRow cX7_holdsRow 1 (some .boolean) 0 0 0 0 [.ref a0] M z (some (.int Z)) M z := by
  refine ah_of (by decide) (Nat.le_of_ble_eq_true rfl) ?_
  intro p e s m below meth c ls hin K hG hl
  have hL : ah_L H0 [] := ah_L.nil
  have hl : lv_has ls 1 [(0, .ref a0)] := hl
  unfold fX7_holdsRow at hf
  obtain ⟨-, -, hf⟩ := Option.bind_eq_some_iff.mp hf
  refine lv_aload_n K.1 K.2.1 dX7_holdsRow_0 rfl (lv_at hl 0 rfl) ?_
  obtain ⟨v1, ev1, hf⟩ := Option.bind_eq_some_iff.mp hf
  refine ah_geti K hG ev1 ffX7_15_7 dX7_holdsRow_1 ?_
  refine lv_if_lt (tgt := 11) K.1 K.2.1 dX7_holdsRow_4 (by decide) (fun h2 => ?_) (fun h2 => ?_)
  · rw [if_pos h2] at hf
    refine lv_iconst (v := 0) K.1 K.2.1 dX7_holdsRow_11 (by decide) ?_
    have hf := Option.some.inj hf
    subst hf
    exact ah_zret K hG hL (Or.inl rfl) (Nat.le_refl _) (Nat.le_refl _) dX7_holdsRow_12
  · rw [if_neg h2] at hf
    refine lv_iconst (v := 1) K.1 K.2.1 dX7_holdsRow_7 (by decide) ?_
    refine lv_goto (tgt := 12) K.1 K.2.1 dX7_holdsRow_8 (by decide) ?_
    have hf := Option.some.inj hf
    subst hf
    exact ah_zret K hG hL (Or.inr rfl) (Nat.le_refl _) (Nat.le_refl _) dX7_holdsRow_12
def fX7_holdNothing (M : ah_h) (a0 : Nat) : Option (ah_h) := (ah_ob M a0 7).bind fun _ => (ah_pf M a0 7 0 (.null)).bind fun M1 => (ah_pf M1 a0 7 1 (.int (-1))).bind fun M2 => (ah_pf M2 a0 7 2 (.int 0)).bind fun M3 => some M3
set_option maxRecDepth 100000 in
set_option maxHeartbeats 4000000 in
theorem ctX7_holdNothing (l : Launch) (H0 : Heap) (D : va_G) (ca : Nat → ClassId) (M : ah_h) (z : Nat) (a0 : Nat) (Z : ah_h) (hf : fX7_holdNothing M a0 = some Z) : ah_ct l H0 D ca yX7_holdNothing cX7_holdNothing 1 none 0 0 0 0 [.ref a0] M z none Z z := by
  refine ah_of (by decide) (Nat.le_of_ble_eq_true rfl) ?_
  intro p e s m below meth c ls hin K hG hl
  have hL : ah_L H0 [] := ah_L.nil
  have hl : lv_has ls 1 [(0, .ref a0)] := hl
  unfold fX7_holdNothing at hf
  obtain ⟨-, -, hf⟩ := Option.bind_eq_some_iff.mp hf
  refine lv_aload_n K.1 K.2.1 dX7_holdNothing_0 rfl (lv_at hl 0 rfl) ?_
  refine lv_null K.1 K.2.1 dX7_holdNothing_1 ?_
  obtain ⟨M1, eM1, hf⟩ := Option.bind_eq_some_iff.mp hf
  refine ah_put K hG hL eM1 fwX7_9_7 rfl rfl dX7_holdNothing_2 (fun H locs hG hL => ?_)
  refine lv_aload_n K.1 K.2.1 dX7_holdNothing_5 rfl (lv_at hl 0 rfl) ?_
  refine lv_iconst (v := (-1)) K.1 K.2.1 dX7_holdNothing_6 (by decide) ?_
  obtain ⟨M2, eM2, hf⟩ := Option.bind_eq_some_iff.mp hf
  refine ah_put K hG hL eM2 fwX7_15_7 rfl rfl dX7_holdNothing_7 (fun H locs hG hL => ?_)
  refine lv_aload_n K.1 K.2.1 dX7_holdNothing_10 rfl (lv_at hl 0 rfl) ?_
  refine lv_iconst (v := 0) K.1 K.2.1 dX7_holdNothing_11 (by decide) ?_
  obtain ⟨M3, eM3, hf⟩ := Option.bind_eq_some_iff.mp hf
  refine ah_put K hG hL eM3 fwX7_19_7 rfl rfl dX7_holdNothing_12 (fun H locs hG hL => ?_)
  have hf := Option.some.inj hf
  subst hf
  exact ah_vret K hG hL (Nat.le_refl _) (Nat.le_refl _) dX7_holdNothing_15
def fX7_holdCaptain (M : ah_h) (a0 : Nat) (x1 : Nat) : Option (ah_h) := (ah_ob M a0 7).bind fun _ => (fX7_holdNothing M a0).bind fun v1 => (ah_pf v1 a0 7 0 (.ref x1)).bind fun M3 => some M3
set_option maxRecDepth 100000 in
set_option maxHeartbeats 4000000 in
theorem ctX7_holdCaptain (l : Launch) (H0 : Heap) (D : va_G) (ca : Nat → ClassId) (M : ah_h) (z : Nat) (a0 : Nat) (x1 : Nat) (Z : ah_h) (hf : fX7_holdCaptain M a0 x1 = some Z) : ah_ct l H0 D ca yX7_holdCaptain cX7_holdCaptain 2 none 1 20 0 0 [.ref a0, .ref x1] M z none Z z := by
  refine ah_of (by decide) (Nat.le_of_ble_eq_true rfl) ?_
  intro p e s m below meth c ls hin K hG hl
  have hL : ah_L H0 [] := ah_L.nil
  have hl : lv_has ls 2 [(0, .ref a0), (1, .ref x1)] := hl
  unfold fX7_holdCaptain at hf
  obtain ⟨-, -, hf⟩ := Option.bind_eq_some_iff.mp hf
  refine lv_aload_n K.1 K.2.1 dX7_holdCaptain_0 rfl (lv_at hl 0 rfl) ?_
  obtain ⟨v1, ev1, hf⟩ := Option.bind_eq_some_iff.mp hf
  obtain ⟨q2, eq2⟩ := ah_this ev1
  refine ah_callV (As := []) (rest := []) K hG hL hl.1 eq2 rfl (ctX7_holdNothing l H0 D ca M z a0 v1 ev1) hdX7_holdNothing q_678 q_671 q_53 q_673 q_672 ⟨Nat.le_of_ble_eq_true rfl, Nat.le_of_ble_eq_true rfl⟩ rfl rfl (Nat.le_of_ble_eq_true rfl) ⟨Nat.le_refl _, Nat.le_refl _⟩ dX7_holdCaptain_1 (fun H locs hG hL => ?_)
  refine lv_aload_n K.1 K.2.1 dX7_holdCaptain_4 rfl (lv_at hl 0 rfl) ?_
  refine lv_aload_n K.1 K.2.1 dX7_holdCaptain_5 rfl (lv_at hl 1 rfl) ?_
  obtain ⟨M3, eM3, hf⟩ := Option.bind_eq_some_iff.mp hf
  refine ah_put K hG hL eM3 fwX7_9_7 rfl rfl dX7_holdCaptain_6 (fun H locs hG hL => ?_)
  have hf := Option.some.inj hf
  subst hf
  exact ah_vret K hG hL (Nat.le_refl _) (Nat.le_refl _) dX7_holdCaptain_9
def fX7_holdRow_16_b   (k16 : ah_h → Nat → Int32 → Option (ah_h))  (M : ah_h) (a0 : Nat) (x3 : Int32) : Option (ah_h) := if 100 ≤ x3 then (some M) else ((ah_gr M a0 7 3).bind fun v2 => (ah_si M v2 x3 0).bind fun M3 => k16 M3 a0 (x3 + 1))
def fX7_holdRow_16    : Nat → ah_h → Nat → Int32 → Option (ah_h)
  | 0 => fun _ _ _ => none
  | n + 1 => fun M a0 x3 => fX7_holdRow_16_b   (fX7_holdRow_16    n)  M a0 x3
set_option maxRecDepth 100000 in
set_option maxHeartbeats 4000000 in
theorem wX7_holdRow_16_b {p : Program} {l : Launch} {e : Env} {s : State} {m : MethodId} {args : Array Value} {below : List Frame} {meth : Method} {c : Code} {D : va_G} {ca : Nat → ClassId} {H0 : Heap} {z : Nat} (K : ah_K p s m args meth c D ca "ShipsThatMeet$Shelf" cX7_holdRow 4 none)   (k16 : ah_h → Nat → Int32 → Option (ah_h)) (hk16 : ∀ (M : ah_h) (a0 : Nat) (x3 : Int32)  (H : Heap) (locs : List Loc) (ls : Array Slot), ah_g H0 D ca M z H → ah_L H0 locs → lv_has ls 4 [(0, .ref a0), (3, .int x3)] → ∀ Z, k16 M a0 x3 = some Z → W p l e { frames := 1, cells := 0, slots := 0, locals := 20 } s m args below meth c H locs 0 0 (ah_Q below args s H0 D ca 0 0 none Z z) (F0 m 16 ls [])) : ∀ (M : ah_h) (a0 : Nat) (x3 : Int32)  (H : Heap) (locs : List Loc) (ls : Array Slot), ah_g H0 D ca M z H → ah_L H0 locs → lv_has ls 4 [(0, .ref a0), (3, .int x3)] → ∀ Z, fX7_holdRow_16_b   k16  M a0 x3 = some Z → W p l e { frames := 1, cells := 0, slots := 0, locals := 20 } s m args below meth c H locs 0 0 (ah_Q below args s H0 D ca 0 0 none Z z) (F0 m 16 ls []) := by
  intro M a0 x3 H locs ls hG hL hl Z hf
  unfold fX7_holdRow_16_b at hf
  refine lv_iload_n K.1 K.2.1 dX7_holdRow_16 rfl (lv_at hl 1 rfl) ?_
  refine lv_bipush (v := 100) K.1 K.2.1 dX7_holdRow_17 (by decide) ?_
  refine lv_icmp_ge (tgt := 35) K.1 K.2.1 dX7_holdRow_19 (by decide) (fun h1 => ?_) (fun h1 => ?_)
  · rw [if_pos h1] at hf
    have hf := Option.some.inj hf
    subst hf
    exact ah_vret K hG hL (Nat.le_refl _) (Nat.le_refl _) dX7_holdRow_35
  · rw [if_neg h1] at hf
    refine lv_aload_n K.1 K.2.1 dX7_holdRow_22 rfl (lv_at hl 0 rfl) ?_
    obtain ⟨v2, ev2, hf⟩ := Option.bind_eq_some_iff.mp hf
    refine ah_getr K hG ev2 ffX7_22_7 dX7_holdRow_23 ?_
    refine lv_iload_n K.1 K.2.1 dX7_holdRow_26 rfl (lv_at hl 1 rfl) ?_
    refine lv_iconst (v := 0) K.1 K.2.1 dX7_holdRow_27 (by decide) ?_
    obtain ⟨M3, eM3, hf⟩ := Option.bind_eq_some_iff.mp hf
    refine ah_iast K hG hL eM3 dX7_holdRow_28 (fun H locs hG hL => ?_)
    refine lv_iinc (v := x3 + 1) (lv' := [(3, .int (x3 + 1)), (0, .ref a0)]) K.1 K.2.1 dX7_holdRow_29 hl (k := 1) rfl rfl (by decide) rfl (fun ls hl => ?_)
    refine lv_goto (tgt := 16) K.1 K.2.1 dX7_holdRow_32 (by decide) ?_
    exact hk16 M3 a0 (x3 + 1) _ _ _ hG hL (lv_sub hl [1, 0] rfl) _ hf
theorem wX7_holdRow_16 {p : Program} {l : Launch} {e : Env} {s : State} {m : MethodId} {args : Array Value} {below : List Frame} {meth : Method} {c : Code} {D : va_G} {ca : Nat → ClassId} {H0 : Heap} {z : Nat} (K : ah_K p s m args meth c D ca "ShipsThatMeet$Shelf" cX7_holdRow 4 none)   (n : Nat) : ∀ (M : ah_h) (a0 : Nat) (x3 : Int32)  (H : Heap) (locs : List Loc) (ls : Array Slot), ah_g H0 D ca M z H → ah_L H0 locs → lv_has ls 4 [(0, .ref a0), (3, .int x3)] → ∀ Z, fX7_holdRow_16    n M a0 x3 = some Z → W p l e { frames := 1, cells := 0, slots := 0, locals := 20 } s m args below meth c H locs 0 0 (ah_Q below args s H0 D ca 0 0 none Z z) (F0 m 16 ls []) := by
  induction n with
  | zero => intro M a0 x3 H locs ls hG hL hl Z hf; cases hf
  | succ n ih => exact wX7_holdRow_16_b K  _ ih
def fX7_holdRow (M : ah_h) (a0 : Nat) (x1 : Int32) (x2 : Int32) : Option (ah_h) := (ah_ob M a0 7).bind fun _ => (fX7_holdNothing M a0).bind fun v1 => (ah_pf v1 a0 7 1 (.int x1)).bind fun M3 => (ah_pf M3 a0 7 2 (.int x2)).bind fun M4 => fX7_holdRow_16 ah_fu M4 a0 0
set_option maxRecDepth 100000 in
set_option maxHeartbeats 4000000 in
theorem ctX7_holdRow (l : Launch) (H0 : Heap) (D : va_G) (ca : Nat → ClassId) (M : ah_h) (z : Nat) (a0 : Nat) (x1 : Int32) (x2 : Int32) (Z : ah_h) (hf : fX7_holdRow M a0 x1 x2 = some Z) : ah_ct l H0 D ca yX7_holdRow cX7_holdRow 4 none 1 20 0 0 [.ref a0, .int x1, .int x2] M z none Z z := by
  refine ah_of (by decide) (Nat.le_of_ble_eq_true rfl) ?_
  intro p e s m below meth c ls hin K hG hl
  have hL : ah_L H0 [] := ah_L.nil
  have hl : lv_has ls 4 [(0, .ref a0), (1, .int x1), (2, .int x2)] := hl
  unfold fX7_holdRow at hf
  obtain ⟨-, -, hf⟩ := Option.bind_eq_some_iff.mp hf
  refine lv_aload_n K.1 K.2.1 dX7_holdRow_0 rfl (lv_at hl 0 rfl) ?_
  obtain ⟨v1, ev1, hf⟩ := Option.bind_eq_some_iff.mp hf
  obtain ⟨q2, eq2⟩ := ah_this ev1
  refine ah_callV (As := []) (rest := []) K hG hL hl.1 eq2 rfl (ctX7_holdNothing l H0 D ca M z a0 v1 ev1) hdX7_holdNothing q_678 q_671 q_53 q_673 q_672 ⟨Nat.le_of_ble_eq_true rfl, Nat.le_of_ble_eq_true rfl⟩ rfl rfl (Nat.le_of_ble_eq_true rfl) ⟨Nat.le_refl _, Nat.le_refl _⟩ dX7_holdRow_1 (fun H locs hG hL => ?_)
  refine lv_aload_n K.1 K.2.1 dX7_holdRow_4 rfl (lv_at hl 0 rfl) ?_
  refine lv_iload_n K.1 K.2.1 dX7_holdRow_5 rfl (lv_at hl 1 rfl) ?_
  obtain ⟨M3, eM3, hf⟩ := Option.bind_eq_some_iff.mp hf
  refine ah_put K hG hL eM3 fwX7_15_7 rfl rfl dX7_holdRow_6 (fun H locs hG hL => ?_)
  refine lv_aload_n K.1 K.2.1 dX7_holdRow_9 rfl (lv_at hl 0 rfl) ?_
  refine lv_iload_n K.1 K.2.1 dX7_holdRow_10 rfl (lv_at hl 2 rfl) ?_
  obtain ⟨M4, eM4, hf⟩ := Option.bind_eq_some_iff.mp hf
  refine ah_put K hG hL eM4 fwX7_19_7 rfl rfl dX7_holdRow_11 (fun H locs hG hL => ?_)
  refine lv_iconst (v := 0) K.1 K.2.1 dX7_holdRow_14 (by decide) ?_
  refine lv_istore_n (lv' := [(3, .int 0), (0, .ref a0), (1, .int x1), (2, .int x2)]) K.1 K.2.1 dX7_holdRow_15 rfl hl (by decide) rfl (fun ls hl => ?_)
  exact wX7_holdRow_16 K  ah_fu M4 a0 0 _ _ _ hG hL (lv_sub hl [1, 0] rfl) _ hf
def fX7_hasPlace (M : ah_h) (a0 : Nat) (x1 : Int32) : Option (Int32) := (ah_ob M a0 7).bind fun _ => if x1 < 0 then (some 0) else ((ah_gi M a0 7 2).bind fun v2 => if v2 ≤ x1 then (some 0) else (some 1))
set_option maxRecDepth 100000 in
set_option maxHeartbeats 4000000 in
theorem ctX7_hasPlace (l : Launch) (H0 : Heap) (D : va_G) (ca : Nat → ClassId) (M : ah_h) (z : Nat) (a0 : Nat) (x1 : Int32) (Z : Int32) (hf : fX7_hasPlace M a0 x1 = some Z) : ah_ct l H0 D ca yX7_hasPlace cX7_hasPlace 2 (some .boolean) 0 0 0 0 [.ref a0, .int x1] M z (some (.int Z)) M z := by
  refine ah_of (by decide) (Nat.le_of_ble_eq_true rfl) ?_
  intro p e s m below meth c ls hin K hG hl
  have hL : ah_L H0 [] := ah_L.nil
  have hl : lv_has ls 2 [(0, .ref a0), (1, .int x1)] := hl
  unfold fX7_hasPlace at hf
  obtain ⟨-, -, hf⟩ := Option.bind_eq_some_iff.mp hf
  refine lv_iload_n K.1 K.2.1 dX7_hasPlace_0 rfl (lv_at hl 1 rfl) ?_
  refine lv_if_lt (tgt := 16) K.1 K.2.1 dX7_hasPlace_1 (by decide) (fun h1 => ?_) (fun h1 => ?_)
  · rw [if_pos h1] at hf
    refine lv_iconst (v := 0) K.1 K.2.1 dX7_hasPlace_16 (by decide) ?_
    have hf := Option.some.inj hf
    subst hf
    exact ah_zret K hG hL (Or.inl rfl) (Nat.le_refl _) (Nat.le_refl _) dX7_hasPlace_17
  · rw [if_neg h1] at hf
    refine lv_iload_n K.1 K.2.1 dX7_hasPlace_4 rfl (lv_at hl 1 rfl) ?_
    refine lv_aload_n K.1 K.2.1 dX7_hasPlace_5 rfl (lv_at hl 0 rfl) ?_
    obtain ⟨v2, ev2, hf⟩ := Option.bind_eq_some_iff.mp hf
    refine ah_geti K hG ev2 ffX7_19_7 dX7_hasPlace_6 ?_
    refine lv_icmp_ge (tgt := 16) K.1 K.2.1 dX7_hasPlace_9 (by decide) (fun h3 => ?_) (fun h3 => ?_)
    · rw [if_pos h3] at hf
      refine lv_iconst (v := 0) K.1 K.2.1 dX7_hasPlace_16 (by decide) ?_
      have hf := Option.some.inj hf
      subst hf
      exact ah_zret K hG hL (Or.inl rfl) (Nat.le_refl _) (Nat.le_refl _) dX7_hasPlace_17
    · rw [if_neg h3] at hf
      refine lv_iconst (v := 1) K.1 K.2.1 dX7_hasPlace_12 (by decide) ?_
      refine lv_goto (tgt := 17) K.1 K.2.1 dX7_hasPlace_13 (by decide) ?_
      have hf := Option.some.inj hf
      subst hf
      exact ah_zret K hG hL (Or.inr rfl) (Nat.le_refl _) (Nat.le_refl _) dX7_hasPlace_17
def fX7_hasStretch (M : ah_h) (a0 : Nat) (x1 : Int32) (x2 : Int32) : Option (Int32) := (ah_ob M a0 7).bind fun _ => if x1 < 0 then (some 0) else (if x2 < 0 then (some 0) else ((ah_gi M a0 7 2).bind fun v3 => if v3 < x1 then (some 0) else ((ah_gi M a0 7 2).bind fun v5 => if (v5 - x1) < x2 then (some 0) else (some 1))))
set_option maxRecDepth 100000 in
set_option maxHeartbeats 4000000 in
theorem ctX7_hasStretch (l : Launch) (H0 : Heap) (D : va_G) (ca : Nat → ClassId) (M : ah_h) (z : Nat) (a0 : Nat) (x1 : Int32) (x2 : Int32) (Z : Int32) (hf : fX7_hasStretch M a0 x1 x2 = some Z) : ah_ct l H0 D ca yX7_hasStretch cX7_hasStretch 3 (some .boolean) 0 0 0 0 [.ref a0, .int x1, .int x2] M z (some (.int Z)) M z := by
  refine ah_of (by decide) (Nat.le_of_ble_eq_true rfl) ?_
  intro p e s m below meth c ls hin K hG hl
  have hL : ah_L H0 [] := ah_L.nil
  have hl : lv_has ls 3 [(0, .ref a0), (1, .int x1), (2, .int x2)] := hl
  unfold fX7_hasStretch at hf
  obtain ⟨-, -, hf⟩ := Option.bind_eq_some_iff.mp hf
  refine lv_iload_n K.1 K.2.1 dX7_hasStretch_0 rfl (lv_at hl 1 rfl) ?_
  refine lv_if_lt (tgt := 30) K.1 K.2.1 dX7_hasStretch_1 (by decide) (fun h1 => ?_) (fun h1 => ?_)
  · rw [if_pos h1] at hf
    refine lv_iconst (v := 0) K.1 K.2.1 dX7_hasStretch_30 (by decide) ?_
    have hf := Option.some.inj hf
    subst hf
    exact ah_zret K hG hL (Or.inl rfl) (Nat.le_refl _) (Nat.le_refl _) dX7_hasStretch_31
  · rw [if_neg h1] at hf
    refine lv_iload_n K.1 K.2.1 dX7_hasStretch_4 rfl (lv_at hl 2 rfl) ?_
    refine lv_if_lt (tgt := 30) K.1 K.2.1 dX7_hasStretch_5 (by decide) (fun h2 => ?_) (fun h2 => ?_)
    · rw [if_pos h2] at hf
      refine lv_iconst (v := 0) K.1 K.2.1 dX7_hasStretch_30 (by decide) ?_
      have hf := Option.some.inj hf
      subst hf
      exact ah_zret K hG hL (Or.inl rfl) (Nat.le_refl _) (Nat.le_refl _) dX7_hasStretch_31
    · rw [if_neg h2] at hf
      refine lv_iload_n K.1 K.2.1 dX7_hasStretch_8 rfl (lv_at hl 1 rfl) ?_
      refine lv_aload_n K.1 K.2.1 dX7_hasStretch_9 rfl (lv_at hl 0 rfl) ?_
      obtain ⟨v3, ev3, hf⟩ := Option.bind_eq_some_iff.mp hf
      refine ah_geti K hG ev3 ffX7_19_7 dX7_hasStretch_10 ?_
      refine lv_icmp_gt (tgt := 30) K.1 K.2.1 dX7_hasStretch_13 (by decide) (fun h4 => ?_) (fun h4 => ?_)
      · rw [if_pos h4] at hf
        refine lv_iconst (v := 0) K.1 K.2.1 dX7_hasStretch_30 (by decide) ?_
        have hf := Option.some.inj hf
        subst hf
        exact ah_zret K hG hL (Or.inl rfl) (Nat.le_refl _) (Nat.le_refl _) dX7_hasStretch_31
      · rw [if_neg h4] at hf
        refine lv_iload_n K.1 K.2.1 dX7_hasStretch_16 rfl (lv_at hl 2 rfl) ?_
        refine lv_aload_n K.1 K.2.1 dX7_hasStretch_17 rfl (lv_at hl 0 rfl) ?_
        obtain ⟨v5, ev5, hf⟩ := Option.bind_eq_some_iff.mp hf
        refine ah_geti K hG ev5 ffX7_19_7 dX7_hasStretch_18 ?_
        refine lv_iload_n K.1 K.2.1 dX7_hasStretch_21 rfl (lv_at hl 1 rfl) ?_
        refine lv_isub K.1 K.2.1 dX7_hasStretch_22 ?_
        refine lv_icmp_gt (tgt := 30) K.1 K.2.1 dX7_hasStretch_23 (by decide) (fun h6 => ?_) (fun h6 => ?_)
        · rw [if_pos h6] at hf
          refine lv_iconst (v := 0) K.1 K.2.1 dX7_hasStretch_30 (by decide) ?_
          have hf := Option.some.inj hf
          subst hf
          exact ah_zret K hG hL (Or.inl rfl) (Nat.le_refl _) (Nat.le_refl _) dX7_hasStretch_31
        · rw [if_neg h6] at hf
          refine lv_iconst (v := 1) K.1 K.2.1 dX7_hasStretch_26 (by decide) ?_
          refine lv_goto (tgt := 31) K.1 K.2.1 dX7_hasStretch_27 (by decide) ?_
          have hf := Option.some.inj hf
          subst hf
          exact ah_zret K hG hL (Or.inr rfl) (Nat.le_refl _) (Nat.le_refl _) dX7_hasStretch_31
def fX7_at (M : ah_h) (a0 : Nat) (x1 : Int32) : Option (Int32) := (ah_ob M a0 7).bind fun _ => (fX7_hasPlace M a0 x1).bind fun v1 => if v1 = 0 then (some 0) else ((ah_gr M a0 7 3).bind fun v4 => (ah_ai M v4 x1).bind fun v5 => some v5)
set_option maxRecDepth 100000 in
set_option maxHeartbeats 4000000 in
theorem ctX7_at (l : Launch) (H0 : Heap) (D : va_G) (ca : Nat → ClassId) (M : ah_h) (z : Nat) (a0 : Nat) (x1 : Int32) (Z : Int32) (hf : fX7_at M a0 x1 = some Z) : ah_ct l H0 D ca yX7_at cX7_at 2 (some .int) 1 21 0 0 [.ref a0, .int x1] M z (some (.int Z)) M z := by
  refine ah_of (by decide) (Nat.le_of_ble_eq_true rfl) ?_
  intro p e s m below meth c ls hin K hG hl
  have hL : ah_L H0 [] := ah_L.nil
  have hl : lv_has ls 2 [(0, .ref a0), (1, .int x1)] := hl
  unfold fX7_at at hf
  obtain ⟨-, -, hf⟩ := Option.bind_eq_some_iff.mp hf
  refine lv_aload_n K.1 K.2.1 dX7_at_0 rfl (lv_at hl 0 rfl) ?_
  refine lv_iload_n K.1 K.2.1 dX7_at_1 rfl (lv_at hl 1 rfl) ?_
  obtain ⟨v1, ev1, hf⟩ := Option.bind_eq_some_iff.mp hf
  obtain ⟨q2, eq2⟩ := ah_this ev1
  refine ah_callV (As := [.int x1]) (rest := []) K hG hL hl.1 eq2 rfl (ctX7_hasPlace l H0 D ca M z a0 x1 v1 ev1) hdX7_hasPlace q_236 q_237 q_53 q_239 q_238 ⟨Nat.le_of_ble_eq_true rfl, Nat.le_of_ble_eq_true rfl⟩ rfl rfl (Nat.le_of_ble_eq_true rfl) ⟨Nat.le_refl _, Nat.le_refl _⟩ dX7_at_2 (fun H locs hG hL => ?_)
  refine lv_if_eq (tgt := 17) K.1 K.2.1 dX7_at_5 (by decide) (fun h3 => ?_) (fun h3 => ?_)
  · rw [if_pos h3] at hf
    refine lv_iconst (v := 0) K.1 K.2.1 dX7_at_17 (by decide) ?_
    have hf := Option.some.inj hf
    subst hf
    exact ah_iret K hG hL (Nat.le_refl _) (Nat.le_refl _) dX7_at_18
  · rw [if_neg h3] at hf
    refine lv_aload_n K.1 K.2.1 dX7_at_8 rfl (lv_at hl 0 rfl) ?_
    obtain ⟨v4, ev4, hf⟩ := Option.bind_eq_some_iff.mp hf
    refine ah_getr K hG ev4 ffX7_22_7 dX7_at_9 ?_
    refine lv_iload_n K.1 K.2.1 dX7_at_12 rfl (lv_at hl 1 rfl) ?_
    obtain ⟨v5, ev5, hf⟩ := Option.bind_eq_some_iff.mp hf
    refine ah_iald K hG ev5 dX7_at_13 ?_
    refine lv_goto (tgt := 18) K.1 K.2.1 dX7_at_14 (by decide) ?_
    have hf := Option.some.inj hf
    subst hf
    exact ah_iret K hG hL (Nat.le_refl _) (Nat.le_refl _) dX7_at_18
def fX7_meetings (M : ah_h) (a0 : Nat) : Option (Int32) := (ah_ob M a0 7).bind fun _ => (ah_gi M a0 7 2).bind fun v1 => some (v1 / 2)
set_option maxRecDepth 100000 in
set_option maxHeartbeats 4000000 in
theorem ctX7_meetings (l : Launch) (H0 : Heap) (D : va_G) (ca : Nat → ClassId) (M : ah_h) (z : Nat) (a0 : Nat) (Z : Int32) (hf : fX7_meetings M a0 = some Z) : ah_ct l H0 D ca yX7_meetings cX7_meetings 1 (some .int) 0 0 0 0 [.ref a0] M z (some (.int Z)) M z := by
  refine ah_of (by decide) (Nat.le_of_ble_eq_true rfl) ?_
  intro p e s m below meth c ls hin K hG hl
  have hL : ah_L H0 [] := ah_L.nil
  have hl : lv_has ls 1 [(0, .ref a0)] := hl
  unfold fX7_meetings at hf
  obtain ⟨-, -, hf⟩ := Option.bind_eq_some_iff.mp hf
  refine lv_aload_n K.1 K.2.1 dX7_meetings_0 rfl (lv_at hl 0 rfl) ?_
  obtain ⟨v1, ev1, hf⟩ := Option.bind_eq_some_iff.mp hf
  refine ah_geti K hG ev1 ffX7_19_7 dX7_meetings_1 ?_
  refine lv_iconst (v := 2) K.1 K.2.1 dX7_meetings_4 (by decide) ?_
  refine lv_idiv K.1 K.2.1 dX7_meetings_5 (by decide) ?_
  have hf := Option.some.inj hf
  subst hf
  exact ah_iret K hG hL (Nat.le_refl _) (Nat.le_refl _) dX7_meetings_6
def fX7_one (M : ah_h) (a0 : Nat) (x1 : Int32) : Option (Int32) := (ah_ob M a0 7).bind fun _ => (fX7_at M a0 (2 * x1)).bind fun v1 => some v1
set_option maxRecDepth 100000 in
set_option maxHeartbeats 4000000 in
theorem ctX7_one (l : Launch) (H0 : Heap) (D : va_G) (ca : Nat → ClassId) (M : ah_h) (z : Nat) (a0 : Nat) (x1 : Int32) (Z : Int32) (hf : fX7_one M a0 x1 = some Z) : ah_ct l H0 D ca yX7_one cX7_one 2 (some .int) 2 42 0 0 [.ref a0, .int x1] M z (some (.int Z)) M z := by
  refine ah_of (by decide) (Nat.le_of_ble_eq_true rfl) ?_
  intro p e s m below meth c ls hin K hG hl
  have hL : ah_L H0 [] := ah_L.nil
  have hl : lv_has ls 2 [(0, .ref a0), (1, .int x1)] := hl
  unfold fX7_one at hf
  obtain ⟨-, -, hf⟩ := Option.bind_eq_some_iff.mp hf
  refine lv_aload_n K.1 K.2.1 dX7_one_0 rfl (lv_at hl 0 rfl) ?_
  refine lv_iconst (v := 2) K.1 K.2.1 dX7_one_1 (by decide) ?_
  refine lv_iload_n K.1 K.2.1 dX7_one_2 rfl (lv_at hl 1 rfl) ?_
  refine lv_imul K.1 K.2.1 dX7_one_3 ?_
  obtain ⟨v1, ev1, hf⟩ := Option.bind_eq_some_iff.mp hf
  obtain ⟨q2, eq2⟩ := ah_this ev1
  refine ah_callV (As := [.int (2 * x1)]) (rest := []) K hG hL hl.1 eq2 rfl (ctX7_at l H0 D ca M z a0 (2 * x1) v1 ev1) hdX7_at q_470 q_233 q_53 q_235 q_234 ⟨Nat.le_of_ble_eq_true rfl, Nat.le_of_ble_eq_true rfl⟩ rfl rfl (Nat.le_of_ble_eq_true rfl) ⟨Nat.le_refl _, Nat.le_refl _⟩ dX7_one_4 (fun H locs hG hL => ?_)
  have hf := Option.some.inj hf
  subst hf
  exact ah_iret K hG hL (Nat.le_refl _) (Nat.le_refl _) dX7_one_7
