-- X11_wrongRow X11_fleet X11_ship X11_man X11_wrongKept X11_commands X11_meet X11_wrongMeetings X11_first X11_second X11_meetings X11_meetsTold X11_begins X11_ends X11_where X11_mayBe X11_can X11_soonest X11_keeps X11_back X11_isWanted X11_sailed X11_never
def fX11_wrongRow (M : ah_h) (a0 : Nat) (x1 : Int32) (x2 : Int32) : Option (Int32) := (ah_ob M a0 11).bind fun _ => (fX11_isShelf M x1).bind fun v1 => if v1 = 0 then (some (-1)) else ((ah_gr M a0 11 4).bind fun v3 => (ah_ai M v3 x1).bind fun v4 => if v4 = 0 then (some (-11)) else ((ah_gr M a0 11 4).bind fun v6 => (ah_ai M v6 x1).bind fun v7 => if v7 = 2 then (if x2 < 0 then (some 0) else ((ah_gr M a0 11 5).bind fun v10 => (ah_ai M v10 x1).bind fun v11 => if v11 = x2 then (some 0) else (some (-12)))) else (some (-12))))
set_option maxRecDepth 100000 in
set_option maxHeartbeats 4000000 in
theorem ctX11_wrongRow (l : Launch) (H0 : Heap) (D : va_G) (ca : Nat → ClassId) (M : ah_h) (z : Nat) (a0 : Nat) (x1 : Int32) (x2 : Int32) (Z : Int32) (hf : fX11_wrongRow M a0 x1 x2 = some Z) : ah_ct l H0 D ca yX11_wrongRow cX11_wrongRow 3 (some .int) 2 45 0 0 [.ref a0, .int x1, .int x2] M z (some (.int Z)) M z := by
  refine ah_of (by decide) (Nat.le_of_ble_eq_true rfl) ?_
  intro p e s m below meth c ls hin K hG hl
  have hL : ah_L H0 [] := ah_L.nil
  have hl : lv_has ls 3 [(0, .ref a0), (1, .int x1), (2, .int x2)] := hl
  unfold fX11_wrongRow at hf
  obtain ⟨-, -, hf⟩ := Option.bind_eq_some_iff.mp hf
  refine lv_iload_n K.1 K.2.1 dX11_wrongRow_0 rfl (lv_at hl 1 rfl) ?_
  obtain ⟨v1, ev1, hf⟩ := Option.bind_eq_some_iff.mp hf
  refine ah_callS (As := [.int x1]) (rest := []) K hG hL hl.1 (ctX11_isShelf l H0 D ca M z x1 v1 ev1) hdX11_isShelf q_968 q_969 q_54 q_970 ⟨Nat.le_of_ble_eq_true rfl, Nat.le_of_ble_eq_true rfl⟩ rfl rfl (Nat.le_of_ble_eq_true rfl) ⟨Nat.le_refl _, Nat.le_refl _⟩ dX11_wrongRow_1 (fun H locs hG hL => ?_)
  refine lv_if_ne (tgt := 11) K.1 K.2.1 dX11_wrongRow_4 (by decide) (fun h2 => ?_) (fun h2 => ?_)
  · rw [if_neg h2] at hf
    refine lv_aload_n K.1 K.2.1 dX11_wrongRow_11 rfl (lv_at hl 0 rfl) ?_
    obtain ⟨v3, ev3, hf⟩ := Option.bind_eq_some_iff.mp hf
    refine ah_getr K hG ev3 ffX11_22_11 dX11_wrongRow_12 ?_
    refine lv_iload_n K.1 K.2.1 dX11_wrongRow_15 rfl (lv_at hl 1 rfl) ?_
    obtain ⟨v4, ev4, hf⟩ := Option.bind_eq_some_iff.mp hf
    refine ah_iald K hG ev4 dX11_wrongRow_16 ?_
    refine lv_if_ne (tgt := 25) K.1 K.2.1 dX11_wrongRow_17 (by decide) (fun h5 => ?_) (fun h5 => ?_)
    · rw [if_neg h5] at hf
      refine lv_aload_n K.1 K.2.1 dX11_wrongRow_25 rfl (lv_at hl 0 rfl) ?_
      obtain ⟨v6, ev6, hf⟩ := Option.bind_eq_some_iff.mp hf
      refine ah_getr K hG ev6 ffX11_22_11 dX11_wrongRow_26 ?_
      refine lv_iload_n K.1 K.2.1 dX11_wrongRow_29 rfl (lv_at hl 1 rfl) ?_
      obtain ⟨v7, ev7, hf⟩ := Option.bind_eq_some_iff.mp hf
      refine ah_iald K hG ev7 dX11_wrongRow_30 ?_
      refine lv_iconst (v := 2) K.1 K.2.1 dX11_wrongRow_31 (by decide) ?_
      refine lv_icmp_ne (tgt := 49) K.1 K.2.1 dX11_wrongRow_32 (by decide) (fun h8 => ?_) (fun h8 => ?_)
      · rw [if_neg h8] at hf
        refine lv_bipush (v := (-12)) K.1 K.2.1 dX11_wrongRow_49 (by decide) ?_
        refine lv_goto (tgt := 55) K.1 K.2.1 dX11_wrongRow_51 (by decide) ?_
        have hf := Option.some.inj hf
        subst hf
        exact ah_iret K hG hL (Nat.le_refl _) (Nat.le_refl _) dX11_wrongRow_55
      · rw [if_pos h8] at hf
        refine lv_iload_n K.1 K.2.1 dX11_wrongRow_35 rfl (lv_at hl 2 rfl) ?_
        refine lv_if_lt (tgt := 54) K.1 K.2.1 dX11_wrongRow_36 (by decide) (fun h9 => ?_) (fun h9 => ?_)
        · rw [if_pos h9] at hf
          refine lv_iconst (v := 0) K.1 K.2.1 dX11_wrongRow_54 (by decide) ?_
          have hf := Option.some.inj hf
          subst hf
          exact ah_iret K hG hL (Nat.le_refl _) (Nat.le_refl _) dX11_wrongRow_55
        · rw [if_neg h9] at hf
          refine lv_aload_n K.1 K.2.1 dX11_wrongRow_39 rfl (lv_at hl 0 rfl) ?_
          obtain ⟨v10, ev10, hf⟩ := Option.bind_eq_some_iff.mp hf
          refine ah_getr K hG ev10 ffX11_25_11 dX11_wrongRow_40 ?_
          refine lv_iload_n K.1 K.2.1 dX11_wrongRow_43 rfl (lv_at hl 1 rfl) ?_
          obtain ⟨v11, ev11, hf⟩ := Option.bind_eq_some_iff.mp hf
          refine ah_iald K hG ev11 dX11_wrongRow_44 ?_
          refine lv_iload_n K.1 K.2.1 dX11_wrongRow_45 rfl (lv_at hl 2 rfl) ?_
          refine lv_icmp_eq (tgt := 54) K.1 K.2.1 dX11_wrongRow_46 (by decide) (fun h12 => ?_) (fun h12 => ?_)
          · rw [if_pos h12] at hf
            refine lv_iconst (v := 0) K.1 K.2.1 dX11_wrongRow_54 (by decide) ?_
            have hf := Option.some.inj hf
            subst hf
            exact ah_iret K hG hL (Nat.le_refl _) (Nat.le_refl _) dX11_wrongRow_55
          · rw [if_neg h12] at hf
            refine lv_bipush (v := (-12)) K.1 K.2.1 dX11_wrongRow_49 (by decide) ?_
            refine lv_goto (tgt := 55) K.1 K.2.1 dX11_wrongRow_51 (by decide) ?_
            have hf := Option.some.inj hf
            subst hf
            exact ah_iret K hG hL (Nat.le_refl _) (Nat.le_refl _) dX11_wrongRow_55
    · rw [if_pos h5] at hf
      refine lv_bipush (v := (-11)) K.1 K.2.1 dX11_wrongRow_20 (by decide) ?_
      refine lv_goto (tgt := 55) K.1 K.2.1 dX11_wrongRow_22 (by decide) ?_
      have hf := Option.some.inj hf
      subst hf
      exact ah_iret K hG hL (Nat.le_refl _) (Nat.le_refl _) dX11_wrongRow_55
  · rw [if_pos h2] at hf
    refine lv_iconst (v := (-1)) K.1 K.2.1 dX11_wrongRow_7 (by decide) ?_
    refine lv_goto (tgt := 55) K.1 K.2.1 dX11_wrongRow_8 (by decide) ?_
    have hf := Option.some.inj hf
    subst hf
    exact ah_iret K hG hL (Nat.le_refl _) (Nat.le_refl _) dX11_wrongRow_55
def fX11_fleet_84_b   (k84 : ah_h → Nat → Int32 → Option (Int32 × ah_h))  (M : ah_h) (a0 : Nat) (x3 : Int32) : Option (Int32 × ah_h) := (ah_gi M a0 11 14).bind fun v1 => (ah_gi M a0 11 16).bind fun v2 => if v2 ≤ v1 then (some (x3, M)) else ((ah_gi M a0 11 14).bind fun v4 => (fX11_here M a0).bind fun v5 => (fX11_readsStatement M a0).bind fun v7 => (fX11_comes v7.2 a0 v5).bind fun v9 => if v9.1 = 0 then ((ah_gr v9.2 a0 11 2).bind fun v12 => (ah_gr v9.2 a0 11 0).bind fun v13 => (fX11_copies v9.2 v12 v13).bind fun v14 => some ((-2000) - v4, v14)) else (k84 v9.2 a0 x3))
def fX11_fleet_84    : Nat → ah_h → Nat → Int32 → Option (Int32 × ah_h)
  | 0 => fun _ _ _ => none
  | n + 1 => fun M a0 x3 => fX11_fleet_84_b   (fX11_fleet_84    n)  M a0 x3
set_option maxRecDepth 100000 in
set_option maxHeartbeats 4000000 in
theorem wX11_fleet_84_b {p : Program} {l : Launch} {e : Env} {s : State} {m : MethodId} {args : Array Value} {below : List Frame} {meth : Method} {c : Code} {D : va_G} {ca : Nat → ClassId} {H0 : Heap} {z : Nat} (K : ah_K p s m args meth c D ca "ShipsThatMeetModel" cX11_fleet 7 (some .int))   (k84 : ah_h → Nat → Int32 → Option (Int32 × ah_h)) (hk84 : ∀ (M : ah_h) (a0 : Nat) (x3 : Int32)  (H : Heap) (locs : List Loc) (ls : Array Slot), ah_g H0 D ca M z H → ah_L H0 locs → lv_has ls 7 [(0, .ref a0), (3, .int x3)] → ∀ Z, k84 M a0 x3 = some Z → W p l e { frames := 6, cells := 0, slots := 0, locals := 140 } s m args below meth c H locs 0 0 (ah_Q below args s H0 D ca 0 0 (some (.int Z.1)) Z.2 z) (F0 m 84 ls [])) : ∀ (M : ah_h) (a0 : Nat) (x3 : Int32)  (H : Heap) (locs : List Loc) (ls : Array Slot), ah_g H0 D ca M z H → ah_L H0 locs → lv_has ls 7 [(0, .ref a0), (3, .int x3)] → ∀ Z, fX11_fleet_84_b   k84  M a0 x3 = some Z → W p l e { frames := 6, cells := 0, slots := 0, locals := 140 } s m args below meth c H locs 0 0 (ah_Q below args s H0 D ca 0 0 (some (.int Z.1)) Z.2 z) (F0 m 84 ls []) := by
  intro M a0 x3 H locs ls hG hL hl Z hf
  unfold fX11_fleet_84_b at hf
  refine lv_aload_n K.1 K.2.1 dX11_fleet_84 rfl (lv_at hl 0 rfl) ?_
  obtain ⟨v1, ev1, hf⟩ := Option.bind_eq_some_iff.mp hf
  refine ah_geti K hG ev1 ffX11_121_11 dX11_fleet_85 ?_
  refine lv_aload_n K.1 K.2.1 dX11_fleet_88 rfl (lv_at hl 0 rfl) ?_
  obtain ⟨v2, ev2, hf⟩ := Option.bind_eq_some_iff.mp hf
  refine ah_geti K hG ev2 ffX11_124_11 dX11_fleet_89 ?_
  refine lv_icmp_ge (tgt := 143) K.1 K.2.1 dX11_fleet_92 (by decide) (fun h3 => ?_) (fun h3 => ?_)
  · rw [if_pos h3] at hf
    refine lv_iload_n K.1 K.2.1 dX11_fleet_143 rfl (lv_at hl 1 rfl) ?_
    have hf := Option.some.inj hf
    subst hf
    exact ah_iret K hG hL (Nat.le_refl _) (Nat.le_refl _) dX11_fleet_144
  · rw [if_neg h3] at hf
    refine lv_aload_n K.1 K.2.1 dX11_fleet_95 rfl (lv_at hl 0 rfl) ?_
    obtain ⟨v4, ev4, hf⟩ := Option.bind_eq_some_iff.mp hf
    refine ah_geti K hG ev4 ffX11_121_11 dX11_fleet_96 ?_
    refine lv_istore (lv' := [(4, .int v4), (0, .ref a0), (3, .int x3)]) K.1 K.2.1 dX11_fleet_99 hl (by decide) rfl (fun ls hl => ?_)
    refine lv_aload_n K.1 K.2.1 dX11_fleet_101 rfl (lv_at hl 1 rfl) ?_
    obtain ⟨v5, ev5, hf⟩ := Option.bind_eq_some_iff.mp hf
    obtain ⟨q6, eq6⟩ := ah_this ev5
    refine ah_callV (As := []) (rest := []) K hG hL hl.1 eq6 rfl (ctX11_here l H0 D ca M z a0 v5 ev5) hdX11_here q_979 q_981 q_54 q_982 q_13 ⟨Nat.le_of_ble_eq_true rfl, Nat.le_of_ble_eq_true rfl⟩ rfl rfl (Nat.le_of_ble_eq_true rfl) ⟨Nat.le_refl _, Nat.le_refl _⟩ dX11_fleet_102 (fun H locs hG hL => ?_)
    refine lv_istore (lv' := [(5, .int v5), (4, .int v4), (0, .ref a0), (3, .int x3)]) K.1 K.2.1 dX11_fleet_105 hl (by decide) rfl (fun ls hl => ?_)
    refine lv_aload_n K.1 K.2.1 dX11_fleet_107 rfl (lv_at hl 2 rfl) ?_
    obtain ⟨v7, ev7, hf⟩ := Option.bind_eq_some_iff.mp hf
    obtain ⟨q8, eq8⟩ := ah_this ev7
    refine ah_callV (As := []) (rest := []) K hG hL hl.1 eq8 rfl (ctX11_readsStatement l H0 D ca M z a0 v7 ev7) hdX11_readsStatement q_975 q_977 q_54 q_978 q_12 ⟨Nat.le_of_ble_eq_true rfl, Nat.le_of_ble_eq_true rfl⟩ rfl rfl (Nat.le_of_ble_eq_true rfl) ⟨Nat.le_refl _, Nat.le_refl _⟩ dX11_fleet_108 (fun H locs hG hL => ?_)
    refine lv_istore (lv' := [(6, .int v7.1), (5, .int v5), (4, .int v4), (0, .ref a0), (3, .int x3)]) K.1 K.2.1 dX11_fleet_111 hl (by decide) rfl (fun ls hl => ?_)
    refine lv_aload_n K.1 K.2.1 dX11_fleet_113 rfl (lv_at hl 3 rfl) ?_
    refine lv_iload K.1 K.2.1 dX11_fleet_114 (lv_at hl 1 rfl) ?_
    obtain ⟨v9, ev9, hf⟩ := Option.bind_eq_some_iff.mp hf
    obtain ⟨q10, eq10⟩ := ah_this ev9
    refine ah_callV (As := [.int v5]) (rest := []) K hG hL hl.1 eq10 rfl (ctX11_comes l H0 D ca v7.2 z a0 v5 v9 ev9) hdX11_comes q_992 q_994 q_54 q_995 q_15 ⟨Nat.le_of_ble_eq_true rfl, Nat.le_of_ble_eq_true rfl⟩ rfl rfl (Nat.le_of_ble_eq_true rfl) ⟨Nat.le_refl _, Nat.le_refl _⟩ dX11_fleet_116 (fun H locs hG hL => ?_)
    refine lv_if_ne (tgt := 140) K.1 K.2.1 dX11_fleet_119 (by decide) (fun h11 => ?_) (fun h11 => ?_)
    · rw [if_neg h11] at hf
      refine lv_goto (tgt := 84) K.1 K.2.1 dX11_fleet_140 (by decide) ?_
      exact hk84 v9.2 a0 x3 _ _ _ hG hL (lv_sub hl [3, 4] rfl) _ hf
    · rw [if_pos h11] at hf
      refine lv_aload_n K.1 K.2.1 dX11_fleet_122 rfl (lv_at hl 3 rfl) ?_
      obtain ⟨v12, ev12, hf⟩ := Option.bind_eq_some_iff.mp hf
      refine ah_getr K hG ev12 ffX11_16_11 dX11_fleet_123 ?_
      refine lv_aload_n K.1 K.2.1 dX11_fleet_126 rfl (lv_at hl 3 rfl) ?_
      obtain ⟨v13, ev13, hf⟩ := Option.bind_eq_some_iff.mp hf
      refine ah_getr K hG ev13 ffX11_9_11 dX11_fleet_127 ?_
      obtain ⟨v14, ev14, hf⟩ := Option.bind_eq_some_iff.mp hf
      refine ah_callS (As := [.ref v12, .ref v13]) (rest := []) K hG hL hl.1 (ctX11_copies l H0 D ca v9.2 z v12 v13 v14 ev14) hdX11_copies q_989 q_990 q_54 q_991 ⟨Nat.le_of_ble_eq_true rfl, Nat.le_of_ble_eq_true rfl⟩ rfl rfl (Nat.le_of_ble_eq_true rfl) ⟨Nat.le_refl _, Nat.le_refl _⟩ dX11_fleet_130 (fun H locs hG hL => ?_)
      refine lv_sipush (v := (-2000)) K.1 K.2.1 dX11_fleet_133 (by decide) ?_
      refine lv_iload K.1 K.2.1 dX11_fleet_136 (lv_at hl 2 rfl) ?_
      refine lv_isub K.1 K.2.1 dX11_fleet_138 ?_
      have hf := Option.some.inj hf
      subst hf
      exact ah_iret K hG hL (Nat.le_refl _) (Nat.le_refl _) dX11_fleet_139
theorem wX11_fleet_84 {p : Program} {l : Launch} {e : Env} {s : State} {m : MethodId} {args : Array Value} {below : List Frame} {meth : Method} {c : Code} {D : va_G} {ca : Nat → ClassId} {H0 : Heap} {z : Nat} (K : ah_K p s m args meth c D ca "ShipsThatMeetModel" cX11_fleet 7 (some .int))   (n : Nat) : ∀ (M : ah_h) (a0 : Nat) (x3 : Int32)  (H : Heap) (locs : List Loc) (ls : Array Slot), ah_g H0 D ca M z H → ah_L H0 locs → lv_has ls 7 [(0, .ref a0), (3, .int x3)] → ∀ Z, fX11_fleet_84    n M a0 x3 = some Z → W p l e { frames := 6, cells := 0, slots := 0, locals := 140 } s m args below meth c H locs 0 0 (ah_Q below args s H0 D ca 0 0 (some (.int Z.1)) Z.2 z) (F0 m 84 ls []) := by
  induction n with
  | zero => intro M a0 x3 H locs ls hG hL hl Z hf; cases hf
  | succ n ih => exact wX11_fleet_84_b K  _ ih
def fX11_fleet_38_b   (k38 : ah_h → Nat → Int32 → Option (Int32 × ah_h))  (M : ah_h) (a0 : Nat) (x3 : Int32) : Option (Int32 × ah_h) := (fX11_readsStatement M a0).bind fun v1 => if v1.1 = 0 then ((ah_gi v1.2 a0 11 14).bind fun v11 => some ((-1000) - v11, v1.2)) else ((ah_gi v1.2 a0 11 14).bind fun v4 => (ah_gi v1.2 a0 11 16).bind fun v5 => if v4 < v5 then (k38 v1.2 a0 (x3 + 1)) else ((ah_gr v1.2 a0 11 0).bind fun v7 => (ah_gr v1.2 a0 11 2).bind fun v8 => (fX11_copies v1.2 v7 v8).bind fun v9 => (ah_pf v9 a0 11 14 (.int 0)).bind fun M10 => fX11_fleet_84 ah_fu M10 a0 (x3 + 1)))
def fX11_fleet_38    : Nat → ah_h → Nat → Int32 → Option (Int32 × ah_h)
  | 0 => fun _ _ _ => none
  | n + 1 => fun M a0 x3 => fX11_fleet_38_b   (fX11_fleet_38    n)  M a0 x3
set_option maxRecDepth 100000 in
set_option maxHeartbeats 4000000 in
theorem wX11_fleet_38_b {p : Program} {l : Launch} {e : Env} {s : State} {m : MethodId} {args : Array Value} {below : List Frame} {meth : Method} {c : Code} {D : va_G} {ca : Nat → ClassId} {H0 : Heap} {z : Nat} (K : ah_K p s m args meth c D ca "ShipsThatMeetModel" cX11_fleet 7 (some .int))   (k38 : ah_h → Nat → Int32 → Option (Int32 × ah_h)) (hk38 : ∀ (M : ah_h) (a0 : Nat) (x3 : Int32)  (H : Heap) (locs : List Loc) (ls : Array Slot), ah_g H0 D ca M z H → ah_L H0 locs → lv_has ls 7 [(0, .ref a0), (3, .int x3)] → ∀ Z, k38 M a0 x3 = some Z → W p l e { frames := 6, cells := 0, slots := 0, locals := 140 } s m args below meth c H locs 0 0 (ah_Q below args s H0 D ca 0 0 (some (.int Z.1)) Z.2 z) (F0 m 38 ls [])) : ∀ (M : ah_h) (a0 : Nat) (x3 : Int32)  (H : Heap) (locs : List Loc) (ls : Array Slot), ah_g H0 D ca M z H → ah_L H0 locs → lv_has ls 7 [(0, .ref a0), (3, .int x3)] → ∀ Z, fX11_fleet_38_b   k38  M a0 x3 = some Z → W p l e { frames := 6, cells := 0, slots := 0, locals := 140 } s m args below meth c H locs 0 0 (ah_Q below args s H0 D ca 0 0 (some (.int Z.1)) Z.2 z) (F0 m 38 ls []) := by
  intro M a0 x3 H locs ls hG hL hl Z hf
  unfold fX11_fleet_38_b at hf
  refine lv_aload_n K.1 K.2.1 dX11_fleet_38 rfl (lv_at hl 0 rfl) ?_
  obtain ⟨v1, ev1, hf⟩ := Option.bind_eq_some_iff.mp hf
  obtain ⟨q2, eq2⟩ := ah_this ev1
  refine ah_callV (As := []) (rest := []) K hG hL hl.1 eq2 rfl (ctX11_readsStatement l H0 D ca M z a0 v1 ev1) hdX11_readsStatement q_975 q_977 q_54 q_978 q_12 ⟨Nat.le_of_ble_eq_true rfl, Nat.le_of_ble_eq_true rfl⟩ rfl rfl (Nat.le_of_ble_eq_true rfl) ⟨Nat.le_refl _, Nat.le_refl _⟩ dX11_fleet_39 (fun H locs hG hL => ?_)
  refine lv_if_ne (tgt := 54) K.1 K.2.1 dX11_fleet_42 (by decide) (fun h3 => ?_) (fun h3 => ?_)
  · rw [if_neg h3] at hf
    refine lv_iinc (v := x3 + 1) (lv' := [(3, .int (x3 + 1)), (0, .ref a0)]) K.1 K.2.1 dX11_fleet_54 hl (k := 1) rfl rfl (by decide) rfl (fun ls hl => ?_)
    refine lv_aload_n K.1 K.2.1 dX11_fleet_57 rfl (lv_at hl 1 rfl) ?_
    obtain ⟨v4, ev4, hf⟩ := Option.bind_eq_some_iff.mp hf
    refine ah_geti K hG ev4 ffX11_121_11 dX11_fleet_58 ?_
    refine lv_aload_n K.1 K.2.1 dX11_fleet_61 rfl (lv_at hl 1 rfl) ?_
    obtain ⟨v5, ev5, hf⟩ := Option.bind_eq_some_iff.mp hf
    refine ah_geti K hG ev5 ffX11_124_11 dX11_fleet_62 ?_
    refine lv_icmp_lt (tgt := 38) K.1 K.2.1 dX11_fleet_65 (by decide) (fun h6 => ?_) (fun h6 => ?_)
    · rw [if_pos h6] at hf
      exact hk38 v1.2 a0 (x3 + 1) _ _ _ hG hL (lv_sub hl [1, 0] rfl) _ hf
    · rw [if_neg h6] at hf
      refine lv_aload_n K.1 K.2.1 dX11_fleet_68 rfl (lv_at hl 1 rfl) ?_
      obtain ⟨v7, ev7, hf⟩ := Option.bind_eq_some_iff.mp hf
      refine ah_getr K hG ev7 ffX11_9_11 dX11_fleet_69 ?_
      refine lv_aload_n K.1 K.2.1 dX11_fleet_72 rfl (lv_at hl 1 rfl) ?_
      obtain ⟨v8, ev8, hf⟩ := Option.bind_eq_some_iff.mp hf
      refine ah_getr K hG ev8 ffX11_16_11 dX11_fleet_73 ?_
      obtain ⟨v9, ev9, hf⟩ := Option.bind_eq_some_iff.mp hf
      refine ah_callS (As := [.ref v7, .ref v8]) (rest := []) K hG hL hl.1 (ctX11_copies l H0 D ca v1.2 z v7 v8 v9 ev9) hdX11_copies q_989 q_990 q_54 q_991 ⟨Nat.le_of_ble_eq_true rfl, Nat.le_of_ble_eq_true rfl⟩ rfl rfl (Nat.le_of_ble_eq_true rfl) ⟨Nat.le_refl _, Nat.le_refl _⟩ dX11_fleet_76 (fun H locs hG hL => ?_)
      refine lv_aload_n K.1 K.2.1 dX11_fleet_79 rfl (lv_at hl 1 rfl) ?_
      refine lv_iconst (v := 0) K.1 K.2.1 dX11_fleet_80 (by decide) ?_
      obtain ⟨M10, eM10, hf⟩ := Option.bind_eq_some_iff.mp hf
      refine ah_put K hG hL eM10 fwX11_121_11 rfl rfl dX11_fleet_81 (fun H locs hG hL => ?_)
      exact wX11_fleet_84 K  ah_fu M10 a0 (x3 + 1) _ _ _ hG hL (lv_sub hl [1, 0] rfl) _ hf
  · rw [if_pos h3] at hf
    refine lv_sipush (v := (-1000)) K.1 K.2.1 dX11_fleet_45 (by decide) ?_
    refine lv_aload_n K.1 K.2.1 dX11_fleet_48 rfl (lv_at hl 0 rfl) ?_
    obtain ⟨v11, ev11, hf⟩ := Option.bind_eq_some_iff.mp hf
    refine ah_geti K hG ev11 ffX11_121_11 dX11_fleet_49 ?_
    refine lv_isub K.1 K.2.1 dX11_fleet_52 ?_
    have hf := Option.some.inj hf
    subst hf
    exact ah_iret K hG hL (Nat.le_refl _) (Nat.le_refl _) dX11_fleet_53
theorem wX11_fleet_38 {p : Program} {l : Launch} {e : Env} {s : State} {m : MethodId} {args : Array Value} {below : List Frame} {meth : Method} {c : Code} {D : va_G} {ca : Nat → ClassId} {H0 : Heap} {z : Nat} (K : ah_K p s m args meth c D ca "ShipsThatMeetModel" cX11_fleet 7 (some .int))   (n : Nat) : ∀ (M : ah_h) (a0 : Nat) (x3 : Int32)  (H : Heap) (locs : List Loc) (ls : Array Slot), ah_g H0 D ca M z H → ah_L H0 locs → lv_has ls 7 [(0, .ref a0), (3, .int x3)] → ∀ Z, fX11_fleet_38    n M a0 x3 = some Z → W p l e { frames := 6, cells := 0, slots := 0, locals := 140 } s m args below meth c H locs 0 0 (ah_Q below args s H0 D ca 0 0 (some (.int Z.1)) Z.2 z) (F0 m 38 ls []) := by
  induction n with
  | zero => intro M a0 x3 H locs ls hG hL hl Z hf; cases hf
  | succ n ih => exact wX11_fleet_38_b K  _ ih
def fX11_fleet (M : ah_h) (a0 : Nat) (x1 : Int32) : Option (Int32 × ah_h) := (ah_ob M a0 11).bind fun _ => (fX11_wrongRow M a0 x1 0).bind fun v1 => if v1 = 0 then ((ah_pf M a0 11 15 (.int (100 * x1))).bind fun M4 => (ah_gr M4 a0 11 6).bind fun v5 => (ah_ai M4 v5 x1).bind fun v6 => (ah_pf M4 a0 11 16 (.int v6)).bind fun M7 => (ah_pf M7 a0 11 14 (.int 0)).bind fun M8 => fX11_fleet_38 ah_fu M8 a0 0) else (some (v1, M))
set_option maxRecDepth 100000 in
set_option maxHeartbeats 4000000 in
theorem ctX11_fleet (l : Launch) (H0 : Heap) (D : va_G) (ca : Nat → ClassId) (M : ah_h) (z : Nat) (a0 : Nat) (x1 : Int32) (Z : Int32 × ah_h) (hf : fX11_fleet M a0 x1 = some Z) : ah_ct l H0 D ca yX11_fleet cX11_fleet 7 (some .int) 6 140 0 0 [.ref a0, .int x1] M z (some (.int Z.1)) Z.2 z := by
  refine ah_of (by decide) (Nat.le_of_ble_eq_true rfl) ?_
  intro p e s m below meth c ls hin K hG hl
  have hL : ah_L H0 [] := ah_L.nil
  have hl : lv_has ls 7 [(0, .ref a0), (1, .int x1)] := hl
  unfold fX11_fleet at hf
  obtain ⟨-, -, hf⟩ := Option.bind_eq_some_iff.mp hf
  refine lv_aload_n K.1 K.2.1 dX11_fleet_0 rfl (lv_at hl 0 rfl) ?_
  refine lv_iload_n K.1 K.2.1 dX11_fleet_1 rfl (lv_at hl 1 rfl) ?_
  refine lv_iconst (v := 0) K.1 K.2.1 dX11_fleet_2 (by decide) ?_
  obtain ⟨v1, ev1, hf⟩ := Option.bind_eq_some_iff.mp hf
  obtain ⟨q2, eq2⟩ := ah_this ev1
  refine ah_callV (As := [.int x1, .int 0]) (rest := []) K hG hL hl.1 eq2 rfl (ctX11_wrongRow l H0 D ca M z a0 x1 0 v1 ev1) hdX11_wrongRow q_964 q_966 q_54 q_967 q_11 ⟨Nat.le_of_ble_eq_true rfl, Nat.le_of_ble_eq_true rfl⟩ rfl rfl (Nat.le_of_ble_eq_true rfl) ⟨Nat.le_refl _, Nat.le_refl _⟩ dX11_fleet_3 (fun H locs hG hL => ?_)
  refine lv_istore_n (lv' := [(2, .int v1), (0, .ref a0), (1, .int x1)]) K.1 K.2.1 dX11_fleet_6 rfl hl (by decide) rfl (fun ls hl => ?_)
  refine lv_iload_n K.1 K.2.1 dX11_fleet_7 rfl (lv_at hl 0 rfl) ?_
  refine lv_if_eq (tgt := 13) K.1 K.2.1 dX11_fleet_8 (by decide) (fun h3 => ?_) (fun h3 => ?_)
  · rw [if_pos h3] at hf
    refine lv_aload_n K.1 K.2.1 dX11_fleet_13 rfl (lv_at hl 1 rfl) ?_
    refine lv_bipush (v := 100) K.1 K.2.1 dX11_fleet_14 (by decide) ?_
    refine lv_iload_n K.1 K.2.1 dX11_fleet_16 rfl (lv_at hl 2 rfl) ?_
    refine lv_imul K.1 K.2.1 dX11_fleet_17 ?_
    obtain ⟨M4, eM4, hf⟩ := Option.bind_eq_some_iff.mp hf
    refine ah_put K hG hL eM4 fwX11_127_11 rfl rfl dX11_fleet_18 (fun H locs hG hL => ?_)
    refine lv_aload_n K.1 K.2.1 dX11_fleet_21 rfl (lv_at hl 1 rfl) ?_
    refine lv_aload_n K.1 K.2.1 dX11_fleet_22 rfl (lv_at hl 1 rfl) ?_
    obtain ⟨v5, ev5, hf⟩ := Option.bind_eq_some_iff.mp hf
    refine ah_getr K hG ev5 ffX11_28_11 dX11_fleet_23 ?_
    refine lv_iload_n K.1 K.2.1 dX11_fleet_26 rfl (lv_at hl 2 rfl) ?_
    obtain ⟨v6, ev6, hf⟩ := Option.bind_eq_some_iff.mp hf
    refine ah_iald K hG ev6 dX11_fleet_27 ?_
    obtain ⟨M7, eM7, hf⟩ := Option.bind_eq_some_iff.mp hf
    refine ah_put K hG hL eM7 fwX11_124_11 rfl rfl dX11_fleet_28 (fun H locs hG hL => ?_)
    refine lv_aload_n K.1 K.2.1 dX11_fleet_31 rfl (lv_at hl 1 rfl) ?_
    refine lv_iconst (v := 0) K.1 K.2.1 dX11_fleet_32 (by decide) ?_
    obtain ⟨M8, eM8, hf⟩ := Option.bind_eq_some_iff.mp hf
    refine ah_put K hG hL eM8 fwX11_121_11 rfl rfl dX11_fleet_33 (fun H locs hG hL => ?_)
    refine lv_iconst (v := 0) K.1 K.2.1 dX11_fleet_36 (by decide) ?_
    refine lv_istore_n (lv' := [(3, .int 0), (2, .int v1), (0, .ref a0), (1, .int x1)]) K.1 K.2.1 dX11_fleet_37 rfl hl (by decide) rfl (fun ls hl => ?_)
    exact wX11_fleet_38 K  ah_fu M8 a0 0 _ _ _ hG hL (lv_sub hl [2, 0] rfl) _ hf
  · rw [if_neg h3] at hf
    refine lv_iload_n K.1 K.2.1 dX11_fleet_11 rfl (lv_at hl 0 rfl) ?_
    have hf := Option.some.inj hf
    subst hf
    exact ah_iret K hG hL (Nat.le_refl _) (Nat.le_refl _) dX11_fleet_12
def fX11_ship (M : ah_h) (a0 : Nat) (x1 : Int32) (x2 : Int32) : Option (Int32) := (ah_ob M a0 11).bind fun _ => (fX11_isShip M a0 x1).bind fun v1 => if v1 = 0 then (some (-1)) else (if x2 = 0 then ((fX11_kind M a0 x1).bind fun v5 => some v5) else if x2 = 1 then ((fX11_figure M a0 x1).bind fun v8 => some v8) else if x2 = 2 then ((fX11_aboard M a0 x1).bind fun v11 => (fX11_bits M v11).bind fun v13 => some v13) else if x2 = 3 then ((fX11_aboard M a0 x1).bind fun v15 => some v15) else if x2 = 4 then ((fX11_gives M a0 x1).bind fun v18 => some v18) else (some (-1)))
set_option maxRecDepth 100000 in
set_option maxHeartbeats 4000000 in
theorem ctX11_ship (l : Launch) (H0 : Heap) (D : va_G) (ca : Nat → ClassId) (M : ah_h) (z : Nat) (a0 : Nat) (x1 : Int32) (x2 : Int32) (Z : Int32) (hf : fX11_ship M a0 x1 x2 = some Z) : ah_ct l H0 D ca yX11_ship cX11_ship 3 (some .int) 4 94 0 0 [.ref a0, .int x1, .int x2] M z (some (.int Z)) M z := by
  refine ah_of (by decide) (Nat.le_of_ble_eq_true rfl) ?_
  intro p e s m below meth c ls hin K hG hl
  have hL : ah_L H0 [] := ah_L.nil
  have hl : lv_has ls 3 [(0, .ref a0), (1, .int x1), (2, .int x2)] := hl
  unfold fX11_ship at hf
  obtain ⟨-, -, hf⟩ := Option.bind_eq_some_iff.mp hf
  refine lv_aload_n K.1 K.2.1 dX11_ship_0 rfl (lv_at hl 0 rfl) ?_
  refine lv_iload_n K.1 K.2.1 dX11_ship_1 rfl (lv_at hl 1 rfl) ?_
  obtain ⟨v1, ev1, hf⟩ := Option.bind_eq_some_iff.mp hf
  obtain ⟨q2, eq2⟩ := ah_this ev1
  refine ah_callV (As := [.int x1]) (rest := []) K hG hL hl.1 eq2 rfl (ctX11_isShip l H0 D ca M z a0 x1 v1 ev1) hdX11_isShip q_996 q_998 q_54 q_999 q_16 ⟨Nat.le_of_ble_eq_true rfl, Nat.le_of_ble_eq_true rfl⟩ rfl rfl (Nat.le_of_ble_eq_true rfl) ⟨Nat.le_refl _, Nat.le_refl _⟩ dX11_ship_2 (fun H locs hG hL => ?_)
  refine lv_if_ne (tgt := 10) K.1 K.2.1 dX11_ship_5 (by decide) (fun h3 => ?_) (fun h3 => ?_)
  · rw [if_neg h3] at hf
    refine lv_iload_n K.1 K.2.1 dX11_ship_10 rfl (lv_at hl 2 rfl) ?_
    by_cases h4 : x2 = 0
    · rw [if_pos h4] at hf
      refine lv_tableIn (off := 33) (tgt := 44) K.1 K.2.1 dX11_ship_11 (by rw [h4]; decide) (by rw [h4]; decide) (by rw [h4]; rfl) (by decide) ?_
      refine lv_aload_n K.1 K.2.1 dX11_ship_44 rfl (lv_at hl 0 rfl) ?_
      refine lv_iload_n K.1 K.2.1 dX11_ship_45 rfl (lv_at hl 1 rfl) ?_
      obtain ⟨v5, ev5, hf⟩ := Option.bind_eq_some_iff.mp hf
      obtain ⟨q6, eq6⟩ := ah_this ev5
      refine ah_callV (As := [.int x1]) (rest := []) K hG hL hl.1 eq6 rfl (ctX11_kind l H0 D ca M z a0 x1 v5 ev5) hdX11_kind q_1032 q_1034 q_54 q_1035 q_25 ⟨Nat.le_of_ble_eq_true rfl, Nat.le_of_ble_eq_true rfl⟩ rfl rfl (Nat.le_of_ble_eq_true rfl) ⟨Nat.le_refl _, Nat.le_refl _⟩ dX11_ship_46 (fun H locs hG hL => ?_)
      have hf := Option.some.inj hf
      subst hf
      exact ah_iret K hG hL (Nat.le_refl _) (Nat.le_refl _) dX11_ship_49
    rw [if_neg h4] at hf
    by_cases h7 : x2 = 1
    · rw [if_pos h7] at hf
      refine lv_tableIn (off := 39) (tgt := 50) K.1 K.2.1 dX11_ship_11 (by rw [h7]; decide) (by rw [h7]; decide) (by rw [h7]; rfl) (by decide) ?_
      refine lv_aload_n K.1 K.2.1 dX11_ship_50 rfl (lv_at hl 0 rfl) ?_
      refine lv_iload_n K.1 K.2.1 dX11_ship_51 rfl (lv_at hl 1 rfl) ?_
      obtain ⟨v8, ev8, hf⟩ := Option.bind_eq_some_iff.mp hf
      obtain ⟨q9, eq9⟩ := ah_this ev8
      refine ah_callV (As := [.int x1]) (rest := []) K hG hL hl.1 eq9 rfl (ctX11_figure l H0 D ca M z a0 x1 v8 ev8) hdX11_figure q_1028 q_1030 q_54 q_1031 q_24 ⟨Nat.le_of_ble_eq_true rfl, Nat.le_of_ble_eq_true rfl⟩ rfl rfl (Nat.le_of_ble_eq_true rfl) ⟨Nat.le_refl _, Nat.le_refl _⟩ dX11_ship_52 (fun H locs hG hL => ?_)
      have hf := Option.some.inj hf
      subst hf
      exact ah_iret K hG hL (Nat.le_refl _) (Nat.le_refl _) dX11_ship_55
    rw [if_neg h7] at hf
    by_cases h10 : x2 = 2
    · rw [if_pos h10] at hf
      refine lv_tableIn (off := 45) (tgt := 56) K.1 K.2.1 dX11_ship_11 (by rw [h10]; decide) (by rw [h10]; decide) (by rw [h10]; rfl) (by decide) ?_
      refine lv_aload_n K.1 K.2.1 dX11_ship_56 rfl (lv_at hl 0 rfl) ?_
      refine lv_iload_n K.1 K.2.1 dX11_ship_57 rfl (lv_at hl 1 rfl) ?_
      obtain ⟨v11, ev11, hf⟩ := Option.bind_eq_some_iff.mp hf
      obtain ⟨q12, eq12⟩ := ah_this ev11
      refine ah_callV (As := [.int x1]) (rest := []) K hG hL hl.1 eq12 rfl (ctX11_aboard l H0 D ca M z a0 x1 v11 ev11) hdX11_aboard q_1008 q_1010 q_54 q_1011 q_19 ⟨Nat.le_of_ble_eq_true rfl, Nat.le_of_ble_eq_true rfl⟩ rfl rfl (Nat.le_of_ble_eq_true rfl) ⟨Nat.le_refl _, Nat.le_refl _⟩ dX11_ship_58 (fun H locs hG hL => ?_)
      obtain ⟨v13, ev13, hf⟩ := Option.bind_eq_some_iff.mp hf
      refine ah_callS (As := [.int v11]) (rest := []) K hG hL hl.1 (ctX11_bits l H0 D ca M z v11 v13 ev13) hdX11_bits q_1036 q_1037 q_54 q_1038 ⟨Nat.le_of_ble_eq_true rfl, Nat.le_of_ble_eq_true rfl⟩ rfl rfl (Nat.le_of_ble_eq_true rfl) ⟨Nat.le_refl _, Nat.le_refl _⟩ dX11_ship_61 (fun H locs hG hL => ?_)
      have hf := Option.some.inj hf
      subst hf
      exact ah_iret K hG hL (Nat.le_refl _) (Nat.le_refl _) dX11_ship_64
    rw [if_neg h10] at hf
    by_cases h14 : x2 = 3
    · rw [if_pos h14] at hf
      refine lv_tableIn (off := 54) (tgt := 65) K.1 K.2.1 dX11_ship_11 (by rw [h14]; decide) (by rw [h14]; decide) (by rw [h14]; rfl) (by decide) ?_
      refine lv_aload_n K.1 K.2.1 dX11_ship_65 rfl (lv_at hl 0 rfl) ?_
      refine lv_iload_n K.1 K.2.1 dX11_ship_66 rfl (lv_at hl 1 rfl) ?_
      obtain ⟨v15, ev15, hf⟩ := Option.bind_eq_some_iff.mp hf
      obtain ⟨q16, eq16⟩ := ah_this ev15
      refine ah_callV (As := [.int x1]) (rest := []) K hG hL hl.1 eq16 rfl (ctX11_aboard l H0 D ca M z a0 x1 v15 ev15) hdX11_aboard q_1008 q_1010 q_54 q_1011 q_19 ⟨Nat.le_of_ble_eq_true rfl, Nat.le_of_ble_eq_true rfl⟩ rfl rfl (Nat.le_of_ble_eq_true rfl) ⟨Nat.le_refl _, Nat.le_refl _⟩ dX11_ship_67 (fun H locs hG hL => ?_)
      have hf := Option.some.inj hf
      subst hf
      exact ah_iret K hG hL (Nat.le_refl _) (Nat.le_refl _) dX11_ship_70
    rw [if_neg h14] at hf
    by_cases h17 : x2 = 4
    · rw [if_pos h17] at hf
      refine lv_tableIn (off := 60) (tgt := 71) K.1 K.2.1 dX11_ship_11 (by rw [h17]; decide) (by rw [h17]; decide) (by rw [h17]; rfl) (by decide) ?_
      refine lv_aload_n K.1 K.2.1 dX11_ship_71 rfl (lv_at hl 0 rfl) ?_
      refine lv_iload_n K.1 K.2.1 dX11_ship_72 rfl (lv_at hl 1 rfl) ?_
      obtain ⟨v18, ev18, hf⟩ := Option.bind_eq_some_iff.mp hf
      obtain ⟨q19, eq19⟩ := ah_this ev18
      refine ah_callV (As := [.int x1]) (rest := []) K hG hL hl.1 eq19 rfl (ctX11_gives l H0 D ca M z a0 x1 v18 ev18) hdX11_gives q_1024 q_1026 q_54 q_1027 q_23 ⟨Nat.le_of_ble_eq_true rfl, Nat.le_of_ble_eq_true rfl⟩ rfl rfl (Nat.le_of_ble_eq_true rfl) ⟨Nat.le_refl _, Nat.le_refl _⟩ dX11_ship_73 (fun H locs hG hL => ?_)
      have hf := Option.some.inj hf
      subst hf
      exact ah_iret K hG hL (Nat.le_refl _) (Nat.le_refl _) dX11_ship_76
    rw [if_neg h17] at hf
    have th4 := lv_neT (a := 0) h4 (by decide)
    have th7 := lv_neT (a := 1) h7 (by decide)
    have th10 := lv_neT (a := 2) h10 (by decide)
    have th14 := lv_neT (a := 3) h14 (by decide)
    have th17 := lv_neT (a := 4) h17 (by decide)
    refine lv_tableOut (tgt := 77) K.1 K.2.1 dX11_ship_11 (by omega) (by decide) ?_
    refine lv_iconst (v := (-1)) K.1 K.2.1 dX11_ship_77 (by decide) ?_
    have hf := Option.some.inj hf
    subst hf
    exact ah_iret K hG hL (Nat.le_refl _) (Nat.le_refl _) dX11_ship_78
  · rw [if_pos h3] at hf
    refine lv_iconst (v := (-1)) K.1 K.2.1 dX11_ship_8 (by decide) ?_
    have hf := Option.some.inj hf
    subst hf
    exact ah_iret K hG hL (Nat.le_refl _) (Nat.le_refl _) dX11_ship_9
def fX11_man (M : ah_h) (a0 : Nat) (x1 : Int32) (x2 : Int32) : Option (Int32) := (ah_ob M a0 11).bind fun _ => (fX11_isMan M a0 x1).bind fun v1 => if v1 = 0 then (some (-1)) else ((fX11_isIn M x2.toInt64 0 3).bind fun v4 => if v4 = 0 then (some (-1)) else ((fX11_get M a0 x1 x2).bind fun v6 => some v6))
set_option maxRecDepth 100000 in
set_option maxHeartbeats 4000000 in
theorem ctX11_man (l : Launch) (H0 : Heap) (D : va_G) (ca : Nat → ClassId) (M : ah_h) (z : Nat) (a0 : Nat) (x1 : Int32) (x2 : Int32) (Z : Int32) (hf : fX11_man M a0 x1 x2 = some Z) : ah_ct l H0 D ca yX11_man cX11_man 3 (some .int) 2 46 0 0 [.ref a0, .int x1, .int x2] M z (some (.int Z)) M z := by
  refine ah_of (by decide) (Nat.le_of_ble_eq_true rfl) ?_
  intro p e s m below meth c ls hin K hG hl
  have hL : ah_L H0 [] := ah_L.nil
  have hl : lv_has ls 3 [(0, .ref a0), (1, .int x1), (2, .int x2)] := hl
  unfold fX11_man at hf
  obtain ⟨-, -, hf⟩ := Option.bind_eq_some_iff.mp hf
  refine lv_aload_n K.1 K.2.1 dX11_man_0 rfl (lv_at hl 0 rfl) ?_
  refine lv_iload_n K.1 K.2.1 dX11_man_1 rfl (lv_at hl 1 rfl) ?_
  obtain ⟨v1, ev1, hf⟩ := Option.bind_eq_some_iff.mp hf
  obtain ⟨q2, eq2⟩ := ah_this ev1
  refine ah_callV (As := [.int x1]) (rest := []) K hG hL hl.1 eq2 rfl (ctX11_isMan l H0 D ca M z a0 x1 v1 ev1) hdX11_isMan q_1066 q_1068 q_54 q_1069 q_30 ⟨Nat.le_of_ble_eq_true rfl, Nat.le_of_ble_eq_true rfl⟩ rfl rfl (Nat.le_of_ble_eq_true rfl) ⟨Nat.le_refl _, Nat.le_refl _⟩ dX11_man_2 (fun H locs hG hL => ?_)
  refine lv_if_eq (tgt := 29) K.1 K.2.1 dX11_man_5 (by decide) (fun h3 => ?_) (fun h3 => ?_)
  · rw [if_pos h3] at hf
    refine lv_iconst (v := (-1)) K.1 K.2.1 dX11_man_29 (by decide) ?_
    have hf := Option.some.inj hf
    subst hf
    exact ah_iret K hG hL (Nat.le_refl _) (Nat.le_refl _) dX11_man_30
  · rw [if_neg h3] at hf
    refine lv_iload_n K.1 K.2.1 dX11_man_8 rfl (lv_at hl 2 rfl) ?_
    refine lv_i2l (v := x2.toInt64) K.1 K.2.1 dX11_man_9 rfl ?_
    refine lv_lconst (v := 0) K.1 K.2.1 dX11_man_10 (by decide) ?_
    refine lv_ldc2 (v := 3) K.1 K.2.1 K.2.2.2.1 (K.2.2.2.2.1 _ q_1070) dX11_man_11 ?_
    obtain ⟨v4, ev4, hf⟩ := Option.bind_eq_some_iff.mp hf
    refine ah_callS (As := [.long x2.toInt64, .long 0, .long 3]) (rest := []) K hG hL hl.1 (ctX11_isIn l H0 D ca M z x2.toInt64 0 3 v4 ev4) hdX11_isIn q_972 q_973 q_54 q_974 ⟨Nat.le_of_ble_eq_true rfl, Nat.le_of_ble_eq_true rfl⟩ rfl rfl (Nat.le_of_ble_eq_true rfl) ⟨Nat.le_refl _, Nat.le_refl _⟩ dX11_man_14 (fun H locs hG hL => ?_)
    refine lv_if_eq (tgt := 29) K.1 K.2.1 dX11_man_17 (by decide) (fun h5 => ?_) (fun h5 => ?_)
    · rw [if_pos h5] at hf
      refine lv_iconst (v := (-1)) K.1 K.2.1 dX11_man_29 (by decide) ?_
      have hf := Option.some.inj hf
      subst hf
      exact ah_iret K hG hL (Nat.le_refl _) (Nat.le_refl _) dX11_man_30
    · rw [if_neg h5] at hf
      refine lv_aload_n K.1 K.2.1 dX11_man_20 rfl (lv_at hl 0 rfl) ?_
      refine lv_iload_n K.1 K.2.1 dX11_man_21 rfl (lv_at hl 1 rfl) ?_
      refine lv_iload_n K.1 K.2.1 dX11_man_22 rfl (lv_at hl 2 rfl) ?_
      obtain ⟨v6, ev6, hf⟩ := Option.bind_eq_some_iff.mp hf
      obtain ⟨q7, eq7⟩ := ah_this ev6
      refine ah_callV (As := [.int x1, .int x2]) (rest := []) K hG hL hl.1 eq7 rfl (ctX11_get l H0 D ca M z a0 x1 x2 v6 ev6) hdX11_get q_1012 q_1014 q_54 q_1015 q_20 ⟨Nat.le_of_ble_eq_true rfl, Nat.le_of_ble_eq_true rfl⟩ rfl rfl (Nat.le_of_ble_eq_true rfl) ⟨Nat.le_refl _, Nat.le_refl _⟩ dX11_man_23 (fun H locs hG hL => ?_)
      refine lv_goto (tgt := 30) K.1 K.2.1 dX11_man_26 (by decide) ?_
      have hf := Option.some.inj hf
      subst hf
      exact ah_iret K hG hL (Nat.le_refl _) (Nat.le_refl _) dX11_man_30
def fX11_wrongKept (M : ah_h) (a0 : Nat) (x1 : Int32) : Option (Int32) := (ah_ob M a0 11).bind fun _ => (fX11_isShelf M x1).bind fun v1 => if v1 = 0 then (some (-1)) else ((ah_gr M a0 11 4).bind fun v3 => (ah_ai M v3 x1).bind fun v4 => if v4 = 0 then (some (-11)) else ((ah_gr M a0 11 4).bind fun v6 => (ah_ai M v6 x1).bind fun v7 => if v7 = 1 then (some 0) else (some (-12))))
set_option maxRecDepth 100000 in
set_option maxHeartbeats 4000000 in
theorem ctX11_wrongKept (l : Launch) (H0 : Heap) (D : va_G) (ca : Nat → ClassId) (M : ah_h) (z : Nat) (a0 : Nat) (x1 : Int32) (Z : Int32) (hf : fX11_wrongKept M a0 x1 = some Z) : ah_ct l H0 D ca yX11_wrongKept cX11_wrongKept 2 (some .int) 2 45 0 0 [.ref a0, .int x1] M z (some (.int Z)) M z := by
  refine ah_of (by decide) (Nat.le_of_ble_eq_true rfl) ?_
  intro p e s m below meth c ls hin K hG hl
  have hL : ah_L H0 [] := ah_L.nil
  have hl : lv_has ls 2 [(0, .ref a0), (1, .int x1)] := hl
  unfold fX11_wrongKept at hf
  obtain ⟨-, -, hf⟩ := Option.bind_eq_some_iff.mp hf
  refine lv_iload_n K.1 K.2.1 dX11_wrongKept_0 rfl (lv_at hl 1 rfl) ?_
  obtain ⟨v1, ev1, hf⟩ := Option.bind_eq_some_iff.mp hf
  refine ah_callS (As := [.int x1]) (rest := []) K hG hL hl.1 (ctX11_isShelf l H0 D ca M z x1 v1 ev1) hdX11_isShelf q_968 q_969 q_54 q_970 ⟨Nat.le_of_ble_eq_true rfl, Nat.le_of_ble_eq_true rfl⟩ rfl rfl (Nat.le_of_ble_eq_true rfl) ⟨Nat.le_refl _, Nat.le_refl _⟩ dX11_wrongKept_1 (fun H locs hG hL => ?_)
  refine lv_if_ne (tgt := 11) K.1 K.2.1 dX11_wrongKept_4 (by decide) (fun h2 => ?_) (fun h2 => ?_)
  · rw [if_neg h2] at hf
    refine lv_aload_n K.1 K.2.1 dX11_wrongKept_11 rfl (lv_at hl 0 rfl) ?_
    obtain ⟨v3, ev3, hf⟩ := Option.bind_eq_some_iff.mp hf
    refine ah_getr K hG ev3 ffX11_22_11 dX11_wrongKept_12 ?_
    refine lv_iload_n K.1 K.2.1 dX11_wrongKept_15 rfl (lv_at hl 1 rfl) ?_
    obtain ⟨v4, ev4, hf⟩ := Option.bind_eq_some_iff.mp hf
    refine ah_iald K hG ev4 dX11_wrongKept_16 ?_
    refine lv_if_ne (tgt := 25) K.1 K.2.1 dX11_wrongKept_17 (by decide) (fun h5 => ?_) (fun h5 => ?_)
    · rw [if_neg h5] at hf
      refine lv_aload_n K.1 K.2.1 dX11_wrongKept_25 rfl (lv_at hl 0 rfl) ?_
      obtain ⟨v6, ev6, hf⟩ := Option.bind_eq_some_iff.mp hf
      refine ah_getr K hG ev6 ffX11_22_11 dX11_wrongKept_26 ?_
      refine lv_iload_n K.1 K.2.1 dX11_wrongKept_29 rfl (lv_at hl 1 rfl) ?_
      obtain ⟨v7, ev7, hf⟩ := Option.bind_eq_some_iff.mp hf
      refine ah_iald K hG ev7 dX11_wrongKept_30 ?_
      refine lv_iconst (v := 1) K.1 K.2.1 dX11_wrongKept_31 (by decide) ?_
      refine lv_icmp_ne (tgt := 39) K.1 K.2.1 dX11_wrongKept_32 (by decide) (fun h8 => ?_) (fun h8 => ?_)
      · rw [if_neg h8] at hf
        refine lv_bipush (v := (-12)) K.1 K.2.1 dX11_wrongKept_39 (by decide) ?_
        have hf := Option.some.inj hf
        subst hf
        exact ah_iret K hG hL (Nat.le_refl _) (Nat.le_refl _) dX11_wrongKept_41
      · rw [if_pos h8] at hf
        refine lv_iconst (v := 0) K.1 K.2.1 dX11_wrongKept_35 (by decide) ?_
        refine lv_goto (tgt := 41) K.1 K.2.1 dX11_wrongKept_36 (by decide) ?_
        have hf := Option.some.inj hf
        subst hf
        exact ah_iret K hG hL (Nat.le_refl _) (Nat.le_refl _) dX11_wrongKept_41
    · rw [if_pos h5] at hf
      refine lv_bipush (v := (-11)) K.1 K.2.1 dX11_wrongKept_20 (by decide) ?_
      refine lv_goto (tgt := 41) K.1 K.2.1 dX11_wrongKept_22 (by decide) ?_
      have hf := Option.some.inj hf
      subst hf
      exact ah_iret K hG hL (Nat.le_refl _) (Nat.le_refl _) dX11_wrongKept_41
  · rw [if_pos h2] at hf
    refine lv_iconst (v := (-1)) K.1 K.2.1 dX11_wrongKept_7 (by decide) ?_
    refine lv_goto (tgt := 41) K.1 K.2.1 dX11_wrongKept_8 (by decide) ?_
    have hf := Option.some.inj hf
    subst hf
    exact ah_iret K hG hL (Nat.le_refl _) (Nat.le_refl _) dX11_wrongKept_41
def fX11_commands_17    (M : ah_h) (a0 : Nat) (x1 : Int32) (x2 : Int32) (s0 : Int32) : Option (Int32 × ah_h) := if s0 = 0 then ((ah_gr M a0 11 0).bind fun v2 => (ah_gr M a0 11 8).bind fun v3 => (ah_ai M v3 x1).bind fun v4 => (ah_si M v2 (3 + (2 * x2)) v4).bind fun M5 => (ah_gr M5 a0 11 0).bind fun v6 => (ah_gr M5 a0 11 9).bind fun v7 => (ah_ai M5 v7 x1).bind fun v8 => (ah_si M5 v6 ((3 + (2 * x2)) + 1) v8).bind fun M9 => some (0, M9)) else (some (s0, M))
set_option maxRecDepth 100000 in
set_option maxHeartbeats 4000000 in
theorem wX11_commands_17 {p : Program} {l : Launch} {e : Env} {s : State} {m : MethodId} {args : Array Value} {below : List Frame} {meth : Method} {c : Code} {D : va_G} {ca : Nat → ClassId} {H0 : Heap} {z : Nat} (K : ah_K p s m args meth c D ca "ShipsThatMeetModel" cX11_commands 4 (some .int))   : ∀ (M : ah_h) (a0 : Nat) (x1 : Int32) (x2 : Int32) (s0 : Int32)  (H : Heap) (locs : List Loc) (ls : Array Slot), ah_g H0 D ca M z H → ah_L H0 locs → lv_has ls 4 [(0, .ref a0), (1, .int x1), (2, .int x2)] → ∀ Z, fX11_commands_17    M a0 x1 x2 s0 = some Z → W p l e { frames := 3, cells := 0, slots := 0, locals := 66 } s m args below meth c H locs 0 0 (ah_Q below args s H0 D ca 0 0 (some (.int Z.1)) Z.2 z) (F0 m 17 ls [.int s0]) := by
  intro M a0 x1 x2 s0 H locs ls hG hL hl Z hf
  unfold fX11_commands_17 at hf
  refine lv_istore_n (lv' := [(3, .int s0), (0, .ref a0), (1, .int x1), (2, .int x2)]) K.1 K.2.1 dX11_commands_17 rfl hl (by decide) rfl (fun ls hl => ?_)
  refine lv_iload_n K.1 K.2.1 dX11_commands_18 rfl (lv_at hl 0 rfl) ?_
  refine lv_if_eq (tgt := 24) K.1 K.2.1 dX11_commands_19 (by decide) (fun h1 => ?_) (fun h1 => ?_)
  · rw [if_pos h1] at hf
    refine lv_aload_n K.1 K.2.1 dX11_commands_24 rfl (lv_at hl 1 rfl) ?_
    obtain ⟨v2, ev2, hf⟩ := Option.bind_eq_some_iff.mp hf
    refine ah_getr K hG ev2 ffX11_9_11 dX11_commands_25 ?_
    refine lv_iconst (v := 3) K.1 K.2.1 dX11_commands_28 (by decide) ?_
    refine lv_iconst (v := 2) K.1 K.2.1 dX11_commands_29 (by decide) ?_
    refine lv_iload_n K.1 K.2.1 dX11_commands_30 rfl (lv_at hl 3 rfl) ?_
    refine lv_imul K.1 K.2.1 dX11_commands_31 ?_
    refine lv_iadd K.1 K.2.1 dX11_commands_32 ?_
    refine lv_aload_n K.1 K.2.1 dX11_commands_33 rfl (lv_at hl 1 rfl) ?_
    obtain ⟨v3, ev3, hf⟩ := Option.bind_eq_some_iff.mp hf
    refine ah_getr K hG ev3 ffX11_34_11 dX11_commands_34 ?_
    refine lv_iload_n K.1 K.2.1 dX11_commands_37 rfl (lv_at hl 2 rfl) ?_
    obtain ⟨v4, ev4, hf⟩ := Option.bind_eq_some_iff.mp hf
    refine ah_iald K hG ev4 dX11_commands_38 ?_
    obtain ⟨M5, eM5, hf⟩ := Option.bind_eq_some_iff.mp hf
    refine ah_iast K hG hL eM5 dX11_commands_39 (fun H locs hG hL => ?_)
    refine lv_aload_n K.1 K.2.1 dX11_commands_40 rfl (lv_at hl 1 rfl) ?_
    obtain ⟨v6, ev6, hf⟩ := Option.bind_eq_some_iff.mp hf
    refine ah_getr K hG ev6 ffX11_9_11 dX11_commands_41 ?_
    refine lv_iconst (v := 3) K.1 K.2.1 dX11_commands_44 (by decide) ?_
    refine lv_iconst (v := 2) K.1 K.2.1 dX11_commands_45 (by decide) ?_
    refine lv_iload_n K.1 K.2.1 dX11_commands_46 rfl (lv_at hl 3 rfl) ?_
    refine lv_imul K.1 K.2.1 dX11_commands_47 ?_
    refine lv_iadd K.1 K.2.1 dX11_commands_48 ?_
    refine lv_iconst (v := 1) K.1 K.2.1 dX11_commands_49 (by decide) ?_
    refine lv_iadd K.1 K.2.1 dX11_commands_50 ?_
    refine lv_aload_n K.1 K.2.1 dX11_commands_51 rfl (lv_at hl 1 rfl) ?_
    obtain ⟨v7, ev7, hf⟩ := Option.bind_eq_some_iff.mp hf
    refine ah_getr K hG ev7 ffX11_37_11 dX11_commands_52 ?_
    refine lv_iload_n K.1 K.2.1 dX11_commands_55 rfl (lv_at hl 2 rfl) ?_
    obtain ⟨v8, ev8, hf⟩ := Option.bind_eq_some_iff.mp hf
    refine ah_iald K hG ev8 dX11_commands_56 ?_
    obtain ⟨M9, eM9, hf⟩ := Option.bind_eq_some_iff.mp hf
    refine ah_iast K hG hL eM9 dX11_commands_57 (fun H locs hG hL => ?_)
    refine lv_iconst (v := 0) K.1 K.2.1 dX11_commands_58 (by decide) ?_
    have hf := Option.some.inj hf
    subst hf
    exact ah_iret K hG hL (Nat.le_refl _) (Nat.le_refl _) dX11_commands_59
  · rw [if_neg h1] at hf
    refine lv_iload_n K.1 K.2.1 dX11_commands_22 rfl (lv_at hl 0 rfl) ?_
    have hf := Option.some.inj hf
    subst hf
    exact ah_iret K hG hL (Nat.le_refl _) (Nat.le_refl _) dX11_commands_23
def fX11_commands (M : ah_h) (a0 : Nat) (x1 : Int32) (x2 : Int32) : Option (Int32 × ah_h) := (ah_ob M a0 11).bind fun _ => (fX11_isShip M a0 x2).bind fun v1 => if v1 = 0 then (fX11_commands_17 M a0 x1 x2 (-1)) else ((fX11_wrongKept M a0 x1).bind fun v4 => fX11_commands_17 M a0 x1 x2 v4)
set_option maxRecDepth 100000 in
set_option maxHeartbeats 4000000 in
theorem ctX11_commands (l : Launch) (H0 : Heap) (D : va_G) (ca : Nat → ClassId) (M : ah_h) (z : Nat) (a0 : Nat) (x1 : Int32) (x2 : Int32) (Z : Int32 × ah_h) (hf : fX11_commands M a0 x1 x2 = some Z) : ah_ct l H0 D ca yX11_commands cX11_commands 4 (some .int) 3 66 0 0 [.ref a0, .int x1, .int x2] M z (some (.int Z.1)) Z.2 z := by
  refine ah_of (by decide) (Nat.le_of_ble_eq_true rfl) ?_
  intro p e s m below meth c ls hin K hG hl
  have hL : ah_L H0 [] := ah_L.nil
  have hl : lv_has ls 4 [(0, .ref a0), (1, .int x1), (2, .int x2)] := hl
  unfold fX11_commands at hf
  obtain ⟨-, -, hf⟩ := Option.bind_eq_some_iff.mp hf
  refine lv_aload_n K.1 K.2.1 dX11_commands_0 rfl (lv_at hl 0 rfl) ?_
  refine lv_iload_n K.1 K.2.1 dX11_commands_1 rfl (lv_at hl 2 rfl) ?_
  obtain ⟨v1, ev1, hf⟩ := Option.bind_eq_some_iff.mp hf
  obtain ⟨q2, eq2⟩ := ah_this ev1
  refine ah_callV (As := [.int x2]) (rest := []) K hG hL hl.1 eq2 rfl (ctX11_isShip l H0 D ca M z a0 x2 v1 ev1) hdX11_isShip q_996 q_998 q_54 q_999 q_16 ⟨Nat.le_of_ble_eq_true rfl, Nat.le_of_ble_eq_true rfl⟩ rfl rfl (Nat.le_of_ble_eq_true rfl) ⟨Nat.le_refl _, Nat.le_refl _⟩ dX11_commands_2 (fun H locs hG hL => ?_)
  refine lv_if_ne (tgt := 12) K.1 K.2.1 dX11_commands_5 (by decide) (fun h3 => ?_) (fun h3 => ?_)
  · rw [if_neg h3] at hf
    refine lv_aload_n K.1 K.2.1 dX11_commands_12 rfl (lv_at hl 0 rfl) ?_
    refine lv_iload_n K.1 K.2.1 dX11_commands_13 rfl (lv_at hl 1 rfl) ?_
    obtain ⟨v4, ev4, hf⟩ := Option.bind_eq_some_iff.mp hf
    obtain ⟨q5, eq5⟩ := ah_this ev4
    refine ah_callV (As := [.int x1]) (rest := []) K hG hL hl.1 eq5 rfl (ctX11_wrongKept l H0 D ca M z a0 x1 v4 ev4) hdX11_wrongKept q_1075 q_1077 q_54 q_1078 q_31 ⟨Nat.le_of_ble_eq_true rfl, Nat.le_of_ble_eq_true rfl⟩ rfl rfl (Nat.le_of_ble_eq_true rfl) ⟨Nat.le_refl _, Nat.le_refl _⟩ dX11_commands_14 (fun H locs hG hL => ?_)
    exact wX11_commands_17 K  M a0 x1 x2 v4 _ _ _ hG hL (lv_sub hl [0, 1, 2] rfl) _ hf
  · rw [if_pos h3] at hf
    refine lv_iconst (v := (-1)) K.1 K.2.1 dX11_commands_8 (by decide) ?_
    refine lv_goto (tgt := 17) K.1 K.2.1 dX11_commands_9 (by decide) ?_
    exact wX11_commands_17 K  M a0 x1 x2 (-1) _ _ _ hG hL (lv_sub hl [0, 1, 2] rfl) _ hf
def fX11_meet (M : ah_h) (a0 : Nat) (x1 : Int32) (x2 : Int32) : Option (Int32 × ah_h) := (ah_ob M a0 11).bind fun _ => (fX11_isShip M a0 x1).bind fun v1 => if v1 = 0 then (some ((-1), M)) else ((fX11_isShip M a0 x2).bind fun v4 => if v4 = 0 then (some ((-1), M)) else (if x1 = x2 then (some ((-1), M)) else ((fX11_mayMeet M a0 x1 x2).bind fun v8 => if v8 = 0 then (some ((-3), M)) else ((fX11_meets M a0 x1 x2).bind fun v11 => (ah_gi v11 a0 11 12).bind fun v13 => (ah_gi v11 a0 11 13).bind fun v14 => some ((100 * v13) + v14, v11)))))
set_option maxRecDepth 100000 in
set_option maxHeartbeats 4000000 in
theorem ctX11_meet (l : Launch) (H0 : Heap) (D : va_G) (ca : Nat → ClassId) (M : ah_h) (z : Nat) (a0 : Nat) (x1 : Int32) (x2 : Int32) (Z : Int32 × ah_h) (hf : fX11_meet M a0 x1 x2 = some Z) : ah_ct l H0 D ca yX11_meet cX11_meet 3 (some .int) 5 116 0 0 [.ref a0, .int x1, .int x2] M z (some (.int Z.1)) Z.2 z := by
  refine ah_of (by decide) (Nat.le_of_ble_eq_true rfl) ?_
  intro p e s m below meth c ls hin K hG hl
  have hL : ah_L H0 [] := ah_L.nil
  have hl : lv_has ls 3 [(0, .ref a0), (1, .int x1), (2, .int x2)] := hl
  unfold fX11_meet at hf
  obtain ⟨-, -, hf⟩ := Option.bind_eq_some_iff.mp hf
  refine lv_aload_n K.1 K.2.1 dX11_meet_0 rfl (lv_at hl 0 rfl) ?_
  refine lv_iload_n K.1 K.2.1 dX11_meet_1 rfl (lv_at hl 1 rfl) ?_
  obtain ⟨v1, ev1, hf⟩ := Option.bind_eq_some_iff.mp hf
  obtain ⟨q2, eq2⟩ := ah_this ev1
  refine ah_callV (As := [.int x1]) (rest := []) K hG hL hl.1 eq2 rfl (ctX11_isShip l H0 D ca M z a0 x1 v1 ev1) hdX11_isShip q_996 q_998 q_54 q_999 q_16 ⟨Nat.le_of_ble_eq_true rfl, Nat.le_of_ble_eq_true rfl⟩ rfl rfl (Nat.le_of_ble_eq_true rfl) ⟨Nat.le_refl _, Nat.le_refl _⟩ dX11_meet_2 (fun H locs hG hL => ?_)
  refine lv_if_eq (tgt := 21) K.1 K.2.1 dX11_meet_5 (by decide) (fun h3 => ?_) (fun h3 => ?_)
  · rw [if_pos h3] at hf
    refine lv_iconst (v := (-1)) K.1 K.2.1 dX11_meet_21 (by decide) ?_
    have hf := Option.some.inj hf
    subst hf
    exact ah_iret K hG hL (Nat.le_refl _) (Nat.le_refl _) dX11_meet_22
  · rw [if_neg h3] at hf
    refine lv_aload_n K.1 K.2.1 dX11_meet_8 rfl (lv_at hl 0 rfl) ?_
    refine lv_iload_n K.1 K.2.1 dX11_meet_9 rfl (lv_at hl 2 rfl) ?_
    obtain ⟨v4, ev4, hf⟩ := Option.bind_eq_some_iff.mp hf
    obtain ⟨q5, eq5⟩ := ah_this ev4
    refine ah_callV (As := [.int x2]) (rest := []) K hG hL hl.1 eq5 rfl (ctX11_isShip l H0 D ca M z a0 x2 v4 ev4) hdX11_isShip q_996 q_998 q_54 q_999 q_16 ⟨Nat.le_of_ble_eq_true rfl, Nat.le_of_ble_eq_true rfl⟩ rfl rfl (Nat.le_of_ble_eq_true rfl) ⟨Nat.le_refl _, Nat.le_refl _⟩ dX11_meet_10 (fun H locs hG hL => ?_)
    refine lv_if_eq (tgt := 21) K.1 K.2.1 dX11_meet_13 (by decide) (fun h6 => ?_) (fun h6 => ?_)
    · rw [if_pos h6] at hf
      refine lv_iconst (v := (-1)) K.1 K.2.1 dX11_meet_21 (by decide) ?_
      have hf := Option.some.inj hf
      subst hf
      exact ah_iret K hG hL (Nat.le_refl _) (Nat.le_refl _) dX11_meet_22
    · rw [if_neg h6] at hf
      refine lv_iload_n K.1 K.2.1 dX11_meet_16 rfl (lv_at hl 1 rfl) ?_
      refine lv_iload_n K.1 K.2.1 dX11_meet_17 rfl (lv_at hl 2 rfl) ?_
      refine lv_icmp_ne (tgt := 23) K.1 K.2.1 dX11_meet_18 (by decide) (fun h7 => ?_) (fun h7 => ?_)
      · rw [if_neg h7] at hf
        refine lv_aload_n K.1 K.2.1 dX11_meet_23 rfl (lv_at hl 0 rfl) ?_
        refine lv_iload_n K.1 K.2.1 dX11_meet_24 rfl (lv_at hl 1 rfl) ?_
        refine lv_iload_n K.1 K.2.1 dX11_meet_25 rfl (lv_at hl 2 rfl) ?_
        obtain ⟨v8, ev8, hf⟩ := Option.bind_eq_some_iff.mp hf
        obtain ⟨q9, eq9⟩ := ah_this ev8
        refine ah_callV (As := [.int x1, .int x2]) (rest := []) K hG hL hl.1 eq9 rfl (ctX11_mayMeet l H0 D ca M z a0 x1 x2 v8 ev8) hdX11_mayMeet q_1016 q_1018 q_54 q_1019 q_21 ⟨Nat.le_of_ble_eq_true rfl, Nat.le_of_ble_eq_true rfl⟩ rfl rfl (Nat.le_of_ble_eq_true rfl) ⟨Nat.le_refl _, Nat.le_refl _⟩ dX11_meet_26 (fun H locs hG hL => ?_)
        refine lv_if_ne (tgt := 35) K.1 K.2.1 dX11_meet_29 (by decide) (fun h10 => ?_) (fun h10 => ?_)
        · rw [if_neg h10] at hf
          refine lv_aload_n K.1 K.2.1 dX11_meet_35 rfl (lv_at hl 0 rfl) ?_
          refine lv_iload_n K.1 K.2.1 dX11_meet_36 rfl (lv_at hl 1 rfl) ?_
          refine lv_iload_n K.1 K.2.1 dX11_meet_37 rfl (lv_at hl 2 rfl) ?_
          obtain ⟨v11, ev11, hf⟩ := Option.bind_eq_some_iff.mp hf
          obtain ⟨q12, eq12⟩ := ah_this ev11
          refine ah_callV (As := [.int x1, .int x2]) (rest := []) K hG hL hl.1 eq12 rfl (ctX11_meets l H0 D ca M z a0 x1 x2 v11 ev11) hdX11_meets q_1020 q_1022 q_54 q_1023 q_22 ⟨Nat.le_of_ble_eq_true rfl, Nat.le_of_ble_eq_true rfl⟩ rfl rfl (Nat.le_of_ble_eq_true rfl) ⟨Nat.le_refl _, Nat.le_refl _⟩ dX11_meet_38 (fun H locs hG hL => ?_)
          refine lv_bipush (v := 100) K.1 K.2.1 dX11_meet_41 (by decide) ?_
          refine lv_aload_n K.1 K.2.1 dX11_meet_43 rfl (lv_at hl 0 rfl) ?_
          obtain ⟨v13, ev13, hf⟩ := Option.bind_eq_some_iff.mp hf
          refine ah_geti K hG ev13 ffX11_111_11 dX11_meet_44 ?_
          refine lv_imul K.1 K.2.1 dX11_meet_47 ?_
          refine lv_aload_n K.1 K.2.1 dX11_meet_48 rfl (lv_at hl 0 rfl) ?_
          obtain ⟨v14, ev14, hf⟩ := Option.bind_eq_some_iff.mp hf
          refine ah_geti K hG ev14 ffX11_114_11 dX11_meet_49 ?_
          refine lv_iadd K.1 K.2.1 dX11_meet_52 ?_
          have hf := Option.some.inj hf
          subst hf
          exact ah_iret K hG hL (Nat.le_refl _) (Nat.le_refl _) dX11_meet_53
        · rw [if_pos h10] at hf
          refine lv_bipush (v := (-3)) K.1 K.2.1 dX11_meet_32 (by decide) ?_
          have hf := Option.some.inj hf
          subst hf
          exact ah_iret K hG hL (Nat.le_refl _) (Nat.le_refl _) dX11_meet_34
      · rw [if_pos h7] at hf
        refine lv_iconst (v := (-1)) K.1 K.2.1 dX11_meet_21 (by decide) ?_
        have hf := Option.some.inj hf
        subst hf
        exact ah_iret K hG hL (Nat.le_refl _) (Nat.le_refl _) dX11_meet_22
def fX11_wrongMeetings_40_b   (k40 : Nat → Int32 → Int32 → Option (Int32)) (M : ah_h) (a0 : Nat) (x1 : Int32) (x3 : Int32) : Option (Int32) := (ah_gr M a0 11 6).bind fun v1 => (ah_ai M v1 x1).bind fun v2 => if v2 ≤ x3 then (some 0) else ((ah_gr M a0 11 7).bind fun v4 => (ah_ai M v4 ((100 * x1) + x3)).bind fun v5 => (ah_gr M a0 11 7).bind fun v6 => (ah_ai M v6 (((100 * x1) + x3) + 1)).bind fun v7 => (fX11_isShip M a0 v5).bind fun v8 => if v8 = 0 then (some (-13)) else ((fX11_isShip M a0 v7).bind fun v11 => if v11 = 0 then (some (-13)) else (if v5 = v7 then (some (-13)) else (k40 a0 x1 (x3 + 2)))))
def fX11_wrongMeetings_40   (M : ah_h) : Nat → Nat → Int32 → Int32 → Option (Int32)
  | 0 => fun _ _ _ => none
  | n + 1 => fun a0 x1 x3 => fX11_wrongMeetings_40_b   (fX11_wrongMeetings_40   M n) M a0 x1 x3
set_option maxRecDepth 100000 in
set_option maxHeartbeats 4000000 in
theorem wX11_wrongMeetings_40_b {p : Program} {l : Launch} {e : Env} {s : State} {m : MethodId} {args : Array Value} {below : List Frame} {meth : Method} {c : Code} {D : va_G} {ca : Nat → ClassId} {H0 : Heap} {M : ah_h} {z : Nat} (K : ah_K p s m args meth c D ca "ShipsThatMeetModel" cX11_wrongMeetings 6 (some .int))   (k40 : Nat → Int32 → Int32 → Option (Int32)) (hk40 : ∀ (a0 : Nat) (x1 : Int32) (x3 : Int32)  (H : Heap) (locs : List Loc) (ls : Array Slot), ah_g H0 D ca M z H → ah_L H0 locs → lv_has ls 6 [(0, .ref a0), (1, .int x1), (3, .int x3)] → ∀ Z, k40 a0 x1 x3 = some Z → W p l e { frames := 3, cells := 0, slots := 0, locals := 67 } s m args below meth c H locs 0 0 (ah_Q below args s H0 D ca 0 0 (some (.int Z)) M z) (F0 m 40 ls [])) : ∀ (a0 : Nat) (x1 : Int32) (x3 : Int32)  (H : Heap) (locs : List Loc) (ls : Array Slot), ah_g H0 D ca M z H → ah_L H0 locs → lv_has ls 6 [(0, .ref a0), (1, .int x1), (3, .int x3)] → ∀ Z, fX11_wrongMeetings_40_b   k40 M a0 x1 x3 = some Z → W p l e { frames := 3, cells := 0, slots := 0, locals := 67 } s m args below meth c H locs 0 0 (ah_Q below args s H0 D ca 0 0 (some (.int Z)) M z) (F0 m 40 ls []) := by
  intro a0 x1 x3 H locs ls hG hL hl Z hf
  unfold fX11_wrongMeetings_40_b at hf
  refine lv_iload_n K.1 K.2.1 dX11_wrongMeetings_40 rfl (lv_at hl 2 rfl) ?_
  refine lv_aload_n K.1 K.2.1 dX11_wrongMeetings_41 rfl (lv_at hl 0 rfl) ?_
  obtain ⟨v1, ev1, hf⟩ := Option.bind_eq_some_iff.mp hf
  refine ah_getr K hG ev1 ffX11_28_11 dX11_wrongMeetings_42 ?_
  refine lv_iload_n K.1 K.2.1 dX11_wrongMeetings_45 rfl (lv_at hl 1 rfl) ?_
  obtain ⟨v2, ev2, hf⟩ := Option.bind_eq_some_iff.mp hf
  refine ah_iald K hG ev2 dX11_wrongMeetings_46 ?_
  refine lv_icmp_ge (tgt := 112) K.1 K.2.1 dX11_wrongMeetings_47 (by decide) (fun h3 => ?_) (fun h3 => ?_)
  · rw [if_pos h3] at hf
    refine lv_iconst (v := 0) K.1 K.2.1 dX11_wrongMeetings_112 (by decide) ?_
    have hf := Option.some.inj hf
    subst hf
    exact ah_iret K hG hL (Nat.le_refl _) (Nat.le_refl _) dX11_wrongMeetings_113
  · rw [if_neg h3] at hf
    refine lv_aload_n K.1 K.2.1 dX11_wrongMeetings_50 rfl (lv_at hl 0 rfl) ?_
    obtain ⟨v4, ev4, hf⟩ := Option.bind_eq_some_iff.mp hf
    refine ah_getr K hG ev4 ffX11_31_11 dX11_wrongMeetings_51 ?_
    refine lv_bipush (v := 100) K.1 K.2.1 dX11_wrongMeetings_54 (by decide) ?_
    refine lv_iload_n K.1 K.2.1 dX11_wrongMeetings_56 rfl (lv_at hl 1 rfl) ?_
    refine lv_imul K.1 K.2.1 dX11_wrongMeetings_57 ?_
    refine lv_iload_n K.1 K.2.1 dX11_wrongMeetings_58 rfl (lv_at hl 2 rfl) ?_
    refine lv_iadd K.1 K.2.1 dX11_wrongMeetings_59 ?_
    obtain ⟨v5, ev5, hf⟩ := Option.bind_eq_some_iff.mp hf
    refine ah_iald K hG ev5 dX11_wrongMeetings_60 ?_
    refine lv_istore (lv' := [(4, .int v5), (0, .ref a0), (1, .int x1), (3, .int x3)]) K.1 K.2.1 dX11_wrongMeetings_61 hl (by decide) rfl (fun ls hl => ?_)
    refine lv_aload_n K.1 K.2.1 dX11_wrongMeetings_63 rfl (lv_at hl 1 rfl) ?_
    obtain ⟨v6, ev6, hf⟩ := Option.bind_eq_some_iff.mp hf
    refine ah_getr K hG ev6 ffX11_31_11 dX11_wrongMeetings_64 ?_
    refine lv_bipush (v := 100) K.1 K.2.1 dX11_wrongMeetings_67 (by decide) ?_
    refine lv_iload_n K.1 K.2.1 dX11_wrongMeetings_69 rfl (lv_at hl 2 rfl) ?_
    refine lv_imul K.1 K.2.1 dX11_wrongMeetings_70 ?_
    refine lv_iload_n K.1 K.2.1 dX11_wrongMeetings_71 rfl (lv_at hl 3 rfl) ?_
    refine lv_iadd K.1 K.2.1 dX11_wrongMeetings_72 ?_
    refine lv_iconst (v := 1) K.1 K.2.1 dX11_wrongMeetings_73 (by decide) ?_
    refine lv_iadd K.1 K.2.1 dX11_wrongMeetings_74 ?_
    obtain ⟨v7, ev7, hf⟩ := Option.bind_eq_some_iff.mp hf
    refine ah_iald K hG ev7 dX11_wrongMeetings_75 ?_
    refine lv_istore (lv' := [(5, .int v7), (4, .int v5), (0, .ref a0), (1, .int x1), (3, .int x3)]) K.1 K.2.1 dX11_wrongMeetings_76 hl (by decide) rfl (fun ls hl => ?_)
    refine lv_aload_n K.1 K.2.1 dX11_wrongMeetings_78 rfl (lv_at hl 2 rfl) ?_
    refine lv_iload K.1 K.2.1 dX11_wrongMeetings_79 (lv_at hl 1 rfl) ?_
    obtain ⟨v8, ev8, hf⟩ := Option.bind_eq_some_iff.mp hf
    obtain ⟨q9, eq9⟩ := ah_this ev8
    refine ah_callV (As := [.int v5]) (rest := []) K hG hL hl.1 eq9 rfl (ctX11_isShip l H0 D ca M z a0 v5 v8 ev8) hdX11_isShip q_996 q_998 q_54 q_999 q_16 ⟨Nat.le_of_ble_eq_true rfl, Nat.le_of_ble_eq_true rfl⟩ rfl rfl (Nat.le_of_ble_eq_true rfl) ⟨Nat.le_refl _, Nat.le_refl _⟩ dX11_wrongMeetings_81 (fun H locs hG hL => ?_)
    refine lv_if_eq (tgt := 103) K.1 K.2.1 dX11_wrongMeetings_84 (by decide) (fun h10 => ?_) (fun h10 => ?_)
    · rw [if_pos h10] at hf
      refine lv_bipush (v := (-13)) K.1 K.2.1 dX11_wrongMeetings_103 (by decide) ?_
      have hf := Option.some.inj hf
      subst hf
      exact ah_iret K hG hL (Nat.le_refl _) (Nat.le_refl _) dX11_wrongMeetings_105
    · rw [if_neg h10] at hf
      refine lv_aload_n K.1 K.2.1 dX11_wrongMeetings_87 rfl (lv_at hl 2 rfl) ?_
      refine lv_iload K.1 K.2.1 dX11_wrongMeetings_88 (lv_at hl 0 rfl) ?_
      obtain ⟨v11, ev11, hf⟩ := Option.bind_eq_some_iff.mp hf
      obtain ⟨q12, eq12⟩ := ah_this ev11
      refine ah_callV (As := [.int v7]) (rest := []) K hG hL hl.1 eq12 rfl (ctX11_isShip l H0 D ca M z a0 v7 v11 ev11) hdX11_isShip q_996 q_998 q_54 q_999 q_16 ⟨Nat.le_of_ble_eq_true rfl, Nat.le_of_ble_eq_true rfl⟩ rfl rfl (Nat.le_of_ble_eq_true rfl) ⟨Nat.le_refl _, Nat.le_refl _⟩ dX11_wrongMeetings_90 (fun H locs hG hL => ?_)
      refine lv_if_eq (tgt := 103) K.1 K.2.1 dX11_wrongMeetings_93 (by decide) (fun h13 => ?_) (fun h13 => ?_)
      · rw [if_pos h13] at hf
        refine lv_bipush (v := (-13)) K.1 K.2.1 dX11_wrongMeetings_103 (by decide) ?_
        have hf := Option.some.inj hf
        subst hf
        exact ah_iret K hG hL (Nat.le_refl _) (Nat.le_refl _) dX11_wrongMeetings_105
      · rw [if_neg h13] at hf
        refine lv_iload K.1 K.2.1 dX11_wrongMeetings_96 (lv_at hl 1 rfl) ?_
        refine lv_iload K.1 K.2.1 dX11_wrongMeetings_98 (lv_at hl 0 rfl) ?_
        refine lv_icmp_ne (tgt := 106) K.1 K.2.1 dX11_wrongMeetings_100 (by decide) (fun h14 => ?_) (fun h14 => ?_)
        · rw [if_neg h14] at hf
          refine lv_iinc (v := x3 + 2) (lv' := [(3, .int (x3 + 2)), (5, .int v7), (4, .int v5), (0, .ref a0), (1, .int x1)]) K.1 K.2.1 dX11_wrongMeetings_106 hl (k := 4) rfl rfl (by decide) rfl (fun ls hl => ?_)
          refine lv_goto (tgt := 40) K.1 K.2.1 dX11_wrongMeetings_109 (by decide) ?_
          exact hk40 a0 x1 (x3 + 2) _ _ _ hG hL (lv_sub hl [3, 4, 0] rfl) _ hf
        · rw [if_pos h14] at hf
          refine lv_bipush (v := (-13)) K.1 K.2.1 dX11_wrongMeetings_103 (by decide) ?_
          have hf := Option.some.inj hf
          subst hf
          exact ah_iret K hG hL (Nat.le_refl _) (Nat.le_refl _) dX11_wrongMeetings_105
theorem wX11_wrongMeetings_40 {p : Program} {l : Launch} {e : Env} {s : State} {m : MethodId} {args : Array Value} {below : List Frame} {meth : Method} {c : Code} {D : va_G} {ca : Nat → ClassId} {H0 : Heap} {M : ah_h} {z : Nat} (K : ah_K p s m args meth c D ca "ShipsThatMeetModel" cX11_wrongMeetings 6 (some .int))   (n : Nat) : ∀ (a0 : Nat) (x1 : Int32) (x3 : Int32)  (H : Heap) (locs : List Loc) (ls : Array Slot), ah_g H0 D ca M z H → ah_L H0 locs → lv_has ls 6 [(0, .ref a0), (1, .int x1), (3, .int x3)] → ∀ Z, fX11_wrongMeetings_40   M n a0 x1 x3 = some Z → W p l e { frames := 3, cells := 0, slots := 0, locals := 67 } s m args below meth c H locs 0 0 (ah_Q below args s H0 D ca 0 0 (some (.int Z)) M z) (F0 m 40 ls []) := by
  induction n with
  | zero => intro a0 x1 x3 H locs ls hG hL hl Z hf; cases hf
  | succ n ih => exact wX11_wrongMeetings_40_b K  _ ih
def fX11_wrongMeetings (M : ah_h) (a0 : Nat) (x1 : Int32) : Option (Int32) := (ah_ob M a0 11).bind fun _ => (fX11_wrongRow M a0 x1 0).bind fun v1 => if v1 = 0 then ((ah_gr M a0 11 6).bind fun v4 => (ah_ai M v4 x1).bind fun v5 => if (v5 - v5 / 2 * 2) = 0 then ((ah_gr M a0 11 6).bind fun v8 => (ah_ai M v8 x1).bind fun v9 => if v9 ≤ 24 then (fX11_wrongMeetings_40 M ah_fu a0 x1 0) else (some (-13))) else (some (-13))) else (some v1)
set_option maxRecDepth 100000 in
set_option maxHeartbeats 4000000 in
theorem ctX11_wrongMeetings (l : Launch) (H0 : Heap) (D : va_G) (ca : Nat → ClassId) (M : ah_h) (z : Nat) (a0 : Nat) (x1 : Int32) (Z : Int32) (hf : fX11_wrongMeetings M a0 x1 = some Z) : ah_ct l H0 D ca yX11_wrongMeetings cX11_wrongMeetings 6 (some .int) 3 67 0 0 [.ref a0, .int x1] M z (some (.int Z)) M z := by
  refine ah_of (by decide) (Nat.le_of_ble_eq_true rfl) ?_
  intro p e s m below meth c ls hin K hG hl
  have hL : ah_L H0 [] := ah_L.nil
  have hl : lv_has ls 6 [(0, .ref a0), (1, .int x1)] := hl
  unfold fX11_wrongMeetings at hf
  obtain ⟨-, -, hf⟩ := Option.bind_eq_some_iff.mp hf
  refine lv_aload_n K.1 K.2.1 dX11_wrongMeetings_0 rfl (lv_at hl 0 rfl) ?_
  refine lv_iload_n K.1 K.2.1 dX11_wrongMeetings_1 rfl (lv_at hl 1 rfl) ?_
  refine lv_iconst (v := 0) K.1 K.2.1 dX11_wrongMeetings_2 (by decide) ?_
  obtain ⟨v1, ev1, hf⟩ := Option.bind_eq_some_iff.mp hf
  obtain ⟨q2, eq2⟩ := ah_this ev1
  refine ah_callV (As := [.int x1, .int 0]) (rest := []) K hG hL hl.1 eq2 rfl (ctX11_wrongRow l H0 D ca M z a0 x1 0 v1 ev1) hdX11_wrongRow q_964 q_966 q_54 q_967 q_11 ⟨Nat.le_of_ble_eq_true rfl, Nat.le_of_ble_eq_true rfl⟩ rfl rfl (Nat.le_of_ble_eq_true rfl) ⟨Nat.le_refl _, Nat.le_refl _⟩ dX11_wrongMeetings_3 (fun H locs hG hL => ?_)
  refine lv_istore_n (lv' := [(2, .int v1), (0, .ref a0), (1, .int x1)]) K.1 K.2.1 dX11_wrongMeetings_6 rfl hl (by decide) rfl (fun ls hl => ?_)
  refine lv_iload_n K.1 K.2.1 dX11_wrongMeetings_7 rfl (lv_at hl 0 rfl) ?_
  refine lv_if_eq (tgt := 13) K.1 K.2.1 dX11_wrongMeetings_8 (by decide) (fun h3 => ?_) (fun h3 => ?_)
  · rw [if_pos h3] at hf
    refine lv_aload_n K.1 K.2.1 dX11_wrongMeetings_13 rfl (lv_at hl 1 rfl) ?_
    obtain ⟨v4, ev4, hf⟩ := Option.bind_eq_some_iff.mp hf
    refine ah_getr K hG ev4 ffX11_28_11 dX11_wrongMeetings_14 ?_
    refine lv_iload_n K.1 K.2.1 dX11_wrongMeetings_17 rfl (lv_at hl 2 rfl) ?_
    obtain ⟨v5, ev5, hf⟩ := Option.bind_eq_some_iff.mp hf
    refine ah_iald K hG ev5 dX11_wrongMeetings_18 ?_
    refine lv_iconst (v := 2) K.1 K.2.1 dX11_wrongMeetings_19 (by decide) ?_
    refine lv_irem K.1 K.2.1 dX11_wrongMeetings_20 (by decide) ?_
    refine lv_if_ne (tgt := 35) K.1 K.2.1 dX11_wrongMeetings_21 (by decide) (fun h7 => ?_) (fun h7 => ?_)
    · rw [if_neg h7] at hf
      refine lv_bipush (v := (-13)) K.1 K.2.1 dX11_wrongMeetings_35 (by decide) ?_
      have hf := Option.some.inj hf
      subst hf
      exact ah_iret K hG hL (Nat.le_refl _) (Nat.le_refl _) dX11_wrongMeetings_37
    · rw [if_pos h7] at hf
      refine lv_aload_n K.1 K.2.1 dX11_wrongMeetings_24 rfl (lv_at hl 1 rfl) ?_
      obtain ⟨v8, ev8, hf⟩ := Option.bind_eq_some_iff.mp hf
      refine ah_getr K hG ev8 ffX11_28_11 dX11_wrongMeetings_25 ?_
      refine lv_iload_n K.1 K.2.1 dX11_wrongMeetings_28 rfl (lv_at hl 2 rfl) ?_
      obtain ⟨v9, ev9, hf⟩ := Option.bind_eq_some_iff.mp hf
      refine ah_iald K hG ev9 dX11_wrongMeetings_29 ?_
      refine lv_bipush (v := 24) K.1 K.2.1 dX11_wrongMeetings_30 (by decide) ?_
      refine lv_icmp_le (tgt := 38) K.1 K.2.1 dX11_wrongMeetings_32 (by decide) (fun h10 => ?_) (fun h10 => ?_)
      · rw [if_pos h10] at hf
        refine lv_iconst (v := 0) K.1 K.2.1 dX11_wrongMeetings_38 (by decide) ?_
        refine lv_istore_n (lv' := [(3, .int 0), (2, .int v1), (0, .ref a0), (1, .int x1)]) K.1 K.2.1 dX11_wrongMeetings_39 rfl hl (by decide) rfl (fun ls hl => ?_)
        exact wX11_wrongMeetings_40 K  ah_fu a0 x1 0 _ _ _ hG hL (lv_sub hl [2, 3, 0] rfl) _ hf
      · rw [if_neg h10] at hf
        refine lv_bipush (v := (-13)) K.1 K.2.1 dX11_wrongMeetings_35 (by decide) ?_
        have hf := Option.some.inj hf
        subst hf
        exact ah_iret K hG hL (Nat.le_refl _) (Nat.le_refl _) dX11_wrongMeetings_37
  · rw [if_neg h3] at hf
    refine lv_iload_n K.1 K.2.1 dX11_wrongMeetings_11 rfl (lv_at hl 0 rfl) ?_
    have hf := Option.some.inj hf
    subst hf
    exact ah_iret K hG hL (Nat.le_refl _) (Nat.le_refl _) dX11_wrongMeetings_12
def fX11_first (M : ah_h) (a0 : Nat) (x1 : Int32) (x2 : Int32) : Option (Int32) := (ah_ob M a0 11).bind fun _ => (ah_gr M a0 11 7).bind fun v1 => (ah_ai M v1 ((100 * x1) + (2 * x2))).bind fun v2 => some v2
set_option maxRecDepth 100000 in
set_option maxHeartbeats 4000000 in
theorem ctX11_first (l : Launch) (H0 : Heap) (D : va_G) (ca : Nat → ClassId) (M : ah_h) (z : Nat) (a0 : Nat) (x1 : Int32) (x2 : Int32) (Z : Int32) (hf : fX11_first M a0 x1 x2 = some Z) : ah_ct l H0 D ca yX11_first cX11_first 3 (some .int) 0 0 0 0 [.ref a0, .int x1, .int x2] M z (some (.int Z)) M z := by
  refine ah_of (by decide) (Nat.le_of_ble_eq_true rfl) ?_
  intro p e s m below meth c ls hin K hG hl
  have hL : ah_L H0 [] := ah_L.nil
  have hl : lv_has ls 3 [(0, .ref a0), (1, .int x1), (2, .int x2)] := hl
  unfold fX11_first at hf
  obtain ⟨-, -, hf⟩ := Option.bind_eq_some_iff.mp hf
  refine lv_aload_n K.1 K.2.1 dX11_first_0 rfl (lv_at hl 0 rfl) ?_
  obtain ⟨v1, ev1, hf⟩ := Option.bind_eq_some_iff.mp hf
  refine ah_getr K hG ev1 ffX11_31_11 dX11_first_1 ?_
  refine lv_bipush (v := 100) K.1 K.2.1 dX11_first_4 (by decide) ?_
  refine lv_iload_n K.1 K.2.1 dX11_first_6 rfl (lv_at hl 1 rfl) ?_
  refine lv_imul K.1 K.2.1 dX11_first_7 ?_
  refine lv_iconst (v := 2) K.1 K.2.1 dX11_first_8 (by decide) ?_
  refine lv_iload_n K.1 K.2.1 dX11_first_9 rfl (lv_at hl 2 rfl) ?_
  refine lv_imul K.1 K.2.1 dX11_first_10 ?_
  refine lv_iadd K.1 K.2.1 dX11_first_11 ?_
  obtain ⟨v2, ev2, hf⟩ := Option.bind_eq_some_iff.mp hf
  refine ah_iald K hG ev2 dX11_first_12 ?_
  have hf := Option.some.inj hf
  subst hf
  exact ah_iret K hG hL (Nat.le_refl _) (Nat.le_refl _) dX11_first_13
def fX11_second (M : ah_h) (a0 : Nat) (x1 : Int32) (x2 : Int32) : Option (Int32) := (ah_ob M a0 11).bind fun _ => (ah_gr M a0 11 7).bind fun v1 => (ah_ai M v1 (((100 * x1) + (2 * x2)) + 1)).bind fun v2 => some v2
set_option maxRecDepth 100000 in
set_option maxHeartbeats 4000000 in
theorem ctX11_second (l : Launch) (H0 : Heap) (D : va_G) (ca : Nat → ClassId) (M : ah_h) (z : Nat) (a0 : Nat) (x1 : Int32) (x2 : Int32) (Z : Int32) (hf : fX11_second M a0 x1 x2 = some Z) : ah_ct l H0 D ca yX11_second cX11_second 3 (some .int) 0 0 0 0 [.ref a0, .int x1, .int x2] M z (some (.int Z)) M z := by
  refine ah_of (by decide) (Nat.le_of_ble_eq_true rfl) ?_
  intro p e s m below meth c ls hin K hG hl
  have hL : ah_L H0 [] := ah_L.nil
  have hl : lv_has ls 3 [(0, .ref a0), (1, .int x1), (2, .int x2)] := hl
  unfold fX11_second at hf
  obtain ⟨-, -, hf⟩ := Option.bind_eq_some_iff.mp hf
  refine lv_aload_n K.1 K.2.1 dX11_second_0 rfl (lv_at hl 0 rfl) ?_
  obtain ⟨v1, ev1, hf⟩ := Option.bind_eq_some_iff.mp hf
  refine ah_getr K hG ev1 ffX11_31_11 dX11_second_1 ?_
  refine lv_bipush (v := 100) K.1 K.2.1 dX11_second_4 (by decide) ?_
  refine lv_iload_n K.1 K.2.1 dX11_second_6 rfl (lv_at hl 1 rfl) ?_
  refine lv_imul K.1 K.2.1 dX11_second_7 ?_
  refine lv_iconst (v := 2) K.1 K.2.1 dX11_second_8 (by decide) ?_
  refine lv_iload_n K.1 K.2.1 dX11_second_9 rfl (lv_at hl 2 rfl) ?_
  refine lv_imul K.1 K.2.1 dX11_second_10 ?_
  refine lv_iadd K.1 K.2.1 dX11_second_11 ?_
  refine lv_iconst (v := 1) K.1 K.2.1 dX11_second_12 (by decide) ?_
  refine lv_iadd K.1 K.2.1 dX11_second_13 ?_
  obtain ⟨v2, ev2, hf⟩ := Option.bind_eq_some_iff.mp hf
  refine ah_iald K hG ev2 dX11_second_14 ?_
  have hf := Option.some.inj hf
  subst hf
  exact ah_iret K hG hL (Nat.le_refl _) (Nat.le_refl _) dX11_second_15
def fX11_meetings (M : ah_h) (a0 : Nat) (x1 : Int32) : Option (Int32) := (ah_ob M a0 11).bind fun _ => (ah_gr M a0 11 6).bind fun v1 => (ah_ai M v1 x1).bind fun v2 => some (v2 / 2)
set_option maxRecDepth 100000 in
set_option maxHeartbeats 4000000 in
theorem ctX11_meetings (l : Launch) (H0 : Heap) (D : va_G) (ca : Nat → ClassId) (M : ah_h) (z : Nat) (a0 : Nat) (x1 : Int32) (Z : Int32) (hf : fX11_meetings M a0 x1 = some Z) : ah_ct l H0 D ca yX11_meetings cX11_meetings 2 (some .int) 0 0 0 0 [.ref a0, .int x1] M z (some (.int Z)) M z := by
  refine ah_of (by decide) (Nat.le_of_ble_eq_true rfl) ?_
  intro p e s m below meth c ls hin K hG hl
  have hL : ah_L H0 [] := ah_L.nil
  have hl : lv_has ls 2 [(0, .ref a0), (1, .int x1)] := hl
  unfold fX11_meetings at hf
  obtain ⟨-, -, hf⟩ := Option.bind_eq_some_iff.mp hf
  refine lv_aload_n K.1 K.2.1 dX11_meetings_0 rfl (lv_at hl 0 rfl) ?_
  obtain ⟨v1, ev1, hf⟩ := Option.bind_eq_some_iff.mp hf
  refine ah_getr K hG ev1 ffX11_28_11 dX11_meetings_1 ?_
  refine lv_iload_n K.1 K.2.1 dX11_meetings_4 rfl (lv_at hl 1 rfl) ?_
  obtain ⟨v2, ev2, hf⟩ := Option.bind_eq_some_iff.mp hf
  refine ah_iald K hG ev2 dX11_meetings_5 ?_
  refine lv_iconst (v := 2) K.1 K.2.1 dX11_meetings_6 (by decide) ?_
  refine lv_idiv K.1 K.2.1 dX11_meetings_7 (by decide) ?_
  have hf := Option.some.inj hf
  subst hf
  exact ah_iret K hG hL (Nat.le_refl _) (Nat.le_refl _) dX11_meetings_8
def fX11_meetsTold (M : ah_h) (a0 : Nat) (x1 : Int32) (x2 : Int32) : Option (Int32 × ah_h) := (ah_ob M a0 11).bind fun _ => (fX11_first M a0 x1 x2).bind fun v1 => (fX11_second M a0 x1 x2).bind fun v3 => (fX11_mayMeet M a0 v1 v3).bind fun v5 => if v5 = 0 then (some (0, M)) else ((fX11_first M a0 x1 x2).bind fun v8 => (fX11_second M a0 x1 x2).bind fun v10 => (fX11_meets M a0 v8 v10).bind fun v12 => some (1, v12))
set_option maxRecDepth 100000 in
set_option maxHeartbeats 4000000 in
theorem ctX11_meetsTold (l : Launch) (H0 : Heap) (D : va_G) (ca : Nat → ClassId) (M : ah_h) (z : Nat) (a0 : Nat) (x1 : Int32) (x2 : Int32) (Z : Int32 × ah_h) (hf : fX11_meetsTold M a0 x1 x2 = some Z) : ah_ct l H0 D ca yX11_meetsTold cX11_meetsTold 3 (some .boolean) 5 116 0 0 [.ref a0, .int x1, .int x2] M z (some (.int Z.1)) Z.2 z := by
  refine ah_of (by decide) (Nat.le_of_ble_eq_true rfl) ?_
  intro p e s m below meth c ls hin K hG hl
  have hL : ah_L H0 [] := ah_L.nil
  have hl : lv_has ls 3 [(0, .ref a0), (1, .int x1), (2, .int x2)] := hl
  unfold fX11_meetsTold at hf
  obtain ⟨-, -, hf⟩ := Option.bind_eq_some_iff.mp hf
  refine lv_aload_n K.1 K.2.1 dX11_meetsTold_0 rfl (lv_at hl 0 rfl) ?_
  refine lv_aload_n K.1 K.2.1 dX11_meetsTold_1 rfl (lv_at hl 0 rfl) ?_
  refine lv_iload_n K.1 K.2.1 dX11_meetsTold_2 rfl (lv_at hl 1 rfl) ?_
  refine lv_iload_n K.1 K.2.1 dX11_meetsTold_3 rfl (lv_at hl 2 rfl) ?_
  obtain ⟨v1, ev1, hf⟩ := Option.bind_eq_some_iff.mp hf
  obtain ⟨q2, eq2⟩ := ah_this ev1
  refine ah_callV (As := [.int x1, .int x2]) (rest := [.ref a0]) K hG hL hl.1 eq2 rfl (ctX11_first l H0 D ca M z a0 x1 x2 v1 ev1) hdX11_first q_1103 q_1105 q_54 q_1106 q_36 ⟨Nat.le_of_ble_eq_true rfl, Nat.le_of_ble_eq_true rfl⟩ rfl rfl (Nat.le_of_ble_eq_true rfl) ⟨Nat.le_refl _, Nat.le_refl _⟩ dX11_meetsTold_4 (fun H locs hG hL => ?_)
  refine lv_aload_n K.1 K.2.1 dX11_meetsTold_7 rfl (lv_at hl 0 rfl) ?_
  refine lv_iload_n K.1 K.2.1 dX11_meetsTold_8 rfl (lv_at hl 1 rfl) ?_
  refine lv_iload_n K.1 K.2.1 dX11_meetsTold_9 rfl (lv_at hl 2 rfl) ?_
  obtain ⟨v3, ev3, hf⟩ := Option.bind_eq_some_iff.mp hf
  obtain ⟨q4, eq4⟩ := ah_this ev3
  refine ah_callV (As := [.int x1, .int x2]) (rest := [.int v1, .ref a0]) K hG hL hl.1 eq4 rfl (ctX11_second l H0 D ca M z a0 x1 x2 v3 ev3) hdX11_second q_1107 q_1109 q_54 q_1110 q_37 ⟨Nat.le_of_ble_eq_true rfl, Nat.le_of_ble_eq_true rfl⟩ rfl rfl (Nat.le_of_ble_eq_true rfl) ⟨Nat.le_refl _, Nat.le_refl _⟩ dX11_meetsTold_10 (fun H locs hG hL => ?_)
  obtain ⟨v5, ev5, hf⟩ := Option.bind_eq_some_iff.mp hf
  obtain ⟨q6, eq6⟩ := ah_this ev5
  refine ah_callV (As := [.int v1, .int v3]) (rest := []) K hG hL hl.1 eq6 rfl (ctX11_mayMeet l H0 D ca M z a0 v1 v3 v5 ev5) hdX11_mayMeet q_1016 q_1018 q_54 q_1019 q_21 ⟨Nat.le_of_ble_eq_true rfl, Nat.le_of_ble_eq_true rfl⟩ rfl rfl (Nat.le_of_ble_eq_true rfl) ⟨Nat.le_refl _, Nat.le_refl _⟩ dX11_meetsTold_13 (fun H locs hG hL => ?_)
  refine lv_if_ne (tgt := 21) K.1 K.2.1 dX11_meetsTold_16 (by decide) (fun h7 => ?_) (fun h7 => ?_)
  · rw [if_neg h7] at hf
    refine lv_aload_n K.1 K.2.1 dX11_meetsTold_21 rfl (lv_at hl 0 rfl) ?_
    refine lv_aload_n K.1 K.2.1 dX11_meetsTold_22 rfl (lv_at hl 0 rfl) ?_
    refine lv_iload_n K.1 K.2.1 dX11_meetsTold_23 rfl (lv_at hl 1 rfl) ?_
    refine lv_iload_n K.1 K.2.1 dX11_meetsTold_24 rfl (lv_at hl 2 rfl) ?_
    obtain ⟨v8, ev8, hf⟩ := Option.bind_eq_some_iff.mp hf
    obtain ⟨q9, eq9⟩ := ah_this ev8
    refine ah_callV (As := [.int x1, .int x2]) (rest := [.ref a0]) K hG hL hl.1 eq9 rfl (ctX11_first l H0 D ca M z a0 x1 x2 v8 ev8) hdX11_first q_1103 q_1105 q_54 q_1106 q_36 ⟨Nat.le_of_ble_eq_true rfl, Nat.le_of_ble_eq_true rfl⟩ rfl rfl (Nat.le_of_ble_eq_true rfl) ⟨Nat.le_refl _, Nat.le_refl _⟩ dX11_meetsTold_25 (fun H locs hG hL => ?_)
    refine lv_aload_n K.1 K.2.1 dX11_meetsTold_28 rfl (lv_at hl 0 rfl) ?_
    refine lv_iload_n K.1 K.2.1 dX11_meetsTold_29 rfl (lv_at hl 1 rfl) ?_
    refine lv_iload_n K.1 K.2.1 dX11_meetsTold_30 rfl (lv_at hl 2 rfl) ?_
    obtain ⟨v10, ev10, hf⟩ := Option.bind_eq_some_iff.mp hf
    obtain ⟨q11, eq11⟩ := ah_this ev10
    refine ah_callV (As := [.int x1, .int x2]) (rest := [.int v8, .ref a0]) K hG hL hl.1 eq11 rfl (ctX11_second l H0 D ca M z a0 x1 x2 v10 ev10) hdX11_second q_1107 q_1109 q_54 q_1110 q_37 ⟨Nat.le_of_ble_eq_true rfl, Nat.le_of_ble_eq_true rfl⟩ rfl rfl (Nat.le_of_ble_eq_true rfl) ⟨Nat.le_refl _, Nat.le_refl _⟩ dX11_meetsTold_31 (fun H locs hG hL => ?_)
    obtain ⟨v12, ev12, hf⟩ := Option.bind_eq_some_iff.mp hf
    obtain ⟨q13, eq13⟩ := ah_this ev12
    refine ah_callV (As := [.int v8, .int v10]) (rest := []) K hG hL hl.1 eq13 rfl (ctX11_meets l H0 D ca M z a0 v8 v10 v12 ev12) hdX11_meets q_1020 q_1022 q_54 q_1023 q_22 ⟨Nat.le_of_ble_eq_true rfl, Nat.le_of_ble_eq_true rfl⟩ rfl rfl (Nat.le_of_ble_eq_true rfl) ⟨Nat.le_refl _, Nat.le_refl _⟩ dX11_meetsTold_34 (fun H locs hG hL => ?_)
    refine lv_iconst (v := 1) K.1 K.2.1 dX11_meetsTold_37 (by decide) ?_
    have hf := Option.some.inj hf
    subst hf
    exact ah_zret K hG hL (Or.inr rfl) (Nat.le_refl _) (Nat.le_refl _) dX11_meetsTold_38
  · rw [if_pos h7] at hf
    refine lv_iconst (v := 0) K.1 K.2.1 dX11_meetsTold_19 (by decide) ?_
    have hf := Option.some.inj hf
    subst hf
    exact ah_zret K hG hL (Or.inl rfl) (Nat.le_refl _) (Nat.le_refl _) dX11_meetsTold_20
def fX11_begins (M : ah_h) (a0 : Nat) : Option (ah_h) := (ah_ob M a0 11).bind fun _ => (ah_gr M a0 11 0).bind fun v1 => (ah_gr M a0 11 3).bind fun v2 => (fX11_copies M v1 v2).bind fun v3 => some v3
set_option maxRecDepth 100000 in
set_option maxHeartbeats 4000000 in
theorem ctX11_begins (l : Launch) (H0 : Heap) (D : va_G) (ca : Nat → ClassId) (M : ah_h) (z : Nat) (a0 : Nat) (Z : ah_h) (hf : fX11_begins M a0 = some Z) : ah_ct l H0 D ca yX11_begins cX11_begins 1 none 1 22 0 0 [.ref a0] M z none Z z := by
  refine ah_of (by decide) (Nat.le_of_ble_eq_true rfl) ?_
  intro p e s m below meth c ls hin K hG hl
  have hL : ah_L H0 [] := ah_L.nil
  have hl : lv_has ls 1 [(0, .ref a0)] := hl
  unfold fX11_begins at hf
  obtain ⟨-, -, hf⟩ := Option.bind_eq_some_iff.mp hf
  refine lv_aload_n K.1 K.2.1 dX11_begins_0 rfl (lv_at hl 0 rfl) ?_
  obtain ⟨v1, ev1, hf⟩ := Option.bind_eq_some_iff.mp hf
  refine ah_getr K hG ev1 ffX11_9_11 dX11_begins_1 ?_
  refine lv_aload_n K.1 K.2.1 dX11_begins_4 rfl (lv_at hl 0 rfl) ?_
  obtain ⟨v2, ev2, hf⟩ := Option.bind_eq_some_iff.mp hf
  refine ah_getr K hG ev2 ffX11_19_11 dX11_begins_5 ?_
  obtain ⟨v3, ev3, hf⟩ := Option.bind_eq_some_iff.mp hf
  refine ah_callS (As := [.ref v1, .ref v2]) (rest := []) K hG hL hl.1 (ctX11_copies l H0 D ca M z v1 v2 v3 ev3) hdX11_copies q_989 q_990 q_54 q_991 ⟨Nat.le_of_ble_eq_true rfl, Nat.le_of_ble_eq_true rfl⟩ rfl rfl (Nat.le_of_ble_eq_true rfl) ⟨Nat.le_refl _, Nat.le_refl _⟩ dX11_begins_8 (fun H locs hG hL => ?_)
  have hf := Option.some.inj hf
  subst hf
  exact ah_vret K hG hL (Nat.le_refl _) (Nat.le_refl _) dX11_begins_11
def fX11_ends (M : ah_h) (a0 : Nat) : Option (ah_h) := (ah_ob M a0 11).bind fun _ => (ah_gr M a0 11 3).bind fun v1 => (ah_gr M a0 11 0).bind fun v2 => (fX11_copies M v1 v2).bind fun v3 => some v3
set_option maxRecDepth 100000 in
set_option maxHeartbeats 4000000 in
theorem ctX11_ends (l : Launch) (H0 : Heap) (D : va_G) (ca : Nat → ClassId) (M : ah_h) (z : Nat) (a0 : Nat) (Z : ah_h) (hf : fX11_ends M a0 = some Z) : ah_ct l H0 D ca yX11_ends cX11_ends 1 none 1 22 0 0 [.ref a0] M z none Z z := by
  refine ah_of (by decide) (Nat.le_of_ble_eq_true rfl) ?_
  intro p e s m below meth c ls hin K hG hl
  have hL : ah_L H0 [] := ah_L.nil
  have hl : lv_has ls 1 [(0, .ref a0)] := hl
  unfold fX11_ends at hf
  obtain ⟨-, -, hf⟩ := Option.bind_eq_some_iff.mp hf
  refine lv_aload_n K.1 K.2.1 dX11_ends_0 rfl (lv_at hl 0 rfl) ?_
  obtain ⟨v1, ev1, hf⟩ := Option.bind_eq_some_iff.mp hf
  refine ah_getr K hG ev1 ffX11_19_11 dX11_ends_1 ?_
  refine lv_aload_n K.1 K.2.1 dX11_ends_4 rfl (lv_at hl 0 rfl) ?_
  obtain ⟨v2, ev2, hf⟩ := Option.bind_eq_some_iff.mp hf
  refine ah_getr K hG ev2 ffX11_9_11 dX11_ends_5 ?_
  obtain ⟨v3, ev3, hf⟩ := Option.bind_eq_some_iff.mp hf
  refine ah_callS (As := [.ref v1, .ref v2]) (rest := []) K hG hL hl.1 (ctX11_copies l H0 D ca M z v1 v2 v3 ev3) hdX11_copies q_989 q_990 q_54 q_991 ⟨Nat.le_of_ble_eq_true rfl, Nat.le_of_ble_eq_true rfl⟩ rfl rfl (Nat.le_of_ble_eq_true rfl) ⟨Nat.le_refl _, Nat.le_refl _⟩ dX11_ends_8 (fun H locs hG hL => ?_)
  have hf := Option.some.inj hf
  subst hf
  exact ah_vret K hG hL (Nat.le_refl _) (Nat.le_refl _) dX11_ends_11
def fX11_where_31_b   (k31 : ah_h → Nat → Int32 → Int32 → Int32 → Option (Int32 × ah_h))  (M : ah_h) (a0 : Nat) (x1 : Int32) (x2 : Int32) (x4 : Int32) : Option (Int32 × ah_h) := (fX11_meetings M a0 x2).bind fun v1 => if v1 ≤ x4 then ((fX11_get M a0 x1 0).bind fun v4 => (fX11_ends M a0).bind fun v6 => some (v4, v6)) else ((fX11_meetsTold M a0 x2 x4).bind fun v8 => k31 v8.2 a0 x1 x2 (x4 + 1))
def fX11_where_31    : Nat → ah_h → Nat → Int32 → Int32 → Int32 → Option (Int32 × ah_h)
  | 0 => fun _ _ _ _ _ => none
  | n + 1 => fun M a0 x1 x2 x4 => fX11_where_31_b   (fX11_where_31    n)  M a0 x1 x2 x4
set_option maxRecDepth 100000 in
set_option maxHeartbeats 4000000 in
theorem wX11_where_31_b {p : Program} {l : Launch} {e : Env} {s : State} {m : MethodId} {args : Array Value} {below : List Frame} {meth : Method} {c : Code} {D : va_G} {ca : Nat → ClassId} {H0 : Heap} {z : Nat} (K : ah_K p s m args meth c D ca "ShipsThatMeetModel" cX11_where 6 (some .int))   (k31 : ah_h → Nat → Int32 → Int32 → Int32 → Option (Int32 × ah_h)) (hk31 : ∀ (M : ah_h) (a0 : Nat) (x1 : Int32) (x2 : Int32) (x4 : Int32)  (H : Heap) (locs : List Loc) (ls : Array Slot), ah_g H0 D ca M z H → ah_L H0 locs → lv_has ls 6 [(0, .ref a0), (1, .int x1), (2, .int x2), (4, .int x4)] → ∀ Z, k31 M a0 x1 x2 x4 = some Z → W p l e { frames := 6, cells := 0, slots := 0, locals := 138 } s m args below meth c H locs 0 0 (ah_Q below args s H0 D ca 0 0 (some (.int Z.1)) Z.2 z) (F0 m 31 ls [])) : ∀ (M : ah_h) (a0 : Nat) (x1 : Int32) (x2 : Int32) (x4 : Int32)  (H : Heap) (locs : List Loc) (ls : Array Slot), ah_g H0 D ca M z H → ah_L H0 locs → lv_has ls 6 [(0, .ref a0), (1, .int x1), (2, .int x2), (4, .int x4)] → ∀ Z, fX11_where_31_b   k31  M a0 x1 x2 x4 = some Z → W p l e { frames := 6, cells := 0, slots := 0, locals := 138 } s m args below meth c H locs 0 0 (ah_Q below args s H0 D ca 0 0 (some (.int Z.1)) Z.2 z) (F0 m 31 ls []) := by
  intro M a0 x1 x2 x4 H locs ls hG hL hl Z hf
  unfold fX11_where_31_b at hf
  refine lv_iload K.1 K.2.1 dX11_where_31 (lv_at hl 3 rfl) ?_
  refine lv_aload_n K.1 K.2.1 dX11_where_33 rfl (lv_at hl 0 rfl) ?_
  refine lv_iload_n K.1 K.2.1 dX11_where_34 rfl (lv_at hl 2 rfl) ?_
  obtain ⟨v1, ev1, hf⟩ := Option.bind_eq_some_iff.mp hf
  obtain ⟨q2, eq2⟩ := ah_this ev1
  refine ah_callV (As := [.int x2]) (rest := [.int x4]) K hG hL hl.1 eq2 rfl (ctX11_meetings l H0 D ca M z a0 x2 v1 ev1) hdX11_meetings q_1095 q_1097 q_54 q_1098 q_34 ⟨Nat.le_of_ble_eq_true rfl, Nat.le_of_ble_eq_true rfl⟩ rfl rfl (Nat.le_of_ble_eq_true rfl) ⟨Nat.le_refl _, Nat.le_refl _⟩ dX11_where_35 (fun H locs hG hL => ?_)
  refine lv_icmp_ge (tgt := 56) K.1 K.2.1 dX11_where_38 (by decide) (fun h3 => ?_) (fun h3 => ?_)
  · rw [if_pos h3] at hf
    refine lv_aload_n K.1 K.2.1 dX11_where_56 rfl (lv_at hl 0 rfl) ?_
    refine lv_iload_n K.1 K.2.1 dX11_where_57 rfl (lv_at hl 1 rfl) ?_
    refine lv_iconst (v := 0) K.1 K.2.1 dX11_where_58 (by decide) ?_
    obtain ⟨v4, ev4, hf⟩ := Option.bind_eq_some_iff.mp hf
    obtain ⟨q5, eq5⟩ := ah_this ev4
    refine ah_callV (As := [.int x1, .int 0]) (rest := []) K hG hL hl.1 eq5 rfl (ctX11_get l H0 D ca M z a0 x1 0 v4 ev4) hdX11_get q_1012 q_1014 q_54 q_1015 q_20 ⟨Nat.le_of_ble_eq_true rfl, Nat.le_of_ble_eq_true rfl⟩ rfl rfl (Nat.le_of_ble_eq_true rfl) ⟨Nat.le_refl _, Nat.le_refl _⟩ dX11_where_59 (fun H locs hG hL => ?_)
    refine lv_istore (lv' := [(4, .int v4), (0, .ref a0), (1, .int x1), (2, .int x2)]) K.1 K.2.1 dX11_where_62 hl (by decide) rfl (fun ls hl => ?_)
    refine lv_aload_n K.1 K.2.1 dX11_where_64 rfl (lv_at hl 1 rfl) ?_
    obtain ⟨v6, ev6, hf⟩ := Option.bind_eq_some_iff.mp hf
    obtain ⟨q7, eq7⟩ := ah_this ev6
    refine ah_callV (As := []) (rest := []) K hG hL hl.1 eq7 rfl (ctX11_ends l H0 D ca M z a0 v6 ev6) hdX11_ends q_1111 q_1113 q_54 q_1114 q_38 ⟨Nat.le_of_ble_eq_true rfl, Nat.le_of_ble_eq_true rfl⟩ rfl rfl (Nat.le_of_ble_eq_true rfl) ⟨Nat.le_refl _, Nat.le_refl _⟩ dX11_where_65 (fun H locs hG hL => ?_)
    refine lv_iload K.1 K.2.1 dX11_where_68 (lv_at hl 0 rfl) ?_
    have hf := Option.some.inj hf
    subst hf
    exact ah_iret K hG hL (Nat.le_refl _) (Nat.le_refl _) dX11_where_70
  · rw [if_neg h3] at hf
    refine lv_aload_n K.1 K.2.1 dX11_where_41 rfl (lv_at hl 0 rfl) ?_
    refine lv_iload_n K.1 K.2.1 dX11_where_42 rfl (lv_at hl 2 rfl) ?_
    refine lv_iload K.1 K.2.1 dX11_where_43 (lv_at hl 3 rfl) ?_
    obtain ⟨v8, ev8, hf⟩ := Option.bind_eq_some_iff.mp hf
    obtain ⟨q9, eq9⟩ := ah_this ev8
    refine ah_callV (As := [.int x2, .int x4]) (rest := []) K hG hL hl.1 eq9 rfl (ctX11_meetsTold l H0 D ca M z a0 x2 x4 v8 ev8) hdX11_meetsTold q_1099 q_1101 q_54 q_1102 q_35 ⟨Nat.le_of_ble_eq_true rfl, Nat.le_of_ble_eq_true rfl⟩ rfl rfl (Nat.le_of_ble_eq_true rfl) ⟨Nat.le_refl _, Nat.le_refl _⟩ dX11_where_45 (fun H locs hG hL => ?_)
    refine lv_istore (lv' := [(5, .int v8.1), (0, .ref a0), (1, .int x1), (2, .int x2), (4, .int x4)]) K.1 K.2.1 dX11_where_48 hl (by decide) rfl (fun ls hl => ?_)
    refine lv_iinc (v := x4 + 1) (lv' := [(4, .int (x4 + 1)), (5, .int v8.1), (0, .ref a0), (1, .int x1), (2, .int x2)]) K.1 K.2.1 dX11_where_50 hl (k := 4) rfl rfl (by decide) rfl (fun ls hl => ?_)
    refine lv_goto (tgt := 31) K.1 K.2.1 dX11_where_53 (by decide) ?_
    exact hk31 v8.2 a0 x1 x2 (x4 + 1) _ _ _ hG hL (lv_sub hl [2, 3, 4, 0] rfl) _ hf
theorem wX11_where_31 {p : Program} {l : Launch} {e : Env} {s : State} {m : MethodId} {args : Array Value} {below : List Frame} {meth : Method} {c : Code} {D : va_G} {ca : Nat → ClassId} {H0 : Heap} {z : Nat} (K : ah_K p s m args meth c D ca "ShipsThatMeetModel" cX11_where 6 (some .int))   (n : Nat) : ∀ (M : ah_h) (a0 : Nat) (x1 : Int32) (x2 : Int32) (x4 : Int32)  (H : Heap) (locs : List Loc) (ls : Array Slot), ah_g H0 D ca M z H → ah_L H0 locs → lv_has ls 6 [(0, .ref a0), (1, .int x1), (2, .int x2), (4, .int x4)] → ∀ Z, fX11_where_31    n M a0 x1 x2 x4 = some Z → W p l e { frames := 6, cells := 0, slots := 0, locals := 138 } s m args below meth c H locs 0 0 (ah_Q below args s H0 D ca 0 0 (some (.int Z.1)) Z.2 z) (F0 m 31 ls []) := by
  induction n with
  | zero => intro M a0 x1 x2 x4 H locs ls hG hL hl Z hf; cases hf
  | succ n ih => exact wX11_where_31_b K  _ ih
def fX11_where_17    (M : ah_h) (a0 : Nat) (x1 : Int32) (x2 : Int32) (s0 : Int32) : Option (Int32 × ah_h) := if s0 = 0 then ((fX11_begins M a0).bind fun v2 => fX11_where_31 ah_fu v2 a0 x1 x2 0) else (some (s0, M))
set_option maxRecDepth 100000 in
set_option maxHeartbeats 4000000 in
theorem wX11_where_17 {p : Program} {l : Launch} {e : Env} {s : State} {m : MethodId} {args : Array Value} {below : List Frame} {meth : Method} {c : Code} {D : va_G} {ca : Nat → ClassId} {H0 : Heap} {z : Nat} (K : ah_K p s m args meth c D ca "ShipsThatMeetModel" cX11_where 6 (some .int))   : ∀ (M : ah_h) (a0 : Nat) (x1 : Int32) (x2 : Int32) (s0 : Int32)  (H : Heap) (locs : List Loc) (ls : Array Slot), ah_g H0 D ca M z H → ah_L H0 locs → lv_has ls 6 [(0, .ref a0), (1, .int x1), (2, .int x2)] → ∀ Z, fX11_where_17    M a0 x1 x2 s0 = some Z → W p l e { frames := 6, cells := 0, slots := 0, locals := 138 } s m args below meth c H locs 0 0 (ah_Q below args s H0 D ca 0 0 (some (.int Z.1)) Z.2 z) (F0 m 17 ls [.int s0]) := by
  intro M a0 x1 x2 s0 H locs ls hG hL hl Z hf
  unfold fX11_where_17 at hf
  refine lv_istore_n (lv' := [(3, .int s0), (0, .ref a0), (1, .int x1), (2, .int x2)]) K.1 K.2.1 dX11_where_17 rfl hl (by decide) rfl (fun ls hl => ?_)
  refine lv_iload_n K.1 K.2.1 dX11_where_18 rfl (lv_at hl 0 rfl) ?_
  refine lv_if_eq (tgt := 24) K.1 K.2.1 dX11_where_19 (by decide) (fun h1 => ?_) (fun h1 => ?_)
  · rw [if_pos h1] at hf
    refine lv_aload_n K.1 K.2.1 dX11_where_24 rfl (lv_at hl 1 rfl) ?_
    obtain ⟨v2, ev2, hf⟩ := Option.bind_eq_some_iff.mp hf
    obtain ⟨q3, eq3⟩ := ah_this ev2
    refine ah_callV (As := []) (rest := []) K hG hL hl.1 eq3 rfl (ctX11_begins l H0 D ca M z a0 v2 ev2) hdX11_begins q_1091 q_1093 q_54 q_1094 q_33 ⟨Nat.le_of_ble_eq_true rfl, Nat.le_of_ble_eq_true rfl⟩ rfl rfl (Nat.le_of_ble_eq_true rfl) ⟨Nat.le_refl _, Nat.le_refl _⟩ dX11_where_25 (fun H locs hG hL => ?_)
    refine lv_iconst (v := 0) K.1 K.2.1 dX11_where_28 (by decide) ?_
    refine lv_istore (lv' := [(4, .int 0), (3, .int s0), (0, .ref a0), (1, .int x1), (2, .int x2)]) K.1 K.2.1 dX11_where_29 hl (by decide) rfl (fun ls hl => ?_)
    exact wX11_where_31 K  ah_fu v2 a0 x1 x2 0 _ _ _ hG hL (lv_sub hl [2, 3, 4, 0] rfl) _ hf
  · rw [if_neg h1] at hf
    refine lv_iload_n K.1 K.2.1 dX11_where_22 rfl (lv_at hl 0 rfl) ?_
    have hf := Option.some.inj hf
    subst hf
    exact ah_iret K hG hL (Nat.le_refl _) (Nat.le_refl _) dX11_where_23
def fX11_where (M : ah_h) (a0 : Nat) (x1 : Int32) (x2 : Int32) : Option (Int32 × ah_h) := (ah_ob M a0 11).bind fun _ => (fX11_isMan M a0 x1).bind fun v1 => if v1 = 0 then (fX11_where_17 M a0 x1 x2 (-1)) else ((fX11_wrongMeetings M a0 x2).bind fun v4 => fX11_where_17 M a0 x1 x2 v4)
set_option maxRecDepth 100000 in
set_option maxHeartbeats 4000000 in
theorem ctX11_where (l : Launch) (H0 : Heap) (D : va_G) (ca : Nat → ClassId) (M : ah_h) (z : Nat) (a0 : Nat) (x1 : Int32) (x2 : Int32) (Z : Int32 × ah_h) (hf : fX11_where M a0 x1 x2 = some Z) : ah_ct l H0 D ca yX11_where cX11_where 6 (some .int) 6 138 0 0 [.ref a0, .int x1, .int x2] M z (some (.int Z.1)) Z.2 z := by
  refine ah_of (by decide) (Nat.le_of_ble_eq_true rfl) ?_
  intro p e s m below meth c ls hin K hG hl
  have hL : ah_L H0 [] := ah_L.nil
  have hl : lv_has ls 6 [(0, .ref a0), (1, .int x1), (2, .int x2)] := hl
  unfold fX11_where at hf
  obtain ⟨-, -, hf⟩ := Option.bind_eq_some_iff.mp hf
  refine lv_aload_n K.1 K.2.1 dX11_where_0 rfl (lv_at hl 0 rfl) ?_
  refine lv_iload_n K.1 K.2.1 dX11_where_1 rfl (lv_at hl 1 rfl) ?_
  obtain ⟨v1, ev1, hf⟩ := Option.bind_eq_some_iff.mp hf
  obtain ⟨q2, eq2⟩ := ah_this ev1
  refine ah_callV (As := [.int x1]) (rest := []) K hG hL hl.1 eq2 rfl (ctX11_isMan l H0 D ca M z a0 x1 v1 ev1) hdX11_isMan q_1066 q_1068 q_54 q_1069 q_30 ⟨Nat.le_of_ble_eq_true rfl, Nat.le_of_ble_eq_true rfl⟩ rfl rfl (Nat.le_of_ble_eq_true rfl) ⟨Nat.le_refl _, Nat.le_refl _⟩ dX11_where_2 (fun H locs hG hL => ?_)
  refine lv_if_eq (tgt := 16) K.1 K.2.1 dX11_where_5 (by decide) (fun h3 => ?_) (fun h3 => ?_)
  · rw [if_pos h3] at hf
    refine lv_iconst (v := (-1)) K.1 K.2.1 dX11_where_16 (by decide) ?_
    exact wX11_where_17 K  M a0 x1 x2 (-1) _ _ _ hG hL (lv_sub hl [0, 1, 2] rfl) _ hf
  · rw [if_neg h3] at hf
    refine lv_aload_n K.1 K.2.1 dX11_where_8 rfl (lv_at hl 0 rfl) ?_
    refine lv_iload_n K.1 K.2.1 dX11_where_9 rfl (lv_at hl 2 rfl) ?_
    obtain ⟨v4, ev4, hf⟩ := Option.bind_eq_some_iff.mp hf
    obtain ⟨q5, eq5⟩ := ah_this ev4
    refine ah_callV (As := [.int x2]) (rest := []) K hG hL hl.1 eq5 rfl (ctX11_wrongMeetings l H0 D ca M z a0 x2 v4 ev4) hdX11_wrongMeetings q_1087 q_1089 q_54 q_1090 q_32 ⟨Nat.le_of_ble_eq_true rfl, Nat.le_of_ble_eq_true rfl⟩ rfl rfl (Nat.le_of_ble_eq_true rfl) ⟨Nat.le_refl _, Nat.le_refl _⟩ dX11_where_10 (fun H locs hG hL => ?_)
    refine lv_goto (tgt := 17) K.1 K.2.1 dX11_where_13 (by decide) ?_
    exact wX11_where_17 K  M a0 x1 x2 v4 _ _ _ hG hL (lv_sub hl [0, 1, 2] rfl) _ hf
def fX11_mayBe_63   (M : ah_h) (a0 : Nat) (x1 : Int32) (x2 : Int32) (x3 : Int32) (x4 : Int32) : Option (Int32) := if ((x1 >>> (x3 &&& 31)) &&& 1) = 1 then ((fX11_aboard M a0 x3).bind fun v2 => (fX11_bits M v2).bind fun v4 => if v4 ≤ 1 then (some (x4 ||| (((1 : Int32) <<< (x2 &&& 31)) ||| 0))) else (some (x4 ||| (((1 : Int32) <<< (x2 &&& 31)) ||| ((1 : Int32) <<< (x3 &&& 31)))))) else (some x4)
set_option maxRecDepth 100000 in
set_option maxHeartbeats 4000000 in
theorem wX11_mayBe_63 {p : Program} {l : Launch} {e : Env} {s : State} {m : MethodId} {args : Array Value} {below : List Frame} {meth : Method} {c : Code} {D : va_G} {ca : Nat → ClassId} {H0 : Heap} {M : ah_h} {z : Nat} (K : ah_K p s m args meth c D ca "ShipsThatMeetModel" cX11_mayBe 5 (some .int))   : ∀ (a0 : Nat) (x1 : Int32) (x2 : Int32) (x3 : Int32) (x4 : Int32)  (H : Heap) (locs : List Loc) (ls : Array Slot), ah_g H0 D ca M z H → ah_L H0 locs → lv_has ls 5 [(0, .ref a0), (1, .int x1), (2, .int x2), (3, .int x3), (4, .int x4)] → ∀ Z, fX11_mayBe_63   M a0 x1 x2 x3 x4 = some Z → W p l e { frames := 3, cells := 0, slots := 0, locals := 68 } s m args below meth c H locs 0 0 (ah_Q below args s H0 D ca 0 0 (some (.int Z)) M z) (F0 m 63 ls []) := by
  intro a0 x1 x2 x3 x4 H locs ls hG hL hl Z hf
  unfold fX11_mayBe_63 at hf
  refine lv_iload_n K.1 K.2.1 dX11_mayBe_63 rfl (lv_at hl 1 rfl) ?_
  refine lv_iload_n K.1 K.2.1 dX11_mayBe_64 rfl (lv_at hl 3 rfl) ?_
  refine lv_ishr K.1 K.2.1 dX11_mayBe_65 ?_
  refine lv_iconst (v := 1) K.1 K.2.1 dX11_mayBe_66 (by decide) ?_
  refine lv_iand K.1 K.2.1 dX11_mayBe_67 ?_
  refine lv_iconst (v := 1) K.1 K.2.1 dX11_mayBe_68 (by decide) ?_
  refine lv_icmp_ne (tgt := 100) K.1 K.2.1 dX11_mayBe_69 (by decide) (fun h1 => ?_) (fun h1 => ?_)
  · rw [if_neg h1] at hf
    refine lv_iload K.1 K.2.1 dX11_mayBe_100 (lv_at hl 4 rfl) ?_
    have hf := Option.some.inj hf
    subst hf
    exact ah_iret K hG hL (Nat.le_refl _) (Nat.le_refl _) dX11_mayBe_102
  · rw [if_pos h1] at hf
    refine lv_iload K.1 K.2.1 dX11_mayBe_72 (lv_at hl 4 rfl) ?_
    refine lv_iconst (v := 1) K.1 K.2.1 dX11_mayBe_74 (by decide) ?_
    refine lv_iload_n K.1 K.2.1 dX11_mayBe_75 rfl (lv_at hl 2 rfl) ?_
    refine lv_ishl K.1 K.2.1 dX11_mayBe_76 ?_
    refine lv_aload_n K.1 K.2.1 dX11_mayBe_77 rfl (lv_at hl 0 rfl) ?_
    refine lv_iload_n K.1 K.2.1 dX11_mayBe_78 rfl (lv_at hl 3 rfl) ?_
    obtain ⟨v2, ev2, hf⟩ := Option.bind_eq_some_iff.mp hf
    obtain ⟨q3, eq3⟩ := ah_this ev2
    refine ah_callV (As := [.int x3]) (rest := [.int ((1 : Int32) <<< (x2 &&& 31)), .int x4]) K hG hL hl.1 eq3 rfl (ctX11_aboard l H0 D ca M z a0 x3 v2 ev2) hdX11_aboard q_1008 q_1010 q_54 q_1011 q_19 ⟨Nat.le_of_ble_eq_true rfl, Nat.le_of_ble_eq_true rfl⟩ rfl rfl (Nat.le_of_ble_eq_true rfl) ⟨Nat.le_refl _, Nat.le_refl _⟩ dX11_mayBe_79 (fun H locs hG hL => ?_)
    obtain ⟨v4, ev4, hf⟩ := Option.bind_eq_some_iff.mp hf
    refine ah_callS (As := [.int v2]) (rest := [.int ((1 : Int32) <<< (x2 &&& 31)), .int x4]) K hG hL hl.1 (ctX11_bits l H0 D ca M z v2 v4 ev4) hdX11_bits q_1036 q_1037 q_54 q_1038 ⟨Nat.le_of_ble_eq_true rfl, Nat.le_of_ble_eq_true rfl⟩ rfl rfl (Nat.le_of_ble_eq_true rfl) ⟨Nat.le_refl _, Nat.le_refl _⟩ dX11_mayBe_82 (fun H locs hG hL => ?_)
    refine lv_iconst (v := 1) K.1 K.2.1 dX11_mayBe_85 (by decide) ?_
    refine lv_icmp_le (tgt := 95) K.1 K.2.1 dX11_mayBe_86 (by decide) (fun h5 => ?_) (fun h5 => ?_)
    · rw [if_pos h5] at hf
      refine lv_iconst (v := 0) K.1 K.2.1 dX11_mayBe_95 (by decide) ?_
      refine lv_ior K.1 K.2.1 dX11_mayBe_96 ?_
      refine lv_ior K.1 K.2.1 dX11_mayBe_97 ?_
      refine lv_istore (lv' := [(4, .int (x4 ||| (((1 : Int32) <<< (x2 &&& 31)) ||| 0))), (0, .ref a0), (1, .int x1), (2, .int x2), (3, .int x3)]) K.1 K.2.1 dX11_mayBe_98 hl (by decide) rfl (fun ls hl => ?_)
      refine lv_iload K.1 K.2.1 dX11_mayBe_100 (lv_at hl 0 rfl) ?_
      have hf := Option.some.inj hf
      subst hf
      exact ah_iret K hG hL (Nat.le_refl _) (Nat.le_refl _) dX11_mayBe_102
    · rw [if_neg h5] at hf
      refine lv_iconst (v := 1) K.1 K.2.1 dX11_mayBe_89 (by decide) ?_
      refine lv_iload_n K.1 K.2.1 dX11_mayBe_90 rfl (lv_at hl 3 rfl) ?_
      refine lv_ishl K.1 K.2.1 dX11_mayBe_91 ?_
      refine lv_goto (tgt := 96) K.1 K.2.1 dX11_mayBe_92 (by decide) ?_
      refine lv_ior K.1 K.2.1 dX11_mayBe_96 ?_
      refine lv_ior K.1 K.2.1 dX11_mayBe_97 ?_
      refine lv_istore (lv' := [(4, .int (x4 ||| (((1 : Int32) <<< (x2 &&& 31)) ||| ((1 : Int32) <<< (x3 &&& 31))))), (0, .ref a0), (1, .int x1), (2, .int x2), (3, .int x3)]) K.1 K.2.1 dX11_mayBe_98 hl (by decide) rfl (fun ls hl => ?_)
      refine lv_iload K.1 K.2.1 dX11_mayBe_100 (lv_at hl 0 rfl) ?_
      have hf := Option.some.inj hf
      subst hf
      exact ah_iret K hG hL (Nat.le_refl _) (Nat.le_refl _) dX11_mayBe_102
def fX11_mayBe_59   (M : ah_h) (a0 : Nat) (x1 : Int32) (x2 : Int32) (x3 : Int32) (s0 : Int32) (s1 : Int32) (s2 : Int32) : Option (Int32) := fX11_mayBe_63 M a0 x1 x2 x3 (s0 ||| (s1 ||| s2))
set_option maxRecDepth 100000 in
set_option maxHeartbeats 4000000 in
theorem wX11_mayBe_59 {p : Program} {l : Launch} {e : Env} {s : State} {m : MethodId} {args : Array Value} {below : List Frame} {meth : Method} {c : Code} {D : va_G} {ca : Nat → ClassId} {H0 : Heap} {M : ah_h} {z : Nat} (K : ah_K p s m args meth c D ca "ShipsThatMeetModel" cX11_mayBe 5 (some .int))   : ∀ (a0 : Nat) (x1 : Int32) (x2 : Int32) (x3 : Int32) (s0 : Int32) (s1 : Int32) (s2 : Int32)  (H : Heap) (locs : List Loc) (ls : Array Slot), ah_g H0 D ca M z H → ah_L H0 locs → lv_has ls 5 [(0, .ref a0), (1, .int x1), (2, .int x2), (3, .int x3)] → ∀ Z, fX11_mayBe_59   M a0 x1 x2 x3 s0 s1 s2 = some Z → W p l e { frames := 3, cells := 0, slots := 0, locals := 68 } s m args below meth c H locs 0 0 (ah_Q below args s H0 D ca 0 0 (some (.int Z)) M z) (F0 m 59 ls [.int s2, .int s1, .int s0]) := by
  intro a0 x1 x2 x3 s0 s1 s2 H locs ls hG hL hl Z hf
  unfold fX11_mayBe_59 at hf
  refine lv_ior K.1 K.2.1 dX11_mayBe_59 ?_
  refine lv_ior K.1 K.2.1 dX11_mayBe_60 ?_
  refine lv_istore (lv' := [(4, .int (s0 ||| (s1 ||| s2))), (0, .ref a0), (1, .int x1), (2, .int x2), (3, .int x3)]) K.1 K.2.1 dX11_mayBe_61 hl (by decide) rfl (fun ls hl => ?_)
  exact wX11_mayBe_63 K  a0 x1 x2 x3 (s0 ||| (s1 ||| s2)) _ _ _ hG hL (lv_sub hl [1, 2, 3, 4, 0] rfl) _ hf
def fX11_mayBe (M : ah_h) (a0 : Nat) (x1 : Int32) (x2 : Int32) (x3 : Int32) : Option (Int32) := (ah_ob M a0 11).bind fun _ => (fX11_mayMeet M a0 x2 x3).bind fun v1 => if v1 = 0 then (some x1) else (if ((x1 >>> (x2 &&& 31)) &&& 1) = 1 then ((fX11_aboard M a0 x2).bind fun v5 => (fX11_bits M v5).bind fun v7 => if v7 ≤ 1 then (fX11_mayBe_59 M a0 x1 x2 x3 ((x1 &&& (((1 : Int32) <<< (x2 &&& 31)) ^^^ (-1))) &&& (((1 : Int32) <<< (x3 &&& 31)) ^^^ (-1))) ((1 : Int32) <<< (x3 &&& 31)) 0) else (fX11_mayBe_59 M a0 x1 x2 x3 ((x1 &&& (((1 : Int32) <<< (x2 &&& 31)) ^^^ (-1))) &&& (((1 : Int32) <<< (x3 &&& 31)) ^^^ (-1))) ((1 : Int32) <<< (x3 &&& 31)) ((1 : Int32) <<< (x2 &&& 31)))) else (fX11_mayBe_63 M a0 x1 x2 x3 ((x1 &&& (((1 : Int32) <<< (x2 &&& 31)) ^^^ (-1))) &&& (((1 : Int32) <<< (x3 &&& 31)) ^^^ (-1)))))
set_option maxRecDepth 100000 in
set_option maxHeartbeats 4000000 in
theorem ctX11_mayBe (l : Launch) (H0 : Heap) (D : va_G) (ca : Nat → ClassId) (M : ah_h) (z : Nat) (a0 : Nat) (x1 : Int32) (x2 : Int32) (x3 : Int32) (Z : Int32) (hf : fX11_mayBe M a0 x1 x2 x3 = some Z) : ah_ct l H0 D ca yX11_mayBe cX11_mayBe 5 (some .int) 3 68 0 0 [.ref a0, .int x1, .int x2, .int x3] M z (some (.int Z)) M z := by
  refine ah_of (by decide) (Nat.le_of_ble_eq_true rfl) ?_
  intro p e s m below meth c ls hin K hG hl
  have hL : ah_L H0 [] := ah_L.nil
  have hl : lv_has ls 5 [(0, .ref a0), (1, .int x1), (2, .int x2), (3, .int x3)] := hl
  unfold fX11_mayBe at hf
  obtain ⟨-, -, hf⟩ := Option.bind_eq_some_iff.mp hf
  refine lv_aload_n K.1 K.2.1 dX11_mayBe_0 rfl (lv_at hl 0 rfl) ?_
  refine lv_iload_n K.1 K.2.1 dX11_mayBe_1 rfl (lv_at hl 2 rfl) ?_
  refine lv_iload_n K.1 K.2.1 dX11_mayBe_2 rfl (lv_at hl 3 rfl) ?_
  obtain ⟨v1, ev1, hf⟩ := Option.bind_eq_some_iff.mp hf
  obtain ⟨q2, eq2⟩ := ah_this ev1
  refine ah_callV (As := [.int x2, .int x3]) (rest := []) K hG hL hl.1 eq2 rfl (ctX11_mayMeet l H0 D ca M z a0 x2 x3 v1 ev1) hdX11_mayMeet q_1016 q_1018 q_54 q_1019 q_21 ⟨Nat.le_of_ble_eq_true rfl, Nat.le_of_ble_eq_true rfl⟩ rfl rfl (Nat.le_of_ble_eq_true rfl) ⟨Nat.le_refl _, Nat.le_refl _⟩ dX11_mayBe_3 (fun H locs hG hL => ?_)
  refine lv_if_ne (tgt := 11) K.1 K.2.1 dX11_mayBe_6 (by decide) (fun h3 => ?_) (fun h3 => ?_)
  · rw [if_neg h3] at hf
    refine lv_iload_n K.1 K.2.1 dX11_mayBe_11 rfl (lv_at hl 1 rfl) ?_
    refine lv_iconst (v := 1) K.1 K.2.1 dX11_mayBe_12 (by decide) ?_
    refine lv_iload_n K.1 K.2.1 dX11_mayBe_13 rfl (lv_at hl 2 rfl) ?_
    refine lv_ishl K.1 K.2.1 dX11_mayBe_14 ?_
    refine lv_iconst (v := (-1)) K.1 K.2.1 dX11_mayBe_15 (by decide) ?_
    refine lv_ixor K.1 K.2.1 dX11_mayBe_16 ?_
    refine lv_iand K.1 K.2.1 dX11_mayBe_17 ?_
    refine lv_iconst (v := 1) K.1 K.2.1 dX11_mayBe_18 (by decide) ?_
    refine lv_iload_n K.1 K.2.1 dX11_mayBe_19 rfl (lv_at hl 3 rfl) ?_
    refine lv_ishl K.1 K.2.1 dX11_mayBe_20 ?_
    refine lv_iconst (v := (-1)) K.1 K.2.1 dX11_mayBe_21 (by decide) ?_
    refine lv_ixor K.1 K.2.1 dX11_mayBe_22 ?_
    refine lv_iand K.1 K.2.1 dX11_mayBe_23 ?_
    refine lv_istore (lv' := [(4, .int ((x1 &&& (((1 : Int32) <<< (x2 &&& 31)) ^^^ (-1))) &&& (((1 : Int32) <<< (x3 &&& 31)) ^^^ (-1)))), (0, .ref a0), (1, .int x1), (2, .int x2), (3, .int x3)]) K.1 K.2.1 dX11_mayBe_24 hl (by decide) rfl (fun ls hl => ?_)
    refine lv_iload_n K.1 K.2.1 dX11_mayBe_26 rfl (lv_at hl 2 rfl) ?_
    refine lv_iload_n K.1 K.2.1 dX11_mayBe_27 rfl (lv_at hl 3 rfl) ?_
    refine lv_ishr K.1 K.2.1 dX11_mayBe_28 ?_
    refine lv_iconst (v := 1) K.1 K.2.1 dX11_mayBe_29 (by decide) ?_
    refine lv_iand K.1 K.2.1 dX11_mayBe_30 ?_
    refine lv_iconst (v := 1) K.1 K.2.1 dX11_mayBe_31 (by decide) ?_
    refine lv_icmp_ne (tgt := 63) K.1 K.2.1 dX11_mayBe_32 (by decide) (fun h4 => ?_) (fun h4 => ?_)
    · rw [if_neg h4] at hf
      exact wX11_mayBe_63 K  a0 x1 x2 x3 ((x1 &&& (((1 : Int32) <<< (x2 &&& 31)) ^^^ (-1))) &&& (((1 : Int32) <<< (x3 &&& 31)) ^^^ (-1))) _ _ _ hG hL (lv_sub hl [1, 2, 3, 4, 0] rfl) _ hf
    · rw [if_pos h4] at hf
      refine lv_iload K.1 K.2.1 dX11_mayBe_35 (lv_at hl 0 rfl) ?_
      refine lv_iconst (v := 1) K.1 K.2.1 dX11_mayBe_37 (by decide) ?_
      refine lv_iload_n K.1 K.2.1 dX11_mayBe_38 rfl (lv_at hl 4 rfl) ?_
      refine lv_ishl K.1 K.2.1 dX11_mayBe_39 ?_
      refine lv_aload_n K.1 K.2.1 dX11_mayBe_40 rfl (lv_at hl 1 rfl) ?_
      refine lv_iload_n K.1 K.2.1 dX11_mayBe_41 rfl (lv_at hl 3 rfl) ?_
      obtain ⟨v5, ev5, hf⟩ := Option.bind_eq_some_iff.mp hf
      obtain ⟨q6, eq6⟩ := ah_this ev5
      refine ah_callV (As := [.int x2]) (rest := [.int ((1 : Int32) <<< (x3 &&& 31)), .int ((x1 &&& (((1 : Int32) <<< (x2 &&& 31)) ^^^ (-1))) &&& (((1 : Int32) <<< (x3 &&& 31)) ^^^ (-1)))]) K hG hL hl.1 eq6 rfl (ctX11_aboard l H0 D ca M z a0 x2 v5 ev5) hdX11_aboard q_1008 q_1010 q_54 q_1011 q_19 ⟨Nat.le_of_ble_eq_true rfl, Nat.le_of_ble_eq_true rfl⟩ rfl rfl (Nat.le_of_ble_eq_true rfl) ⟨Nat.le_refl _, Nat.le_refl _⟩ dX11_mayBe_42 (fun H locs hG hL => ?_)
      obtain ⟨v7, ev7, hf⟩ := Option.bind_eq_some_iff.mp hf
      refine ah_callS (As := [.int v5]) (rest := [.int ((1 : Int32) <<< (x3 &&& 31)), .int ((x1 &&& (((1 : Int32) <<< (x2 &&& 31)) ^^^ (-1))) &&& (((1 : Int32) <<< (x3 &&& 31)) ^^^ (-1)))]) K hG hL hl.1 (ctX11_bits l H0 D ca M z v5 v7 ev7) hdX11_bits q_1036 q_1037 q_54 q_1038 ⟨Nat.le_of_ble_eq_true rfl, Nat.le_of_ble_eq_true rfl⟩ rfl rfl (Nat.le_of_ble_eq_true rfl) ⟨Nat.le_refl _, Nat.le_refl _⟩ dX11_mayBe_45 (fun H locs hG hL => ?_)
      refine lv_iconst (v := 1) K.1 K.2.1 dX11_mayBe_48 (by decide) ?_
      refine lv_icmp_le (tgt := 58) K.1 K.2.1 dX11_mayBe_49 (by decide) (fun h8 => ?_) (fun h8 => ?_)
      · rw [if_pos h8] at hf
        refine lv_iconst (v := 0) K.1 K.2.1 dX11_mayBe_58 (by decide) ?_
        exact wX11_mayBe_59 K  a0 x1 x2 x3 ((x1 &&& (((1 : Int32) <<< (x2 &&& 31)) ^^^ (-1))) &&& (((1 : Int32) <<< (x3 &&& 31)) ^^^ (-1))) ((1 : Int32) <<< (x3 &&& 31)) 0 _ _ _ hG hL (lv_sub hl [1, 2, 3, 4] rfl) _ hf
      · rw [if_neg h8] at hf
        refine lv_iconst (v := 1) K.1 K.2.1 dX11_mayBe_52 (by decide) ?_
        refine lv_iload_n K.1 K.2.1 dX11_mayBe_53 rfl (lv_at hl 3 rfl) ?_
        refine lv_ishl K.1 K.2.1 dX11_mayBe_54 ?_
        refine lv_goto (tgt := 59) K.1 K.2.1 dX11_mayBe_55 (by decide) ?_
        exact wX11_mayBe_59 K  a0 x1 x2 x3 ((x1 &&& (((1 : Int32) <<< (x2 &&& 31)) ^^^ (-1))) &&& (((1 : Int32) <<< (x3 &&& 31)) ^^^ (-1))) ((1 : Int32) <<< (x3 &&& 31)) ((1 : Int32) <<< (x2 &&& 31)) _ _ _ hG hL (lv_sub hl [1, 2, 3, 4] rfl) _ hf
  · rw [if_pos h3] at hf
    refine lv_iload_n K.1 K.2.1 dX11_mayBe_9 rfl (lv_at hl 1 rfl) ?_
    have hf := Option.some.inj hf
    subst hf
    exact ah_iret K hG hL (Nat.le_refl _) (Nat.le_refl _) dX11_mayBe_10
def fX11_can_37_b   (k37 : Nat → Int32 → Int32 → Int32 → Option (Int32)) (M : ah_h) (a0 : Nat) (x2 : Int32) (x4 : Int32) (x5 : Int32) : Option (Int32) := (fX11_meetings M a0 x2).bind fun v1 => if v1 ≤ x5 then (some x4) else ((fX11_first M a0 x2 x5).bind fun v4 => (fX11_second M a0 x2 x5).bind fun v6 => (fX11_mayBe M a0 x4 v4 v6).bind fun v8 => k37 a0 x2 v8 (x5 + 1))
def fX11_can_37   (M : ah_h) : Nat → Nat → Int32 → Int32 → Int32 → Option (Int32)
  | 0 => fun _ _ _ _ => none
  | n + 1 => fun a0 x2 x4 x5 => fX11_can_37_b   (fX11_can_37   M n) M a0 x2 x4 x5
set_option maxRecDepth 100000 in
set_option maxHeartbeats 4000000 in
theorem wX11_can_37_b {p : Program} {l : Launch} {e : Env} {s : State} {m : MethodId} {args : Array Value} {below : List Frame} {meth : Method} {c : Code} {D : va_G} {ca : Nat → ClassId} {H0 : Heap} {M : ah_h} {z : Nat} (K : ah_K p s m args meth c D ca "ShipsThatMeetModel" cX11_can 6 (some .int))   (k37 : Nat → Int32 → Int32 → Int32 → Option (Int32)) (hk37 : ∀ (a0 : Nat) (x2 : Int32) (x4 : Int32) (x5 : Int32)  (H : Heap) (locs : List Loc) (ls : Array Slot), ah_g H0 D ca M z H → ah_L H0 locs → lv_has ls 6 [(0, .ref a0), (2, .int x2), (4, .int x4), (5, .int x5)] → ∀ Z, k37 a0 x2 x4 x5 = some Z → W p l e { frames := 4, cells := 0, slots := 0, locals := 92 } s m args below meth c H locs 0 0 (ah_Q below args s H0 D ca 0 0 (some (.int Z)) M z) (F0 m 37 ls [])) : ∀ (a0 : Nat) (x2 : Int32) (x4 : Int32) (x5 : Int32)  (H : Heap) (locs : List Loc) (ls : Array Slot), ah_g H0 D ca M z H → ah_L H0 locs → lv_has ls 6 [(0, .ref a0), (2, .int x2), (4, .int x4), (5, .int x5)] → ∀ Z, fX11_can_37_b   k37 M a0 x2 x4 x5 = some Z → W p l e { frames := 4, cells := 0, slots := 0, locals := 92 } s m args below meth c H locs 0 0 (ah_Q below args s H0 D ca 0 0 (some (.int Z)) M z) (F0 m 37 ls []) := by
  intro a0 x2 x4 x5 H locs ls hG hL hl Z hf
  unfold fX11_can_37_b at hf
  refine lv_iload K.1 K.2.1 dX11_can_37 (lv_at hl 3 rfl) ?_
  refine lv_aload_n K.1 K.2.1 dX11_can_39 rfl (lv_at hl 0 rfl) ?_
  refine lv_iload_n K.1 K.2.1 dX11_can_40 rfl (lv_at hl 1 rfl) ?_
  obtain ⟨v1, ev1, hf⟩ := Option.bind_eq_some_iff.mp hf
  obtain ⟨q2, eq2⟩ := ah_this ev1
  refine ah_callV (As := [.int x2]) (rest := [.int x5]) K hG hL hl.1 eq2 rfl (ctX11_meetings l H0 D ca M z a0 x2 v1 ev1) hdX11_meetings q_1095 q_1097 q_54 q_1098 q_34 ⟨Nat.le_of_ble_eq_true rfl, Nat.le_of_ble_eq_true rfl⟩ rfl rfl (Nat.le_of_ble_eq_true rfl) ⟨Nat.le_refl _, Nat.le_refl _⟩ dX11_can_41 (fun H locs hG hL => ?_)
  refine lv_icmp_ge (tgt := 75) K.1 K.2.1 dX11_can_44 (by decide) (fun h3 => ?_) (fun h3 => ?_)
  · rw [if_pos h3] at hf
    refine lv_iload K.1 K.2.1 dX11_can_75 (lv_at hl 2 rfl) ?_
    have hf := Option.some.inj hf
    subst hf
    exact ah_iret K hG hL (Nat.le_refl _) (Nat.le_refl _) dX11_can_77
  · rw [if_neg h3] at hf
    refine lv_aload_n K.1 K.2.1 dX11_can_47 rfl (lv_at hl 0 rfl) ?_
    refine lv_iload K.1 K.2.1 dX11_can_48 (lv_at hl 2 rfl) ?_
    refine lv_aload_n K.1 K.2.1 dX11_can_50 rfl (lv_at hl 0 rfl) ?_
    refine lv_iload_n K.1 K.2.1 dX11_can_51 rfl (lv_at hl 1 rfl) ?_
    refine lv_iload K.1 K.2.1 dX11_can_52 (lv_at hl 3 rfl) ?_
    obtain ⟨v4, ev4, hf⟩ := Option.bind_eq_some_iff.mp hf
    obtain ⟨q5, eq5⟩ := ah_this ev4
    refine ah_callV (As := [.int x2, .int x5]) (rest := [.int x4, .ref a0]) K hG hL hl.1 eq5 rfl (ctX11_first l H0 D ca M z a0 x2 x5 v4 ev4) hdX11_first q_1103 q_1105 q_54 q_1106 q_36 ⟨Nat.le_of_ble_eq_true rfl, Nat.le_of_ble_eq_true rfl⟩ rfl rfl (Nat.le_of_ble_eq_true rfl) ⟨Nat.le_refl _, Nat.le_refl _⟩ dX11_can_54 (fun H locs hG hL => ?_)
    refine lv_aload_n K.1 K.2.1 dX11_can_57 rfl (lv_at hl 0 rfl) ?_
    refine lv_iload_n K.1 K.2.1 dX11_can_58 rfl (lv_at hl 1 rfl) ?_
    refine lv_iload K.1 K.2.1 dX11_can_59 (lv_at hl 3 rfl) ?_
    obtain ⟨v6, ev6, hf⟩ := Option.bind_eq_some_iff.mp hf
    obtain ⟨q7, eq7⟩ := ah_this ev6
    refine ah_callV (As := [.int x2, .int x5]) (rest := [.int v4, .int x4, .ref a0]) K hG hL hl.1 eq7 rfl (ctX11_second l H0 D ca M z a0 x2 x5 v6 ev6) hdX11_second q_1107 q_1109 q_54 q_1110 q_37 ⟨Nat.le_of_ble_eq_true rfl, Nat.le_of_ble_eq_true rfl⟩ rfl rfl (Nat.le_of_ble_eq_true rfl) ⟨Nat.le_refl _, Nat.le_refl _⟩ dX11_can_61 (fun H locs hG hL => ?_)
    obtain ⟨v8, ev8, hf⟩ := Option.bind_eq_some_iff.mp hf
    obtain ⟨q9, eq9⟩ := ah_this ev8
    refine ah_callV (As := [.int x4, .int v4, .int v6]) (rest := []) K hG hL hl.1 eq9 rfl (ctX11_mayBe l H0 D ca M z a0 x4 v4 v6 v8 ev8) hdX11_mayBe q_1119 q_1121 q_54 q_1122 q_39 ⟨Nat.le_of_ble_eq_true rfl, Nat.le_of_ble_eq_true rfl⟩ rfl rfl (Nat.le_of_ble_eq_true rfl) ⟨Nat.le_refl _, Nat.le_refl _⟩ dX11_can_64 (fun H locs hG hL => ?_)
    refine lv_istore (lv' := [(4, .int v8), (0, .ref a0), (2, .int x2), (5, .int x5)]) K.1 K.2.1 dX11_can_67 hl (by decide) rfl (fun ls hl => ?_)
    refine lv_iinc (v := x5 + 1) (lv' := [(5, .int (x5 + 1)), (4, .int v8), (0, .ref a0), (2, .int x2)]) K.1 K.2.1 dX11_can_69 hl (k := 3) rfl rfl (by decide) rfl (fun ls hl => ?_)
    refine lv_goto (tgt := 37) K.1 K.2.1 dX11_can_72 (by decide) ?_
    exact hk37 a0 x2 v8 (x5 + 1) _ _ _ hG hL (lv_sub hl [2, 3, 1, 0] rfl) _ hf
theorem wX11_can_37 {p : Program} {l : Launch} {e : Env} {s : State} {m : MethodId} {args : Array Value} {below : List Frame} {meth : Method} {c : Code} {D : va_G} {ca : Nat → ClassId} {H0 : Heap} {M : ah_h} {z : Nat} (K : ah_K p s m args meth c D ca "ShipsThatMeetModel" cX11_can 6 (some .int))   (n : Nat) : ∀ (a0 : Nat) (x2 : Int32) (x4 : Int32) (x5 : Int32)  (H : Heap) (locs : List Loc) (ls : Array Slot), ah_g H0 D ca M z H → ah_L H0 locs → lv_has ls 6 [(0, .ref a0), (2, .int x2), (4, .int x4), (5, .int x5)] → ∀ Z, fX11_can_37   M n a0 x2 x4 x5 = some Z → W p l e { frames := 4, cells := 0, slots := 0, locals := 92 } s m args below meth c H locs 0 0 (ah_Q below args s H0 D ca 0 0 (some (.int Z)) M z) (F0 m 37 ls []) := by
  induction n with
  | zero => intro a0 x2 x4 x5 H locs ls hG hL hl Z hf; cases hf
  | succ n ih => exact wX11_can_37_b K  _ ih
def fX11_can_17   (M : ah_h) (a0 : Nat) (x1 : Int32) (x2 : Int32) (s0 : Int32) : Option (Int32) := if s0 = 0 then ((fX11_get M a0 x1 0).bind fun v2 => fX11_can_37 M ah_fu a0 x2 ((1 : Int32) <<< (v2 &&& 31)) 0) else (some s0)
set_option maxRecDepth 100000 in
set_option maxHeartbeats 4000000 in
theorem wX11_can_17 {p : Program} {l : Launch} {e : Env} {s : State} {m : MethodId} {args : Array Value} {below : List Frame} {meth : Method} {c : Code} {D : va_G} {ca : Nat → ClassId} {H0 : Heap} {M : ah_h} {z : Nat} (K : ah_K p s m args meth c D ca "ShipsThatMeetModel" cX11_can 6 (some .int))   : ∀ (a0 : Nat) (x1 : Int32) (x2 : Int32) (s0 : Int32)  (H : Heap) (locs : List Loc) (ls : Array Slot), ah_g H0 D ca M z H → ah_L H0 locs → lv_has ls 6 [(0, .ref a0), (1, .int x1), (2, .int x2)] → ∀ Z, fX11_can_17   M a0 x1 x2 s0 = some Z → W p l e { frames := 4, cells := 0, slots := 0, locals := 92 } s m args below meth c H locs 0 0 (ah_Q below args s H0 D ca 0 0 (some (.int Z)) M z) (F0 m 17 ls [.int s0]) := by
  intro a0 x1 x2 s0 H locs ls hG hL hl Z hf
  unfold fX11_can_17 at hf
  refine lv_istore_n (lv' := [(3, .int s0), (0, .ref a0), (1, .int x1), (2, .int x2)]) K.1 K.2.1 dX11_can_17 rfl hl (by decide) rfl (fun ls hl => ?_)
  refine lv_iload_n K.1 K.2.1 dX11_can_18 rfl (lv_at hl 0 rfl) ?_
  refine lv_if_eq (tgt := 24) K.1 K.2.1 dX11_can_19 (by decide) (fun h1 => ?_) (fun h1 => ?_)
  · rw [if_pos h1] at hf
    refine lv_iconst (v := 1) K.1 K.2.1 dX11_can_24 (by decide) ?_
    refine lv_aload_n K.1 K.2.1 dX11_can_25 rfl (lv_at hl 1 rfl) ?_
    refine lv_iload_n K.1 K.2.1 dX11_can_26 rfl (lv_at hl 2 rfl) ?_
    refine lv_iconst (v := 0) K.1 K.2.1 dX11_can_27 (by decide) ?_
    obtain ⟨v2, ev2, hf⟩ := Option.bind_eq_some_iff.mp hf
    obtain ⟨q3, eq3⟩ := ah_this ev2
    refine ah_callV (As := [.int x1, .int 0]) (rest := [.int 1]) K hG hL hl.1 eq3 rfl (ctX11_get l H0 D ca M z a0 x1 0 v2 ev2) hdX11_get q_1012 q_1014 q_54 q_1015 q_20 ⟨Nat.le_of_ble_eq_true rfl, Nat.le_of_ble_eq_true rfl⟩ rfl rfl (Nat.le_of_ble_eq_true rfl) ⟨Nat.le_refl _, Nat.le_refl _⟩ dX11_can_28 (fun H locs hG hL => ?_)
    refine lv_ishl K.1 K.2.1 dX11_can_31 ?_
    refine lv_istore (lv' := [(4, .int ((1 : Int32) <<< (v2 &&& 31))), (3, .int s0), (0, .ref a0), (1, .int x1), (2, .int x2)]) K.1 K.2.1 dX11_can_32 hl (by decide) rfl (fun ls hl => ?_)
    refine lv_iconst (v := 0) K.1 K.2.1 dX11_can_34 (by decide) ?_
    refine lv_istore (lv' := [(5, .int 0), (4, .int ((1 : Int32) <<< (v2 &&& 31))), (3, .int s0), (0, .ref a0), (1, .int x1), (2, .int x2)]) K.1 K.2.1 dX11_can_35 hl (by decide) rfl (fun ls hl => ?_)
    exact wX11_can_37 K  ah_fu a0 x2 ((1 : Int32) <<< (v2 &&& 31)) 0 _ _ _ hG hL (lv_sub hl [3, 5, 1, 0] rfl) _ hf
  · rw [if_neg h1] at hf
    refine lv_iload_n K.1 K.2.1 dX11_can_22 rfl (lv_at hl 0 rfl) ?_
    have hf := Option.some.inj hf
    subst hf
    exact ah_iret K hG hL (Nat.le_refl _) (Nat.le_refl _) dX11_can_23
def fX11_can (M : ah_h) (a0 : Nat) (x1 : Int32) (x2 : Int32) : Option (Int32) := (ah_ob M a0 11).bind fun _ => (fX11_isMan M a0 x1).bind fun v1 => if v1 = 0 then (fX11_can_17 M a0 x1 x2 (-1)) else ((fX11_wrongMeetings M a0 x2).bind fun v4 => fX11_can_17 M a0 x1 x2 v4)
set_option maxRecDepth 100000 in
set_option maxHeartbeats 4000000 in
theorem ctX11_can (l : Launch) (H0 : Heap) (D : va_G) (ca : Nat → ClassId) (M : ah_h) (z : Nat) (a0 : Nat) (x1 : Int32) (x2 : Int32) (Z : Int32) (hf : fX11_can M a0 x1 x2 = some Z) : ah_ct l H0 D ca yX11_can cX11_can 6 (some .int) 4 92 0 0 [.ref a0, .int x1, .int x2] M z (some (.int Z)) M z := by
  refine ah_of (by decide) (Nat.le_of_ble_eq_true rfl) ?_
  intro p e s m below meth c ls hin K hG hl
  have hL : ah_L H0 [] := ah_L.nil
  have hl : lv_has ls 6 [(0, .ref a0), (1, .int x1), (2, .int x2)] := hl
  unfold fX11_can at hf
  obtain ⟨-, -, hf⟩ := Option.bind_eq_some_iff.mp hf
  refine lv_aload_n K.1 K.2.1 dX11_can_0 rfl (lv_at hl 0 rfl) ?_
  refine lv_iload_n K.1 K.2.1 dX11_can_1 rfl (lv_at hl 1 rfl) ?_
  obtain ⟨v1, ev1, hf⟩ := Option.bind_eq_some_iff.mp hf
  obtain ⟨q2, eq2⟩ := ah_this ev1
  refine ah_callV (As := [.int x1]) (rest := []) K hG hL hl.1 eq2 rfl (ctX11_isMan l H0 D ca M z a0 x1 v1 ev1) hdX11_isMan q_1066 q_1068 q_54 q_1069 q_30 ⟨Nat.le_of_ble_eq_true rfl, Nat.le_of_ble_eq_true rfl⟩ rfl rfl (Nat.le_of_ble_eq_true rfl) ⟨Nat.le_refl _, Nat.le_refl _⟩ dX11_can_2 (fun H locs hG hL => ?_)
  refine lv_if_eq (tgt := 16) K.1 K.2.1 dX11_can_5 (by decide) (fun h3 => ?_) (fun h3 => ?_)
  · rw [if_pos h3] at hf
    refine lv_iconst (v := (-1)) K.1 K.2.1 dX11_can_16 (by decide) ?_
    exact wX11_can_17 K  a0 x1 x2 (-1) _ _ _ hG hL (lv_sub hl [0, 1, 2] rfl) _ hf
  · rw [if_neg h3] at hf
    refine lv_aload_n K.1 K.2.1 dX11_can_8 rfl (lv_at hl 0 rfl) ?_
    refine lv_iload_n K.1 K.2.1 dX11_can_9 rfl (lv_at hl 2 rfl) ?_
    obtain ⟨v4, ev4, hf⟩ := Option.bind_eq_some_iff.mp hf
    obtain ⟨q5, eq5⟩ := ah_this ev4
    refine ah_callV (As := [.int x2]) (rest := []) K hG hL hl.1 eq5 rfl (ctX11_wrongMeetings l H0 D ca M z a0 x2 v4 ev4) hdX11_wrongMeetings q_1087 q_1089 q_54 q_1090 q_32 ⟨Nat.le_of_ble_eq_true rfl, Nat.le_of_ble_eq_true rfl⟩ rfl rfl (Nat.le_of_ble_eq_true rfl) ⟨Nat.le_refl _, Nat.le_refl _⟩ dX11_can_10 (fun H locs hG hL => ?_)
    refine lv_goto (tgt := 17) K.1 K.2.1 dX11_can_13 (by decide) ?_
    exact wX11_can_17 K  a0 x1 x2 v4 _ _ _ hG hL (lv_sub hl [0, 1, 2] rfl) _ hf
def fX11_soonest_103  (k48 : Nat → Int32 → Int32 → Int32 → Int32 → Option (Int32)) (M : ah_h) (a0 : Nat) (x2 : Int32) (x3 : Int32) (x5 : Int32) (x6 : Int32) : Option (Int32) := k48 a0 x2 x3 x5 (x6 + 1)
set_option maxRecDepth 100000 in
set_option maxHeartbeats 4000000 in
theorem wX11_soonest_103 {p : Program} {l : Launch} {e : Env} {s : State} {m : MethodId} {args : Array Value} {below : List Frame} {meth : Method} {c : Code} {D : va_G} {ca : Nat → ClassId} {H0 : Heap} {M : ah_h} {z : Nat} (K : ah_K p s m args meth c D ca "ShipsThatMeetModel" cX11_soonest 7 (some .int))  (k48 : Nat → Int32 → Int32 → Int32 → Int32 → Option (Int32)) (hk48 : ∀ (a0 : Nat) (x2 : Int32) (x3 : Int32) (x5 : Int32) (x6 : Int32)  (H : Heap) (locs : List Loc) (ls : Array Slot), ah_g H0 D ca M z H → ah_L H0 locs → lv_has ls 7 [(0, .ref a0), (2, .int x2), (3, .int x3), (5, .int x5), (6, .int x6)] → ∀ Z, k48 a0 x2 x3 x5 x6 = some Z → W p l e { frames := 4, cells := 0, slots := 0, locals := 92 } s m args below meth c H locs 0 0 (ah_Q below args s H0 D ca 0 0 (some (.int Z)) M z) (F0 m 48 ls [])) : ∀ (a0 : Nat) (x2 : Int32) (x3 : Int32) (x5 : Int32) (x6 : Int32)  (H : Heap) (locs : List Loc) (ls : Array Slot), ah_g H0 D ca M z H → ah_L H0 locs → lv_has ls 7 [(0, .ref a0), (2, .int x2), (3, .int x3), (5, .int x5), (6, .int x6)] → ∀ Z, fX11_soonest_103  k48 M a0 x2 x3 x5 x6 = some Z → W p l e { frames := 4, cells := 0, slots := 0, locals := 92 } s m args below meth c H locs 0 0 (ah_Q below args s H0 D ca 0 0 (some (.int Z)) M z) (F0 m 103 ls []) := by
  intro a0 x2 x3 x5 x6 H locs ls hG hL hl Z hf
  unfold fX11_soonest_103 at hf
  refine lv_iinc (v := x6 + 1) (lv' := [(6, .int (x6 + 1)), (0, .ref a0), (2, .int x2), (3, .int x3), (5, .int x5)]) K.1 K.2.1 dX11_soonest_103 hl (k := 4) rfl rfl (by decide) rfl (fun ls hl => ?_)
  refine lv_goto (tgt := 48) K.1 K.2.1 dX11_soonest_106 (by decide) ?_
  exact hk48 a0 x2 x3 x5 (x6 + 1) _ _ _ hG hL (lv_sub hl [1, 2, 3, 4, 0] rfl) _ hf
def fX11_soonest_48_b   (k48 : Nat → Int32 → Int32 → Int32 → Int32 → Option (Int32)) (M : ah_h) (a0 : Nat) (x2 : Int32) (x3 : Int32) (x5 : Int32) (x6 : Int32) : Option (Int32) := (fX11_meetings M a0 x3).bind fun v1 => if v1 < x6 then (some (-4)) else (if ((x5 >>> (x2 &&& 31)) &&& 1) = 1 then (some x6) else ((fX11_meetings M a0 x3).bind fun v5 => if v5 ≤ x6 then (fX11_soonest_103 k48 M a0 x2 x3 x5 x6) else ((fX11_first M a0 x3 x6).bind fun v8 => (fX11_second M a0 x3 x6).bind fun v10 => (fX11_mayBe M a0 x5 v8 v10).bind fun v12 => fX11_soonest_103 k48 M a0 x2 x3 v12 x6)))
def fX11_soonest_48   (M : ah_h) : Nat → Nat → Int32 → Int32 → Int32 → Int32 → Option (Int32)
  | 0 => fun _ _ _ _ _ => none
  | n + 1 => fun a0 x2 x3 x5 x6 => fX11_soonest_48_b   (fX11_soonest_48   M n) M a0 x2 x3 x5 x6
set_option maxRecDepth 100000 in
set_option maxHeartbeats 4000000 in
theorem wX11_soonest_48_b {p : Program} {l : Launch} {e : Env} {s : State} {m : MethodId} {args : Array Value} {below : List Frame} {meth : Method} {c : Code} {D : va_G} {ca : Nat → ClassId} {H0 : Heap} {M : ah_h} {z : Nat} (K : ah_K p s m args meth c D ca "ShipsThatMeetModel" cX11_soonest 7 (some .int))   (k48 : Nat → Int32 → Int32 → Int32 → Int32 → Option (Int32)) (hk48 : ∀ (a0 : Nat) (x2 : Int32) (x3 : Int32) (x5 : Int32) (x6 : Int32)  (H : Heap) (locs : List Loc) (ls : Array Slot), ah_g H0 D ca M z H → ah_L H0 locs → lv_has ls 7 [(0, .ref a0), (2, .int x2), (3, .int x3), (5, .int x5), (6, .int x6)] → ∀ Z, k48 a0 x2 x3 x5 x6 = some Z → W p l e { frames := 4, cells := 0, slots := 0, locals := 92 } s m args below meth c H locs 0 0 (ah_Q below args s H0 D ca 0 0 (some (.int Z)) M z) (F0 m 48 ls [])) : ∀ (a0 : Nat) (x2 : Int32) (x3 : Int32) (x5 : Int32) (x6 : Int32)  (H : Heap) (locs : List Loc) (ls : Array Slot), ah_g H0 D ca M z H → ah_L H0 locs → lv_has ls 7 [(0, .ref a0), (2, .int x2), (3, .int x3), (5, .int x5), (6, .int x6)] → ∀ Z, fX11_soonest_48_b   k48 M a0 x2 x3 x5 x6 = some Z → W p l e { frames := 4, cells := 0, slots := 0, locals := 92 } s m args below meth c H locs 0 0 (ah_Q below args s H0 D ca 0 0 (some (.int Z)) M z) (F0 m 48 ls []) := by
  intro a0 x2 x3 x5 x6 H locs ls hG hL hl Z hf
  unfold fX11_soonest_48_b at hf
  refine lv_iload K.1 K.2.1 dX11_soonest_48 (lv_at hl 4 rfl) ?_
  refine lv_aload_n K.1 K.2.1 dX11_soonest_50 rfl (lv_at hl 0 rfl) ?_
  refine lv_iload_n K.1 K.2.1 dX11_soonest_51 rfl (lv_at hl 2 rfl) ?_
  obtain ⟨v1, ev1, hf⟩ := Option.bind_eq_some_iff.mp hf
  obtain ⟨q2, eq2⟩ := ah_this ev1
  refine ah_callV (As := [.int x3]) (rest := [.int x6]) K hG hL hl.1 eq2 rfl (ctX11_meetings l H0 D ca M z a0 x3 v1 ev1) hdX11_meetings q_1095 q_1097 q_54 q_1098 q_34 ⟨Nat.le_of_ble_eq_true rfl, Nat.le_of_ble_eq_true rfl⟩ rfl rfl (Nat.le_of_ble_eq_true rfl) ⟨Nat.le_refl _, Nat.le_refl _⟩ dX11_soonest_52 (fun H locs hG hL => ?_)
  refine lv_icmp_gt (tgt := 109) K.1 K.2.1 dX11_soonest_55 (by decide) (fun h3 => ?_) (fun h3 => ?_)
  · rw [if_pos h3] at hf
    refine lv_bipush (v := (-4)) K.1 K.2.1 dX11_soonest_109 (by decide) ?_
    have hf := Option.some.inj hf
    subst hf
    exact ah_iret K hG hL (Nat.le_refl _) (Nat.le_refl _) dX11_soonest_111
  · rw [if_neg h3] at hf
    refine lv_iload K.1 K.2.1 dX11_soonest_58 (lv_at hl 3 rfl) ?_
    refine lv_iload_n K.1 K.2.1 dX11_soonest_60 rfl (lv_at hl 1 rfl) ?_
    refine lv_ishr K.1 K.2.1 dX11_soonest_61 ?_
    refine lv_iconst (v := 1) K.1 K.2.1 dX11_soonest_62 (by decide) ?_
    refine lv_iand K.1 K.2.1 dX11_soonest_63 ?_
    refine lv_iconst (v := 1) K.1 K.2.1 dX11_soonest_64 (by decide) ?_
    refine lv_icmp_ne (tgt := 71) K.1 K.2.1 dX11_soonest_65 (by decide) (fun h4 => ?_) (fun h4 => ?_)
    · rw [if_neg h4] at hf
      refine lv_iload K.1 K.2.1 dX11_soonest_71 (lv_at hl 4 rfl) ?_
      refine lv_aload_n K.1 K.2.1 dX11_soonest_73 rfl (lv_at hl 0 rfl) ?_
      refine lv_iload_n K.1 K.2.1 dX11_soonest_74 rfl (lv_at hl 2 rfl) ?_
      obtain ⟨v5, ev5, hf⟩ := Option.bind_eq_some_iff.mp hf
      obtain ⟨q6, eq6⟩ := ah_this ev5
      refine ah_callV (As := [.int x3]) (rest := [.int x6]) K hG hL hl.1 eq6 rfl (ctX11_meetings l H0 D ca M z a0 x3 v5 ev5) hdX11_meetings q_1095 q_1097 q_54 q_1098 q_34 ⟨Nat.le_of_ble_eq_true rfl, Nat.le_of_ble_eq_true rfl⟩ rfl rfl (Nat.le_of_ble_eq_true rfl) ⟨Nat.le_refl _, Nat.le_refl _⟩ dX11_soonest_75 (fun H locs hG hL => ?_)
      refine lv_icmp_ge (tgt := 103) K.1 K.2.1 dX11_soonest_78 (by decide) (fun h7 => ?_) (fun h7 => ?_)
      · rw [if_pos h7] at hf
        exact wX11_soonest_103 K k48 hk48 a0 x2 x3 x5 x6 _ _ _ hG hL (lv_sub hl [0, 1, 2, 3, 4] rfl) _ hf
      · rw [if_neg h7] at hf
        refine lv_aload_n K.1 K.2.1 dX11_soonest_81 rfl (lv_at hl 0 rfl) ?_
        refine lv_iload K.1 K.2.1 dX11_soonest_82 (lv_at hl 3 rfl) ?_
        refine lv_aload_n K.1 K.2.1 dX11_soonest_84 rfl (lv_at hl 0 rfl) ?_
        refine lv_iload_n K.1 K.2.1 dX11_soonest_85 rfl (lv_at hl 2 rfl) ?_
        refine lv_iload K.1 K.2.1 dX11_soonest_86 (lv_at hl 4 rfl) ?_
        obtain ⟨v8, ev8, hf⟩ := Option.bind_eq_some_iff.mp hf
        obtain ⟨q9, eq9⟩ := ah_this ev8
        refine ah_callV (As := [.int x3, .int x6]) (rest := [.int x5, .ref a0]) K hG hL hl.1 eq9 rfl (ctX11_first l H0 D ca M z a0 x3 x6 v8 ev8) hdX11_first q_1103 q_1105 q_54 q_1106 q_36 ⟨Nat.le_of_ble_eq_true rfl, Nat.le_of_ble_eq_true rfl⟩ rfl rfl (Nat.le_of_ble_eq_true rfl) ⟨Nat.le_refl _, Nat.le_refl _⟩ dX11_soonest_88 (fun H locs hG hL => ?_)
        refine lv_aload_n K.1 K.2.1 dX11_soonest_91 rfl (lv_at hl 0 rfl) ?_
        refine lv_iload_n K.1 K.2.1 dX11_soonest_92 rfl (lv_at hl 2 rfl) ?_
        refine lv_iload K.1 K.2.1 dX11_soonest_93 (lv_at hl 4 rfl) ?_
        obtain ⟨v10, ev10, hf⟩ := Option.bind_eq_some_iff.mp hf
        obtain ⟨q11, eq11⟩ := ah_this ev10
        refine ah_callV (As := [.int x3, .int x6]) (rest := [.int v8, .int x5, .ref a0]) K hG hL hl.1 eq11 rfl (ctX11_second l H0 D ca M z a0 x3 x6 v10 ev10) hdX11_second q_1107 q_1109 q_54 q_1110 q_37 ⟨Nat.le_of_ble_eq_true rfl, Nat.le_of_ble_eq_true rfl⟩ rfl rfl (Nat.le_of_ble_eq_true rfl) ⟨Nat.le_refl _, Nat.le_refl _⟩ dX11_soonest_95 (fun H locs hG hL => ?_)
        obtain ⟨v12, ev12, hf⟩ := Option.bind_eq_some_iff.mp hf
        obtain ⟨q13, eq13⟩ := ah_this ev12
        refine ah_callV (As := [.int x5, .int v8, .int v10]) (rest := []) K hG hL hl.1 eq13 rfl (ctX11_mayBe l H0 D ca M z a0 x5 v8 v10 v12 ev12) hdX11_mayBe q_1119 q_1121 q_54 q_1122 q_39 ⟨Nat.le_of_ble_eq_true rfl, Nat.le_of_ble_eq_true rfl⟩ rfl rfl (Nat.le_of_ble_eq_true rfl) ⟨Nat.le_refl _, Nat.le_refl _⟩ dX11_soonest_98 (fun H locs hG hL => ?_)
        refine lv_istore (lv' := [(5, .int v12), (0, .ref a0), (2, .int x2), (3, .int x3), (6, .int x6)]) K.1 K.2.1 dX11_soonest_101 hl (by decide) rfl (fun ls hl => ?_)
        exact wX11_soonest_103 K k48 hk48 a0 x2 x3 v12 x6 _ _ _ hG hL (lv_sub hl [1, 2, 3, 0, 4] rfl) _ hf
    · rw [if_pos h4] at hf
      refine lv_iload K.1 K.2.1 dX11_soonest_68 (lv_at hl 4 rfl) ?_
      have hf := Option.some.inj hf
      subst hf
      exact ah_iret K hG hL (Nat.le_refl _) (Nat.le_refl _) dX11_soonest_70
theorem wX11_soonest_48 {p : Program} {l : Launch} {e : Env} {s : State} {m : MethodId} {args : Array Value} {below : List Frame} {meth : Method} {c : Code} {D : va_G} {ca : Nat → ClassId} {H0 : Heap} {M : ah_h} {z : Nat} (K : ah_K p s m args meth c D ca "ShipsThatMeetModel" cX11_soonest 7 (some .int))   (n : Nat) : ∀ (a0 : Nat) (x2 : Int32) (x3 : Int32) (x5 : Int32) (x6 : Int32)  (H : Heap) (locs : List Loc) (ls : Array Slot), ah_g H0 D ca M z H → ah_L H0 locs → lv_has ls 7 [(0, .ref a0), (2, .int x2), (3, .int x3), (5, .int x5), (6, .int x6)] → ∀ Z, fX11_soonest_48   M n a0 x2 x3 x5 x6 = some Z → W p l e { frames := 4, cells := 0, slots := 0, locals := 92 } s m args below meth c H locs 0 0 (ah_Q below args s H0 D ca 0 0 (some (.int Z)) M z) (F0 m 48 ls []) := by
  induction n with
  | zero => intro a0 x2 x3 x5 x6 H locs ls hG hL hl Z hf; cases hf
  | succ n ih => exact wX11_soonest_48_b K  _ ih
def fX11_soonest_25   (M : ah_h) (a0 : Nat) (x1 : Int32) (x2 : Int32) (x3 : Int32) (s0 : Int32) : Option (Int32) := if s0 = 0 then ((fX11_get M a0 x1 0).bind fun v2 => fX11_soonest_48 M ah_fu a0 x2 x3 ((1 : Int32) <<< (v2 &&& 31)) 0) else (some s0)
set_option maxRecDepth 100000 in
set_option maxHeartbeats 4000000 in
theorem wX11_soonest_25 {p : Program} {l : Launch} {e : Env} {s : State} {m : MethodId} {args : Array Value} {below : List Frame} {meth : Method} {c : Code} {D : va_G} {ca : Nat → ClassId} {H0 : Heap} {M : ah_h} {z : Nat} (K : ah_K p s m args meth c D ca "ShipsThatMeetModel" cX11_soonest 7 (some .int))   : ∀ (a0 : Nat) (x1 : Int32) (x2 : Int32) (x3 : Int32) (s0 : Int32)  (H : Heap) (locs : List Loc) (ls : Array Slot), ah_g H0 D ca M z H → ah_L H0 locs → lv_has ls 7 [(0, .ref a0), (1, .int x1), (2, .int x2), (3, .int x3)] → ∀ Z, fX11_soonest_25   M a0 x1 x2 x3 s0 = some Z → W p l e { frames := 4, cells := 0, slots := 0, locals := 92 } s m args below meth c H locs 0 0 (ah_Q below args s H0 D ca 0 0 (some (.int Z)) M z) (F0 m 25 ls [.int s0]) := by
  intro a0 x1 x2 x3 s0 H locs ls hG hL hl Z hf
  unfold fX11_soonest_25 at hf
  refine lv_istore (lv' := [(4, .int s0), (0, .ref a0), (1, .int x1), (2, .int x2), (3, .int x3)]) K.1 K.2.1 dX11_soonest_25 hl (by decide) rfl (fun ls hl => ?_)
  refine lv_iload K.1 K.2.1 dX11_soonest_27 (lv_at hl 0 rfl) ?_
  refine lv_if_eq (tgt := 35) K.1 K.2.1 dX11_soonest_29 (by decide) (fun h1 => ?_) (fun h1 => ?_)
  · rw [if_pos h1] at hf
    refine lv_iconst (v := 1) K.1 K.2.1 dX11_soonest_35 (by decide) ?_
    refine lv_aload_n K.1 K.2.1 dX11_soonest_36 rfl (lv_at hl 1 rfl) ?_
    refine lv_iload_n K.1 K.2.1 dX11_soonest_37 rfl (lv_at hl 2 rfl) ?_
    refine lv_iconst (v := 0) K.1 K.2.1 dX11_soonest_38 (by decide) ?_
    obtain ⟨v2, ev2, hf⟩ := Option.bind_eq_some_iff.mp hf
    obtain ⟨q3, eq3⟩ := ah_this ev2
    refine ah_callV (As := [.int x1, .int 0]) (rest := [.int 1]) K hG hL hl.1 eq3 rfl (ctX11_get l H0 D ca M z a0 x1 0 v2 ev2) hdX11_get q_1012 q_1014 q_54 q_1015 q_20 ⟨Nat.le_of_ble_eq_true rfl, Nat.le_of_ble_eq_true rfl⟩ rfl rfl (Nat.le_of_ble_eq_true rfl) ⟨Nat.le_refl _, Nat.le_refl _⟩ dX11_soonest_39 (fun H locs hG hL => ?_)
    refine lv_ishl K.1 K.2.1 dX11_soonest_42 ?_
    refine lv_istore (lv' := [(5, .int ((1 : Int32) <<< (v2 &&& 31))), (4, .int s0), (0, .ref a0), (1, .int x1), (2, .int x2), (3, .int x3)]) K.1 K.2.1 dX11_soonest_43 hl (by decide) rfl (fun ls hl => ?_)
    refine lv_iconst (v := 0) K.1 K.2.1 dX11_soonest_45 (by decide) ?_
    refine lv_istore (lv' := [(6, .int 0), (5, .int ((1 : Int32) <<< (v2 &&& 31))), (4, .int s0), (0, .ref a0), (1, .int x1), (2, .int x2), (3, .int x3)]) K.1 K.2.1 dX11_soonest_46 hl (by decide) rfl (fun ls hl => ?_)
    exact wX11_soonest_48 K  ah_fu a0 x2 x3 ((1 : Int32) <<< (v2 &&& 31)) 0 _ _ _ hG hL (lv_sub hl [3, 5, 6, 1, 0] rfl) _ hf
  · rw [if_neg h1] at hf
    refine lv_iload K.1 K.2.1 dX11_soonest_32 (lv_at hl 0 rfl) ?_
    have hf := Option.some.inj hf
    subst hf
    exact ah_iret K hG hL (Nat.le_refl _) (Nat.le_refl _) dX11_soonest_34
def fX11_soonest_24   (M : ah_h) (a0 : Nat) (x1 : Int32) (x2 : Int32) (x3 : Int32) : Option (Int32) := fX11_soonest_25 M a0 x1 x2 x3 (-1)
set_option maxRecDepth 100000 in
set_option maxHeartbeats 4000000 in
theorem wX11_soonest_24 {p : Program} {l : Launch} {e : Env} {s : State} {m : MethodId} {args : Array Value} {below : List Frame} {meth : Method} {c : Code} {D : va_G} {ca : Nat → ClassId} {H0 : Heap} {M : ah_h} {z : Nat} (K : ah_K p s m args meth c D ca "ShipsThatMeetModel" cX11_soonest 7 (some .int))   : ∀ (a0 : Nat) (x1 : Int32) (x2 : Int32) (x3 : Int32)  (H : Heap) (locs : List Loc) (ls : Array Slot), ah_g H0 D ca M z H → ah_L H0 locs → lv_has ls 7 [(0, .ref a0), (1, .int x1), (2, .int x2), (3, .int x3)] → ∀ Z, fX11_soonest_24   M a0 x1 x2 x3 = some Z → W p l e { frames := 4, cells := 0, slots := 0, locals := 92 } s m args below meth c H locs 0 0 (ah_Q below args s H0 D ca 0 0 (some (.int Z)) M z) (F0 m 24 ls []) := by
  intro a0 x1 x2 x3 H locs ls hG hL hl Z hf
  unfold fX11_soonest_24 at hf
  refine lv_iconst (v := (-1)) K.1 K.2.1 dX11_soonest_24 (by decide) ?_
  exact wX11_soonest_25 K  a0 x1 x2 x3 (-1) _ _ _ hG hL (lv_sub hl [0, 1, 2, 3] rfl) _ hf
def fX11_soonest (M : ah_h) (a0 : Nat) (x1 : Int32) (x2 : Int32) (x3 : Int32) : Option (Int32) := (ah_ob M a0 11).bind fun _ => (fX11_isMan M a0 x1).bind fun v1 => if v1 = 0 then (fX11_soonest_24 M a0 x1 x2 x3) else ((fX11_isShip M a0 x2).bind fun v4 => if v4 = 0 then (fX11_soonest_24 M a0 x1 x2 x3) else ((fX11_wrongMeetings M a0 x3).bind fun v7 => fX11_soonest_25 M a0 x1 x2 x3 v7))
set_option maxRecDepth 100000 in
set_option maxHeartbeats 4000000 in
theorem ctX11_soonest (l : Launch) (H0 : Heap) (D : va_G) (ca : Nat → ClassId) (M : ah_h) (z : Nat) (a0 : Nat) (x1 : Int32) (x2 : Int32) (x3 : Int32) (Z : Int32) (hf : fX11_soonest M a0 x1 x2 x3 = some Z) : ah_ct l H0 D ca yX11_soonest cX11_soonest 7 (some .int) 4 92 0 0 [.ref a0, .int x1, .int x2, .int x3] M z (some (.int Z)) M z := by
  refine ah_of (by decide) (Nat.le_of_ble_eq_true rfl) ?_
  intro p e s m below meth c ls hin K hG hl
  have hL : ah_L H0 [] := ah_L.nil
  have hl : lv_has ls 7 [(0, .ref a0), (1, .int x1), (2, .int x2), (3, .int x3)] := hl
  unfold fX11_soonest at hf
  obtain ⟨-, -, hf⟩ := Option.bind_eq_some_iff.mp hf
  refine lv_aload_n K.1 K.2.1 dX11_soonest_0 rfl (lv_at hl 0 rfl) ?_
  refine lv_iload_n K.1 K.2.1 dX11_soonest_1 rfl (lv_at hl 1 rfl) ?_
  obtain ⟨v1, ev1, hf⟩ := Option.bind_eq_some_iff.mp hf
  obtain ⟨q2, eq2⟩ := ah_this ev1
  refine ah_callV (As := [.int x1]) (rest := []) K hG hL hl.1 eq2 rfl (ctX11_isMan l H0 D ca M z a0 x1 v1 ev1) hdX11_isMan q_1066 q_1068 q_54 q_1069 q_30 ⟨Nat.le_of_ble_eq_true rfl, Nat.le_of_ble_eq_true rfl⟩ rfl rfl (Nat.le_of_ble_eq_true rfl) ⟨Nat.le_refl _, Nat.le_refl _⟩ dX11_soonest_2 (fun H locs hG hL => ?_)
  refine lv_if_eq (tgt := 24) K.1 K.2.1 dX11_soonest_5 (by decide) (fun h3 => ?_) (fun h3 => ?_)
  · rw [if_pos h3] at hf
    exact wX11_soonest_24 K  a0 x1 x2 x3 _ _ _ hG hL (lv_sub hl [0, 1, 2, 3] rfl) _ hf
  · rw [if_neg h3] at hf
    refine lv_aload_n K.1 K.2.1 dX11_soonest_8 rfl (lv_at hl 0 rfl) ?_
    refine lv_iload_n K.1 K.2.1 dX11_soonest_9 rfl (lv_at hl 2 rfl) ?_
    obtain ⟨v4, ev4, hf⟩ := Option.bind_eq_some_iff.mp hf
    obtain ⟨q5, eq5⟩ := ah_this ev4
    refine ah_callV (As := [.int x2]) (rest := []) K hG hL hl.1 eq5 rfl (ctX11_isShip l H0 D ca M z a0 x2 v4 ev4) hdX11_isShip q_996 q_998 q_54 q_999 q_16 ⟨Nat.le_of_ble_eq_true rfl, Nat.le_of_ble_eq_true rfl⟩ rfl rfl (Nat.le_of_ble_eq_true rfl) ⟨Nat.le_refl _, Nat.le_refl _⟩ dX11_soonest_10 (fun H locs hG hL => ?_)
    refine lv_if_eq (tgt := 24) K.1 K.2.1 dX11_soonest_13 (by decide) (fun h6 => ?_) (fun h6 => ?_)
    · rw [if_pos h6] at hf
      exact wX11_soonest_24 K  a0 x1 x2 x3 _ _ _ hG hL (lv_sub hl [0, 1, 2, 3] rfl) _ hf
    · rw [if_neg h6] at hf
      refine lv_aload_n K.1 K.2.1 dX11_soonest_16 rfl (lv_at hl 0 rfl) ?_
      refine lv_iload_n K.1 K.2.1 dX11_soonest_17 rfl (lv_at hl 3 rfl) ?_
      obtain ⟨v7, ev7, hf⟩ := Option.bind_eq_some_iff.mp hf
      obtain ⟨q8, eq8⟩ := ah_this ev7
      refine ah_callV (As := [.int x3]) (rest := []) K hG hL hl.1 eq8 rfl (ctX11_wrongMeetings l H0 D ca M z a0 x3 v7 ev7) hdX11_wrongMeetings q_1087 q_1089 q_54 q_1090 q_32 ⟨Nat.le_of_ble_eq_true rfl, Nat.le_of_ble_eq_true rfl⟩ rfl rfl (Nat.le_of_ble_eq_true rfl) ⟨Nat.le_refl _, Nat.le_refl _⟩ dX11_soonest_18 (fun H locs hG hL => ?_)
      refine lv_goto (tgt := 25) K.1 K.2.1 dX11_soonest_21 (by decide) ?_
      exact wX11_soonest_25 K  a0 x1 x2 x3 v7 _ _ _ hG hL (lv_sub hl [0, 1, 2, 3] rfl) _ hf
def fX11_keeps_2_b   (k2 : ah_h → Nat → Int32 → Int32 → Option (ah_h))  (M : ah_h) (a0 : Nat) (x1 : Int32) (x2 : Int32) : Option (ah_h) := if 73 ≤ x2 then (some M) else ((ah_gr M a0 11 20).bind fun v2 => (ah_gr M a0 11 0).bind fun v3 => (ah_ai M v3 x2).bind fun v4 => (ah_si M v2 ((73 * x1) + x2) v4).bind fun M5 => k2 M5 a0 x1 (x2 + 1))
def fX11_keeps_2    : Nat → ah_h → Nat → Int32 → Int32 → Option (ah_h)
  | 0 => fun _ _ _ _ => none
  | n + 1 => fun M a0 x1 x2 => fX11_keeps_2_b   (fX11_keeps_2    n)  M a0 x1 x2
set_option maxRecDepth 100000 in
set_option maxHeartbeats 4000000 in
theorem wX11_keeps_2_b {p : Program} {l : Launch} {e : Env} {s : State} {m : MethodId} {args : Array Value} {below : List Frame} {meth : Method} {c : Code} {D : va_G} {ca : Nat → ClassId} {H0 : Heap} {z : Nat} (K : ah_K p s m args meth c D ca "ShipsThatMeetModel" cX11_keeps 3 none)   (k2 : ah_h → Nat → Int32 → Int32 → Option (ah_h)) (hk2 : ∀ (M : ah_h) (a0 : Nat) (x1 : Int32) (x2 : Int32)  (H : Heap) (locs : List Loc) (ls : Array Slot), ah_g H0 D ca M z H → ah_L H0 locs → lv_has ls 3 [(0, .ref a0), (1, .int x1), (2, .int x2)] → ∀ Z, k2 M a0 x1 x2 = some Z → W p l e { frames := 0, cells := 0, slots := 0, locals := 0 } s m args below meth c H locs 0 0 (ah_Q below args s H0 D ca 0 0 none Z z) (F0 m 2 ls [])) : ∀ (M : ah_h) (a0 : Nat) (x1 : Int32) (x2 : Int32)  (H : Heap) (locs : List Loc) (ls : Array Slot), ah_g H0 D ca M z H → ah_L H0 locs → lv_has ls 3 [(0, .ref a0), (1, .int x1), (2, .int x2)] → ∀ Z, fX11_keeps_2_b   k2  M a0 x1 x2 = some Z → W p l e { frames := 0, cells := 0, slots := 0, locals := 0 } s m args below meth c H locs 0 0 (ah_Q below args s H0 D ca 0 0 none Z z) (F0 m 2 ls []) := by
  intro M a0 x1 x2 H locs ls hG hL hl Z hf
  unfold fX11_keeps_2_b at hf
  refine lv_iload_n K.1 K.2.1 dX11_keeps_2 rfl (lv_at hl 2 rfl) ?_
  refine lv_bipush (v := 73) K.1 K.2.1 dX11_keeps_3 (by decide) ?_
  refine lv_icmp_ge (tgt := 31) K.1 K.2.1 dX11_keeps_5 (by decide) (fun h1 => ?_) (fun h1 => ?_)
  · rw [if_pos h1] at hf
    have hf := Option.some.inj hf
    subst hf
    exact ah_vret K hG hL (Nat.le_refl _) (Nat.le_refl _) dX11_keeps_31
  · rw [if_neg h1] at hf
    refine lv_aload_n K.1 K.2.1 dX11_keeps_8 rfl (lv_at hl 0 rfl) ?_
    obtain ⟨v2, ev2, hf⟩ := Option.bind_eq_some_iff.mp hf
    refine ah_getr K hG ev2 ffX11_47_11 dX11_keeps_9 ?_
    refine lv_bipush (v := 73) K.1 K.2.1 dX11_keeps_12 (by decide) ?_
    refine lv_iload_n K.1 K.2.1 dX11_keeps_14 rfl (lv_at hl 1 rfl) ?_
    refine lv_imul K.1 K.2.1 dX11_keeps_15 ?_
    refine lv_iload_n K.1 K.2.1 dX11_keeps_16 rfl (lv_at hl 2 rfl) ?_
    refine lv_iadd K.1 K.2.1 dX11_keeps_17 ?_
    refine lv_aload_n K.1 K.2.1 dX11_keeps_18 rfl (lv_at hl 0 rfl) ?_
    obtain ⟨v3, ev3, hf⟩ := Option.bind_eq_some_iff.mp hf
    refine ah_getr K hG ev3 ffX11_9_11 dX11_keeps_19 ?_
    refine lv_iload_n K.1 K.2.1 dX11_keeps_22 rfl (lv_at hl 2 rfl) ?_
    obtain ⟨v4, ev4, hf⟩ := Option.bind_eq_some_iff.mp hf
    refine ah_iald K hG ev4 dX11_keeps_23 ?_
    obtain ⟨M5, eM5, hf⟩ := Option.bind_eq_some_iff.mp hf
    refine ah_iast K hG hL eM5 dX11_keeps_24 (fun H locs hG hL => ?_)
    refine lv_iinc (v := x2 + 1) (lv' := [(2, .int (x2 + 1)), (0, .ref a0), (1, .int x1)]) K.1 K.2.1 dX11_keeps_25 hl (k := 2) rfl rfl (by decide) rfl (fun ls hl => ?_)
    refine lv_goto (tgt := 2) K.1 K.2.1 dX11_keeps_28 (by decide) ?_
    exact hk2 M5 a0 x1 (x2 + 1) _ _ _ hG hL (lv_sub hl [1, 2, 0] rfl) _ hf
theorem wX11_keeps_2 {p : Program} {l : Launch} {e : Env} {s : State} {m : MethodId} {args : Array Value} {below : List Frame} {meth : Method} {c : Code} {D : va_G} {ca : Nat → ClassId} {H0 : Heap} {z : Nat} (K : ah_K p s m args meth c D ca "ShipsThatMeetModel" cX11_keeps 3 none)   (n : Nat) : ∀ (M : ah_h) (a0 : Nat) (x1 : Int32) (x2 : Int32)  (H : Heap) (locs : List Loc) (ls : Array Slot), ah_g H0 D ca M z H → ah_L H0 locs → lv_has ls 3 [(0, .ref a0), (1, .int x1), (2, .int x2)] → ∀ Z, fX11_keeps_2    n M a0 x1 x2 = some Z → W p l e { frames := 0, cells := 0, slots := 0, locals := 0 } s m args below meth c H locs 0 0 (ah_Q below args s H0 D ca 0 0 none Z z) (F0 m 2 ls []) := by
  induction n with
  | zero => intro M a0 x1 x2 H locs ls hG hL hl Z hf; cases hf
  | succ n ih => exact wX11_keeps_2_b K  _ ih
def fX11_keeps (M : ah_h) (a0 : Nat) (x1 : Int32) : Option (ah_h) := (ah_ob M a0 11).bind fun _ => fX11_keeps_2 ah_fu M a0 x1 0
set_option maxRecDepth 100000 in
set_option maxHeartbeats 4000000 in
theorem ctX11_keeps (l : Launch) (H0 : Heap) (D : va_G) (ca : Nat → ClassId) (M : ah_h) (z : Nat) (a0 : Nat) (x1 : Int32) (Z : ah_h) (hf : fX11_keeps M a0 x1 = some Z) : ah_ct l H0 D ca yX11_keeps cX11_keeps 3 none 0 0 0 0 [.ref a0, .int x1] M z none Z z := by
  refine ah_of (by decide) (Nat.le_of_ble_eq_true rfl) ?_
  intro p e s m below meth c ls hin K hG hl
  have hL : ah_L H0 [] := ah_L.nil
  have hl : lv_has ls 3 [(0, .ref a0), (1, .int x1)] := hl
  unfold fX11_keeps at hf
  obtain ⟨-, -, hf⟩ := Option.bind_eq_some_iff.mp hf
  refine lv_iconst (v := 0) K.1 K.2.1 dX11_keeps_0 (by decide) ?_
  refine lv_istore_n (lv' := [(2, .int 0), (0, .ref a0), (1, .int x1)]) K.1 K.2.1 dX11_keeps_1 rfl hl (by decide) rfl (fun ls hl => ?_)
  exact wX11_keeps_2 K  ah_fu M a0 x1 0 _ _ _ hG hL (lv_sub hl [1, 2, 0] rfl) _ hf
def fX11_back_2_b   (k2 : ah_h → Nat → Int32 → Int32 → Option (ah_h))  (M : ah_h) (a0 : Nat) (x1 : Int32) (x2 : Int32) : Option (ah_h) := if 73 ≤ x2 then (some M) else ((ah_gr M a0 11 0).bind fun v2 => (ah_gr M a0 11 20).bind fun v3 => (ah_ai M v3 ((73 * x1) + x2)).bind fun v4 => (ah_si M v2 x2 v4).bind fun M5 => k2 M5 a0 x1 (x2 + 1))
def fX11_back_2    : Nat → ah_h → Nat → Int32 → Int32 → Option (ah_h)
  | 0 => fun _ _ _ _ => none
  | n + 1 => fun M a0 x1 x2 => fX11_back_2_b   (fX11_back_2    n)  M a0 x1 x2
set_option maxRecDepth 100000 in
set_option maxHeartbeats 4000000 in
theorem wX11_back_2_b {p : Program} {l : Launch} {e : Env} {s : State} {m : MethodId} {args : Array Value} {below : List Frame} {meth : Method} {c : Code} {D : va_G} {ca : Nat → ClassId} {H0 : Heap} {z : Nat} (K : ah_K p s m args meth c D ca "ShipsThatMeetModel" cX11_back 3 none)   (k2 : ah_h → Nat → Int32 → Int32 → Option (ah_h)) (hk2 : ∀ (M : ah_h) (a0 : Nat) (x1 : Int32) (x2 : Int32)  (H : Heap) (locs : List Loc) (ls : Array Slot), ah_g H0 D ca M z H → ah_L H0 locs → lv_has ls 3 [(0, .ref a0), (1, .int x1), (2, .int x2)] → ∀ Z, k2 M a0 x1 x2 = some Z → W p l e { frames := 0, cells := 0, slots := 0, locals := 0 } s m args below meth c H locs 0 0 (ah_Q below args s H0 D ca 0 0 none Z z) (F0 m 2 ls [])) : ∀ (M : ah_h) (a0 : Nat) (x1 : Int32) (x2 : Int32)  (H : Heap) (locs : List Loc) (ls : Array Slot), ah_g H0 D ca M z H → ah_L H0 locs → lv_has ls 3 [(0, .ref a0), (1, .int x1), (2, .int x2)] → ∀ Z, fX11_back_2_b   k2  M a0 x1 x2 = some Z → W p l e { frames := 0, cells := 0, slots := 0, locals := 0 } s m args below meth c H locs 0 0 (ah_Q below args s H0 D ca 0 0 none Z z) (F0 m 2 ls []) := by
  intro M a0 x1 x2 H locs ls hG hL hl Z hf
  unfold fX11_back_2_b at hf
  refine lv_iload_n K.1 K.2.1 dX11_back_2 rfl (lv_at hl 2 rfl) ?_
  refine lv_bipush (v := 73) K.1 K.2.1 dX11_back_3 (by decide) ?_
  refine lv_icmp_ge (tgt := 31) K.1 K.2.1 dX11_back_5 (by decide) (fun h1 => ?_) (fun h1 => ?_)
  · rw [if_pos h1] at hf
    have hf := Option.some.inj hf
    subst hf
    exact ah_vret K hG hL (Nat.le_refl _) (Nat.le_refl _) dX11_back_31
  · rw [if_neg h1] at hf
    refine lv_aload_n K.1 K.2.1 dX11_back_8 rfl (lv_at hl 0 rfl) ?_
    obtain ⟨v2, ev2, hf⟩ := Option.bind_eq_some_iff.mp hf
    refine ah_getr K hG ev2 ffX11_9_11 dX11_back_9 ?_
    refine lv_iload_n K.1 K.2.1 dX11_back_12 rfl (lv_at hl 2 rfl) ?_
    refine lv_aload_n K.1 K.2.1 dX11_back_13 rfl (lv_at hl 0 rfl) ?_
    obtain ⟨v3, ev3, hf⟩ := Option.bind_eq_some_iff.mp hf
    refine ah_getr K hG ev3 ffX11_47_11 dX11_back_14 ?_
    refine lv_bipush (v := 73) K.1 K.2.1 dX11_back_17 (by decide) ?_
    refine lv_iload_n K.1 K.2.1 dX11_back_19 rfl (lv_at hl 1 rfl) ?_
    refine lv_imul K.1 K.2.1 dX11_back_20 ?_
    refine lv_iload_n K.1 K.2.1 dX11_back_21 rfl (lv_at hl 2 rfl) ?_
    refine lv_iadd K.1 K.2.1 dX11_back_22 ?_
    obtain ⟨v4, ev4, hf⟩ := Option.bind_eq_some_iff.mp hf
    refine ah_iald K hG ev4 dX11_back_23 ?_
    obtain ⟨M5, eM5, hf⟩ := Option.bind_eq_some_iff.mp hf
    refine ah_iast K hG hL eM5 dX11_back_24 (fun H locs hG hL => ?_)
    refine lv_iinc (v := x2 + 1) (lv' := [(2, .int (x2 + 1)), (0, .ref a0), (1, .int x1)]) K.1 K.2.1 dX11_back_25 hl (k := 2) rfl rfl (by decide) rfl (fun ls hl => ?_)
    refine lv_goto (tgt := 2) K.1 K.2.1 dX11_back_28 (by decide) ?_
    exact hk2 M5 a0 x1 (x2 + 1) _ _ _ hG hL (lv_sub hl [1, 2, 0] rfl) _ hf
theorem wX11_back_2 {p : Program} {l : Launch} {e : Env} {s : State} {m : MethodId} {args : Array Value} {below : List Frame} {meth : Method} {c : Code} {D : va_G} {ca : Nat → ClassId} {H0 : Heap} {z : Nat} (K : ah_K p s m args meth c D ca "ShipsThatMeetModel" cX11_back 3 none)   (n : Nat) : ∀ (M : ah_h) (a0 : Nat) (x1 : Int32) (x2 : Int32)  (H : Heap) (locs : List Loc) (ls : Array Slot), ah_g H0 D ca M z H → ah_L H0 locs → lv_has ls 3 [(0, .ref a0), (1, .int x1), (2, .int x2)] → ∀ Z, fX11_back_2    n M a0 x1 x2 = some Z → W p l e { frames := 0, cells := 0, slots := 0, locals := 0 } s m args below meth c H locs 0 0 (ah_Q below args s H0 D ca 0 0 none Z z) (F0 m 2 ls []) := by
  induction n with
  | zero => intro M a0 x1 x2 H locs ls hG hL hl Z hf; cases hf
  | succ n ih => exact wX11_back_2_b K  _ ih
def fX11_back (M : ah_h) (a0 : Nat) (x1 : Int32) : Option (ah_h) := (ah_ob M a0 11).bind fun _ => fX11_back_2 ah_fu M a0 x1 0
set_option maxRecDepth 100000 in
set_option maxHeartbeats 4000000 in
theorem ctX11_back (l : Launch) (H0 : Heap) (D : va_G) (ca : Nat → ClassId) (M : ah_h) (z : Nat) (a0 : Nat) (x1 : Int32) (Z : ah_h) (hf : fX11_back M a0 x1 = some Z) : ah_ct l H0 D ca yX11_back cX11_back 3 none 0 0 0 0 [.ref a0, .int x1] M z none Z z := by
  refine ah_of (by decide) (Nat.le_of_ble_eq_true rfl) ?_
  intro p e s m below meth c ls hin K hG hl
  have hL : ah_L H0 [] := ah_L.nil
  have hl : lv_has ls 3 [(0, .ref a0), (1, .int x1)] := hl
  unfold fX11_back at hf
  obtain ⟨-, -, hf⟩ := Option.bind_eq_some_iff.mp hf
  refine lv_iconst (v := 0) K.1 K.2.1 dX11_back_0 (by decide) ?_
  refine lv_istore_n (lv' := [(2, .int 0), (0, .ref a0), (1, .int x1)]) K.1 K.2.1 dX11_back_1 rfl hl (by decide) rfl (fun ls hl => ?_)
  exact wX11_back_2 K  ah_fu M a0 x1 0 _ _ _ hG hL (lv_sub hl [1, 2, 0] rfl) _ hf
def fX11_isWanted_38  (k2 : Nat → Int32 → Option (Int32)) (M : ah_h) (a0 : Nat) (x1 : Int32) : Option (Int32) := k2 a0 (x1 + 1)
set_option maxRecDepth 100000 in
set_option maxHeartbeats 4000000 in
theorem wX11_isWanted_38 {p : Program} {l : Launch} {e : Env} {s : State} {m : MethodId} {args : Array Value} {below : List Frame} {meth : Method} {c : Code} {D : va_G} {ca : Nat → ClassId} {H0 : Heap} {M : ah_h} {z : Nat} (K : ah_K p s m args meth c D ca "ShipsThatMeetModel" cX11_isWanted 2 (some .boolean))  (k2 : Nat → Int32 → Option (Int32)) (hk2 : ∀ (a0 : Nat) (x1 : Int32)  (H : Heap) (locs : List Loc) (ls : Array Slot), ah_g H0 D ca M z H → ah_L H0 locs → lv_has ls 2 [(0, .ref a0), (1, .int x1)] → ∀ Z, k2 a0 x1 = some Z → W p l e { frames := 1, cells := 0, slots := 0, locals := 22 } s m args below meth c H locs 0 0 (ah_Q below args s H0 D ca 0 0 (some (.int Z)) M z) (F0 m 2 ls [])) : ∀ (a0 : Nat) (x1 : Int32)  (H : Heap) (locs : List Loc) (ls : Array Slot), ah_g H0 D ca M z H → ah_L H0 locs → lv_has ls 2 [(0, .ref a0), (1, .int x1)] → ∀ Z, fX11_isWanted_38  k2 M a0 x1 = some Z → W p l e { frames := 1, cells := 0, slots := 0, locals := 22 } s m args below meth c H locs 0 0 (ah_Q below args s H0 D ca 0 0 (some (.int Z)) M z) (F0 m 38 ls []) := by
  intro a0 x1 H locs ls hG hL hl Z hf
  unfold fX11_isWanted_38 at hf
  refine lv_iinc (v := x1 + 1) (lv' := [(1, .int (x1 + 1)), (0, .ref a0)]) K.1 K.2.1 dX11_isWanted_38 hl (k := 1) rfl rfl (by decide) rfl (fun ls hl => ?_)
  refine lv_goto (tgt := 2) K.1 K.2.1 dX11_isWanted_41 (by decide) ?_
  exact hk2 a0 (x1 + 1) _ _ _ hG hL (lv_sub hl [1, 0] rfl) _ hf
def fX11_isWanted_2_b   (k2 : Nat → Int32 → Option (Int32)) (M : ah_h) (a0 : Nat) (x1 : Int32) : Option (Int32) := (ah_gr M a0 11 0).bind fun v1 => (ah_ai M v1 1).bind fun v2 => if v2 ≤ x1 then (some 1) else ((ah_gr M a0 11 22).bind fun v4 => (ah_ai M v4 x1).bind fun v5 => if v5 < 0 then (fX11_isWanted_38 k2 M a0 x1) else ((fX11_get M a0 x1 0).bind fun v7 => (ah_gr M a0 11 22).bind fun v9 => (ah_ai M v9 x1).bind fun v10 => if v7 = v10 then (fX11_isWanted_38 k2 M a0 x1) else (some 0)))
def fX11_isWanted_2   (M : ah_h) : Nat → Nat → Int32 → Option (Int32)
  | 0 => fun _ _ => none
  | n + 1 => fun a0 x1 => fX11_isWanted_2_b   (fX11_isWanted_2   M n) M a0 x1
set_option maxRecDepth 100000 in
set_option maxHeartbeats 4000000 in
theorem wX11_isWanted_2_b {p : Program} {l : Launch} {e : Env} {s : State} {m : MethodId} {args : Array Value} {below : List Frame} {meth : Method} {c : Code} {D : va_G} {ca : Nat → ClassId} {H0 : Heap} {M : ah_h} {z : Nat} (K : ah_K p s m args meth c D ca "ShipsThatMeetModel" cX11_isWanted 2 (some .boolean))   (k2 : Nat → Int32 → Option (Int32)) (hk2 : ∀ (a0 : Nat) (x1 : Int32)  (H : Heap) (locs : List Loc) (ls : Array Slot), ah_g H0 D ca M z H → ah_L H0 locs → lv_has ls 2 [(0, .ref a0), (1, .int x1)] → ∀ Z, k2 a0 x1 = some Z → W p l e { frames := 1, cells := 0, slots := 0, locals := 22 } s m args below meth c H locs 0 0 (ah_Q below args s H0 D ca 0 0 (some (.int Z)) M z) (F0 m 2 ls [])) : ∀ (a0 : Nat) (x1 : Int32)  (H : Heap) (locs : List Loc) (ls : Array Slot), ah_g H0 D ca M z H → ah_L H0 locs → lv_has ls 2 [(0, .ref a0), (1, .int x1)] → ∀ Z, fX11_isWanted_2_b   k2 M a0 x1 = some Z → W p l e { frames := 1, cells := 0, slots := 0, locals := 22 } s m args below meth c H locs 0 0 (ah_Q below args s H0 D ca 0 0 (some (.int Z)) M z) (F0 m 2 ls []) := by
  intro a0 x1 H locs ls hG hL hl Z hf
  unfold fX11_isWanted_2_b at hf
  refine lv_iload_n K.1 K.2.1 dX11_isWanted_2 rfl (lv_at hl 1 rfl) ?_
  refine lv_aload_n K.1 K.2.1 dX11_isWanted_3 rfl (lv_at hl 0 rfl) ?_
  obtain ⟨v1, ev1, hf⟩ := Option.bind_eq_some_iff.mp hf
  refine ah_getr K hG ev1 ffX11_9_11 dX11_isWanted_4 ?_
  refine lv_iconst (v := 1) K.1 K.2.1 dX11_isWanted_7 (by decide) ?_
  obtain ⟨v2, ev2, hf⟩ := Option.bind_eq_some_iff.mp hf
  refine ah_iald K hG ev2 dX11_isWanted_8 ?_
  refine lv_icmp_ge (tgt := 44) K.1 K.2.1 dX11_isWanted_9 (by decide) (fun h3 => ?_) (fun h3 => ?_)
  · rw [if_pos h3] at hf
    refine lv_iconst (v := 1) K.1 K.2.1 dX11_isWanted_44 (by decide) ?_
    have hf := Option.some.inj hf
    subst hf
    exact ah_zret K hG hL (Or.inr rfl) (Nat.le_refl _) (Nat.le_refl _) dX11_isWanted_45
  · rw [if_neg h3] at hf
    refine lv_aload_n K.1 K.2.1 dX11_isWanted_12 rfl (lv_at hl 0 rfl) ?_
    obtain ⟨v4, ev4, hf⟩ := Option.bind_eq_some_iff.mp hf
    refine ah_getr K hG ev4 ffX11_50_11 dX11_isWanted_13 ?_
    refine lv_iload_n K.1 K.2.1 dX11_isWanted_16 rfl (lv_at hl 1 rfl) ?_
    obtain ⟨v5, ev5, hf⟩ := Option.bind_eq_some_iff.mp hf
    refine ah_iald K hG ev5 dX11_isWanted_17 ?_
    refine lv_if_lt (tgt := 38) K.1 K.2.1 dX11_isWanted_18 (by decide) (fun h6 => ?_) (fun h6 => ?_)
    · rw [if_pos h6] at hf
      exact wX11_isWanted_38 K k2 hk2 a0 x1 _ _ _ hG hL (lv_sub hl [0, 1] rfl) _ hf
    · rw [if_neg h6] at hf
      refine lv_aload_n K.1 K.2.1 dX11_isWanted_21 rfl (lv_at hl 0 rfl) ?_
      refine lv_iload_n K.1 K.2.1 dX11_isWanted_22 rfl (lv_at hl 1 rfl) ?_
      refine lv_iconst (v := 0) K.1 K.2.1 dX11_isWanted_23 (by decide) ?_
      obtain ⟨v7, ev7, hf⟩ := Option.bind_eq_some_iff.mp hf
      obtain ⟨q8, eq8⟩ := ah_this ev7
      refine ah_callV (As := [.int x1, .int 0]) (rest := []) K hG hL hl.1 eq8 rfl (ctX11_get l H0 D ca M z a0 x1 0 v7 ev7) hdX11_get q_1012 q_1014 q_54 q_1015 q_20 ⟨Nat.le_of_ble_eq_true rfl, Nat.le_of_ble_eq_true rfl⟩ rfl rfl (Nat.le_of_ble_eq_true rfl) ⟨Nat.le_refl _, Nat.le_refl _⟩ dX11_isWanted_24 (fun H locs hG hL => ?_)
      refine lv_aload_n K.1 K.2.1 dX11_isWanted_27 rfl (lv_at hl 0 rfl) ?_
      obtain ⟨v9, ev9, hf⟩ := Option.bind_eq_some_iff.mp hf
      refine ah_getr K hG ev9 ffX11_50_11 dX11_isWanted_28 ?_
      refine lv_iload_n K.1 K.2.1 dX11_isWanted_31 rfl (lv_at hl 1 rfl) ?_
      obtain ⟨v10, ev10, hf⟩ := Option.bind_eq_some_iff.mp hf
      refine ah_iald K hG ev10 dX11_isWanted_32 ?_
      refine lv_icmp_eq (tgt := 38) K.1 K.2.1 dX11_isWanted_33 (by decide) (fun h11 => ?_) (fun h11 => ?_)
      · rw [if_pos h11] at hf
        exact wX11_isWanted_38 K k2 hk2 a0 x1 _ _ _ hG hL (lv_sub hl [0, 1] rfl) _ hf
      · rw [if_neg h11] at hf
        refine lv_iconst (v := 0) K.1 K.2.1 dX11_isWanted_36 (by decide) ?_
        have hf := Option.some.inj hf
        subst hf
        exact ah_zret K hG hL (Or.inl rfl) (Nat.le_refl _) (Nat.le_refl _) dX11_isWanted_37
theorem wX11_isWanted_2 {p : Program} {l : Launch} {e : Env} {s : State} {m : MethodId} {args : Array Value} {below : List Frame} {meth : Method} {c : Code} {D : va_G} {ca : Nat → ClassId} {H0 : Heap} {M : ah_h} {z : Nat} (K : ah_K p s m args meth c D ca "ShipsThatMeetModel" cX11_isWanted 2 (some .boolean))   (n : Nat) : ∀ (a0 : Nat) (x1 : Int32)  (H : Heap) (locs : List Loc) (ls : Array Slot), ah_g H0 D ca M z H → ah_L H0 locs → lv_has ls 2 [(0, .ref a0), (1, .int x1)] → ∀ Z, fX11_isWanted_2   M n a0 x1 = some Z → W p l e { frames := 1, cells := 0, slots := 0, locals := 22 } s m args below meth c H locs 0 0 (ah_Q below args s H0 D ca 0 0 (some (.int Z)) M z) (F0 m 2 ls []) := by
  induction n with
  | zero => intro a0 x1 H locs ls hG hL hl Z hf; cases hf
  | succ n ih => exact wX11_isWanted_2_b K  _ ih
def fX11_isWanted (M : ah_h) (a0 : Nat) : Option (Int32) := (ah_ob M a0 11).bind fun _ => fX11_isWanted_2 M ah_fu a0 0
set_option maxRecDepth 100000 in
set_option maxHeartbeats 4000000 in
theorem ctX11_isWanted (l : Launch) (H0 : Heap) (D : va_G) (ca : Nat → ClassId) (M : ah_h) (z : Nat) (a0 : Nat) (Z : Int32) (hf : fX11_isWanted M a0 = some Z) : ah_ct l H0 D ca yX11_isWanted cX11_isWanted 2 (some .boolean) 1 22 0 0 [.ref a0] M z (some (.int Z)) M z := by
  refine ah_of (by decide) (Nat.le_of_ble_eq_true rfl) ?_
  intro p e s m below meth c ls hin K hG hl
  have hL : ah_L H0 [] := ah_L.nil
  have hl : lv_has ls 2 [(0, .ref a0)] := hl
  unfold fX11_isWanted at hf
  obtain ⟨-, -, hf⟩ := Option.bind_eq_some_iff.mp hf
  refine lv_iconst (v := 0) K.1 K.2.1 dX11_isWanted_0 (by decide) ?_
  refine lv_istore_n (lv' := [(1, .int 0), (0, .ref a0)]) K.1 K.2.1 dX11_isWanted_1 rfl hl (by decide) rfl (fun ls hl => ?_)
  exact wX11_isWanted_2 K  ah_fu a0 0 _ _ _ hG hL (lv_sub hl [1, 0] rfl) _ hf
def fX11_sailed (M : ah_h) (a0 : Nat) (x1 : Int32) : Option (Int32) := (ah_ob M a0 11).bind fun _ => (fX11_isMan M a0 x1).bind fun v1 => if v1 = 0 then (some (-1)) else ((fX11_get M a0 x1 4).bind fun v4 => some v4)
set_option maxRecDepth 100000 in
set_option maxHeartbeats 4000000 in
theorem ctX11_sailed (l : Launch) (H0 : Heap) (D : va_G) (ca : Nat → ClassId) (M : ah_h) (z : Nat) (a0 : Nat) (x1 : Int32) (Z : Int32) (hf : fX11_sailed M a0 x1 = some Z) : ah_ct l H0 D ca yX11_sailed cX11_sailed 2 (some .int) 2 46 0 0 [.ref a0, .int x1] M z (some (.int Z)) M z := by
  refine ah_of (by decide) (Nat.le_of_ble_eq_true rfl) ?_
  intro p e s m below meth c ls hin K hG hl
  have hL : ah_L H0 [] := ah_L.nil
  have hl : lv_has ls 2 [(0, .ref a0), (1, .int x1)] := hl
  unfold fX11_sailed at hf
  obtain ⟨-, -, hf⟩ := Option.bind_eq_some_iff.mp hf
  refine lv_aload_n K.1 K.2.1 dX11_sailed_0 rfl (lv_at hl 0 rfl) ?_
  refine lv_iload_n K.1 K.2.1 dX11_sailed_1 rfl (lv_at hl 1 rfl) ?_
  obtain ⟨v1, ev1, hf⟩ := Option.bind_eq_some_iff.mp hf
  obtain ⟨q2, eq2⟩ := ah_this ev1
  refine ah_callV (As := [.int x1]) (rest := []) K hG hL hl.1 eq2 rfl (ctX11_isMan l H0 D ca M z a0 x1 v1 ev1) hdX11_isMan q_1066 q_1068 q_54 q_1069 q_30 ⟨Nat.le_of_ble_eq_true rfl, Nat.le_of_ble_eq_true rfl⟩ rfl rfl (Nat.le_of_ble_eq_true rfl) ⟨Nat.le_refl _, Nat.le_refl _⟩ dX11_sailed_2 (fun H locs hG hL => ?_)
  refine lv_if_eq (tgt := 17) K.1 K.2.1 dX11_sailed_5 (by decide) (fun h3 => ?_) (fun h3 => ?_)
  · rw [if_pos h3] at hf
    refine lv_iconst (v := (-1)) K.1 K.2.1 dX11_sailed_17 (by decide) ?_
    have hf := Option.some.inj hf
    subst hf
    exact ah_iret K hG hL (Nat.le_refl _) (Nat.le_refl _) dX11_sailed_18
  · rw [if_neg h3] at hf
    refine lv_aload_n K.1 K.2.1 dX11_sailed_8 rfl (lv_at hl 0 rfl) ?_
    refine lv_iload_n K.1 K.2.1 dX11_sailed_9 rfl (lv_at hl 1 rfl) ?_
    refine lv_iconst (v := 4) K.1 K.2.1 dX11_sailed_10 (by decide) ?_
    obtain ⟨v4, ev4, hf⟩ := Option.bind_eq_some_iff.mp hf
    obtain ⟨q5, eq5⟩ := ah_this ev4
    refine ah_callV (As := [.int x1, .int 4]) (rest := []) K hG hL hl.1 eq5 rfl (ctX11_get l H0 D ca M z a0 x1 4 v4 ev4) hdX11_get q_1012 q_1014 q_54 q_1015 q_20 ⟨Nat.le_of_ble_eq_true rfl, Nat.le_of_ble_eq_true rfl⟩ rfl rfl (Nat.le_of_ble_eq_true rfl) ⟨Nat.le_refl _, Nat.le_refl _⟩ dX11_sailed_11 (fun H locs hG hL => ?_)
    refine lv_goto (tgt := 18) K.1 K.2.1 dX11_sailed_14 (by decide) ?_
    have hf := Option.some.inj hf
    subst hf
    exact ah_iret K hG hL (Nat.le_refl _) (Nat.le_refl _) dX11_sailed_18
def fX11_never_18_b  (k4 : Nat → Int32 → Int32 → Option (Int32)) (k18 : Nat → Int32 → Int32 → Int32 → Option (Int32)) (M : ah_h) (a0 : Nat) (x1 : Int32) (x2 : Int32) (x3 : Int32) : Option (Int32) := (ah_gr M a0 11 0).bind fun v1 => (ah_ai M v1 1).bind fun v2 => if v2 ≤ x3 then (k4 a0 x1 (x2 + 1)) else ((fX11_get M a0 x2 4).bind fun v4 => k18 a0 (x1 + (1 - ((v4 >>> (x3 &&& 31)) &&& 1))) x2 (x3 + 1))
def fX11_never_18  (k4 : Nat → Int32 → Int32 → Option (Int32)) (M : ah_h) : Nat → Nat → Int32 → Int32 → Int32 → Option (Int32)
  | 0 => fun _ _ _ _ => none
  | n + 1 => fun a0 x1 x2 x3 => fX11_never_18_b  k4 (fX11_never_18  k4 M n) M a0 x1 x2 x3
set_option maxRecDepth 100000 in
set_option maxHeartbeats 4000000 in
theorem wX11_never_18_b {p : Program} {l : Launch} {e : Env} {s : State} {m : MethodId} {args : Array Value} {below : List Frame} {meth : Method} {c : Code} {D : va_G} {ca : Nat → ClassId} {H0 : Heap} {M : ah_h} {z : Nat} (K : ah_K p s m args meth c D ca "ShipsThatMeetModel" cX11_never 4 (some .int))  (k4 : Nat → Int32 → Int32 → Option (Int32)) (hk4 : ∀ (a0 : Nat) (x1 : Int32) (x2 : Int32)  (H : Heap) (locs : List Loc) (ls : Array Slot), ah_g H0 D ca M z H → ah_L H0 locs → lv_has ls 4 [(0, .ref a0), (1, .int x1), (2, .int x2)] → ∀ Z, k4 a0 x1 x2 = some Z → W p l e { frames := 1, cells := 0, slots := 0, locals := 22 } s m args below meth c H locs 0 0 (ah_Q below args s H0 D ca 0 0 (some (.int Z)) M z) (F0 m 4 ls [])) (k18 : Nat → Int32 → Int32 → Int32 → Option (Int32)) (hk18 : ∀ (a0 : Nat) (x1 : Int32) (x2 : Int32) (x3 : Int32)  (H : Heap) (locs : List Loc) (ls : Array Slot), ah_g H0 D ca M z H → ah_L H0 locs → lv_has ls 4 [(0, .ref a0), (1, .int x1), (2, .int x2), (3, .int x3)] → ∀ Z, k18 a0 x1 x2 x3 = some Z → W p l e { frames := 1, cells := 0, slots := 0, locals := 22 } s m args below meth c H locs 0 0 (ah_Q below args s H0 D ca 0 0 (some (.int Z)) M z) (F0 m 18 ls [])) : ∀ (a0 : Nat) (x1 : Int32) (x2 : Int32) (x3 : Int32)  (H : Heap) (locs : List Loc) (ls : Array Slot), ah_g H0 D ca M z H → ah_L H0 locs → lv_has ls 4 [(0, .ref a0), (1, .int x1), (2, .int x2), (3, .int x3)] → ∀ Z, fX11_never_18_b  k4 k18 M a0 x1 x2 x3 = some Z → W p l e { frames := 1, cells := 0, slots := 0, locals := 22 } s m args below meth c H locs 0 0 (ah_Q below args s H0 D ca 0 0 (some (.int Z)) M z) (F0 m 18 ls []) := by
  intro a0 x1 x2 x3 H locs ls hG hL hl Z hf
  unfold fX11_never_18_b at hf
  refine lv_iload_n K.1 K.2.1 dX11_never_18 rfl (lv_at hl 3 rfl) ?_
  refine lv_aload_n K.1 K.2.1 dX11_never_19 rfl (lv_at hl 0 rfl) ?_
  obtain ⟨v1, ev1, hf⟩ := Option.bind_eq_some_iff.mp hf
  refine ah_getr K hG ev1 ffX11_9_11 dX11_never_20 ?_
  refine lv_iconst (v := 1) K.1 K.2.1 dX11_never_23 (by decide) ?_
  obtain ⟨v2, ev2, hf⟩ := Option.bind_eq_some_iff.mp hf
  refine ah_iald K hG ev2 dX11_never_24 ?_
  refine lv_icmp_ge (tgt := 49) K.1 K.2.1 dX11_never_25 (by decide) (fun h3 => ?_) (fun h3 => ?_)
  · rw [if_pos h3] at hf
    refine lv_iinc (v := x2 + 1) (lv' := [(2, .int (x2 + 1)), (0, .ref a0), (1, .int x1), (3, .int x3)]) K.1 K.2.1 dX11_never_49 hl (k := 2) rfl rfl (by decide) rfl (fun ls hl => ?_)
    refine lv_goto (tgt := 4) K.1 K.2.1 dX11_never_52 (by decide) ?_
    exact hk4 a0 x1 (x2 + 1) _ _ _ hG hL (lv_sub hl [1, 2, 0] rfl) _ hf
  · rw [if_neg h3] at hf
    refine lv_iload_n K.1 K.2.1 dX11_never_28 rfl (lv_at hl 1 rfl) ?_
    refine lv_iconst (v := 1) K.1 K.2.1 dX11_never_29 (by decide) ?_
    refine lv_aload_n K.1 K.2.1 dX11_never_30 rfl (lv_at hl 0 rfl) ?_
    refine lv_iload_n K.1 K.2.1 dX11_never_31 rfl (lv_at hl 2 rfl) ?_
    refine lv_iconst (v := 4) K.1 K.2.1 dX11_never_32 (by decide) ?_
    obtain ⟨v4, ev4, hf⟩ := Option.bind_eq_some_iff.mp hf
    obtain ⟨q5, eq5⟩ := ah_this ev4
    refine ah_callV (As := [.int x2, .int 4]) (rest := [.int 1, .int x1]) K hG hL hl.1 eq5 rfl (ctX11_get l H0 D ca M z a0 x2 4 v4 ev4) hdX11_get q_1012 q_1014 q_54 q_1015 q_20 ⟨Nat.le_of_ble_eq_true rfl, Nat.le_of_ble_eq_true rfl⟩ rfl rfl (Nat.le_of_ble_eq_true rfl) ⟨Nat.le_refl _, Nat.le_refl _⟩ dX11_never_33 (fun H locs hG hL => ?_)
    refine lv_iload_n K.1 K.2.1 dX11_never_36 rfl (lv_at hl 3 rfl) ?_
    refine lv_ishr K.1 K.2.1 dX11_never_37 ?_
    refine lv_iconst (v := 1) K.1 K.2.1 dX11_never_38 (by decide) ?_
    refine lv_iand K.1 K.2.1 dX11_never_39 ?_
    refine lv_isub K.1 K.2.1 dX11_never_40 ?_
    refine lv_iadd K.1 K.2.1 dX11_never_41 ?_
    refine lv_istore_n (lv' := [(1, .int (x1 + (1 - ((v4 >>> (x3 &&& 31)) &&& 1)))), (0, .ref a0), (2, .int x2), (3, .int x3)]) K.1 K.2.1 dX11_never_42 rfl hl (by decide) rfl (fun ls hl => ?_)
    refine lv_iinc (v := x3 + 1) (lv' := [(3, .int (x3 + 1)), (1, .int (x1 + (1 - ((v4 >>> (x3 &&& 31)) &&& 1)))), (0, .ref a0), (2, .int x2)]) K.1 K.2.1 dX11_never_43 hl (k := 3) rfl rfl (by decide) rfl (fun ls hl => ?_)
    refine lv_goto (tgt := 18) K.1 K.2.1 dX11_never_46 (by decide) ?_
    exact hk18 a0 (x1 + (1 - ((v4 >>> (x3 &&& 31)) &&& 1))) x2 (x3 + 1) _ _ _ hG hL (lv_sub hl [2, 1, 3, 0] rfl) _ hf
theorem wX11_never_18 {p : Program} {l : Launch} {e : Env} {s : State} {m : MethodId} {args : Array Value} {below : List Frame} {meth : Method} {c : Code} {D : va_G} {ca : Nat → ClassId} {H0 : Heap} {M : ah_h} {z : Nat} (K : ah_K p s m args meth c D ca "ShipsThatMeetModel" cX11_never 4 (some .int))  (k4 : Nat → Int32 → Int32 → Option (Int32)) (hk4 : ∀ (a0 : Nat) (x1 : Int32) (x2 : Int32)  (H : Heap) (locs : List Loc) (ls : Array Slot), ah_g H0 D ca M z H → ah_L H0 locs → lv_has ls 4 [(0, .ref a0), (1, .int x1), (2, .int x2)] → ∀ Z, k4 a0 x1 x2 = some Z → W p l e { frames := 1, cells := 0, slots := 0, locals := 22 } s m args below meth c H locs 0 0 (ah_Q below args s H0 D ca 0 0 (some (.int Z)) M z) (F0 m 4 ls [])) (n : Nat) : ∀ (a0 : Nat) (x1 : Int32) (x2 : Int32) (x3 : Int32)  (H : Heap) (locs : List Loc) (ls : Array Slot), ah_g H0 D ca M z H → ah_L H0 locs → lv_has ls 4 [(0, .ref a0), (1, .int x1), (2, .int x2), (3, .int x3)] → ∀ Z, fX11_never_18  k4 M n a0 x1 x2 x3 = some Z → W p l e { frames := 1, cells := 0, slots := 0, locals := 22 } s m args below meth c H locs 0 0 (ah_Q below args s H0 D ca 0 0 (some (.int Z)) M z) (F0 m 18 ls []) := by
  induction n with
  | zero => intro a0 x1 x2 x3 H locs ls hG hL hl Z hf; cases hf
  | succ n ih => exact wX11_never_18_b K k4 hk4 _ ih
def fX11_never_4_b   (k4 : Nat → Int32 → Int32 → Option (Int32)) (M : ah_h) (a0 : Nat) (x1 : Int32) (x2 : Int32) : Option (Int32) := (ah_gr M a0 11 0).bind fun v1 => (ah_ai M v1 1).bind fun v2 => if v2 ≤ x2 then (some x1) else (fX11_never_18 k4 M ah_fu a0 x1 x2 (x2 + 1))
def fX11_never_4   (M : ah_h) : Nat → Nat → Int32 → Int32 → Option (Int32)
  | 0 => fun _ _ _ => none
  | n + 1 => fun a0 x1 x2 => fX11_never_4_b   (fX11_never_4   M n) M a0 x1 x2
set_option maxRecDepth 100000 in
set_option maxHeartbeats 4000000 in
theorem wX11_never_4_b {p : Program} {l : Launch} {e : Env} {s : State} {m : MethodId} {args : Array Value} {below : List Frame} {meth : Method} {c : Code} {D : va_G} {ca : Nat → ClassId} {H0 : Heap} {M : ah_h} {z : Nat} (K : ah_K p s m args meth c D ca "ShipsThatMeetModel" cX11_never 4 (some .int))   (k4 : Nat → Int32 → Int32 → Option (Int32)) (hk4 : ∀ (a0 : Nat) (x1 : Int32) (x2 : Int32)  (H : Heap) (locs : List Loc) (ls : Array Slot), ah_g H0 D ca M z H → ah_L H0 locs → lv_has ls 4 [(0, .ref a0), (1, .int x1), (2, .int x2)] → ∀ Z, k4 a0 x1 x2 = some Z → W p l e { frames := 1, cells := 0, slots := 0, locals := 22 } s m args below meth c H locs 0 0 (ah_Q below args s H0 D ca 0 0 (some (.int Z)) M z) (F0 m 4 ls [])) : ∀ (a0 : Nat) (x1 : Int32) (x2 : Int32)  (H : Heap) (locs : List Loc) (ls : Array Slot), ah_g H0 D ca M z H → ah_L H0 locs → lv_has ls 4 [(0, .ref a0), (1, .int x1), (2, .int x2)] → ∀ Z, fX11_never_4_b   k4 M a0 x1 x2 = some Z → W p l e { frames := 1, cells := 0, slots := 0, locals := 22 } s m args below meth c H locs 0 0 (ah_Q below args s H0 D ca 0 0 (some (.int Z)) M z) (F0 m 4 ls []) := by
  intro a0 x1 x2 H locs ls hG hL hl Z hf
  unfold fX11_never_4_b at hf
  refine lv_iload_n K.1 K.2.1 dX11_never_4 rfl (lv_at hl 2 rfl) ?_
  refine lv_aload_n K.1 K.2.1 dX11_never_5 rfl (lv_at hl 0 rfl) ?_
  obtain ⟨v1, ev1, hf⟩ := Option.bind_eq_some_iff.mp hf
  refine ah_getr K hG ev1 ffX11_9_11 dX11_never_6 ?_
  refine lv_iconst (v := 1) K.1 K.2.1 dX11_never_9 (by decide) ?_
  obtain ⟨v2, ev2, hf⟩ := Option.bind_eq_some_iff.mp hf
  refine ah_iald K hG ev2 dX11_never_10 ?_
  refine lv_icmp_ge (tgt := 55) K.1 K.2.1 dX11_never_11 (by decide) (fun h3 => ?_) (fun h3 => ?_)
  · rw [if_pos h3] at hf
    refine lv_iload_n K.1 K.2.1 dX11_never_55 rfl (lv_at hl 1 rfl) ?_
    have hf := Option.some.inj hf
    subst hf
    exact ah_iret K hG hL (Nat.le_refl _) (Nat.le_refl _) dX11_never_56
  · rw [if_neg h3] at hf
    refine lv_iload_n K.1 K.2.1 dX11_never_14 rfl (lv_at hl 2 rfl) ?_
    refine lv_iconst (v := 1) K.1 K.2.1 dX11_never_15 (by decide) ?_
    refine lv_iadd K.1 K.2.1 dX11_never_16 ?_
    refine lv_istore_n (lv' := [(3, .int (x2 + 1)), (0, .ref a0), (1, .int x1), (2, .int x2)]) K.1 K.2.1 dX11_never_17 rfl hl (by decide) rfl (fun ls hl => ?_)
    exact wX11_never_18 K k4 hk4 ah_fu a0 x1 x2 (x2 + 1) _ _ _ hG hL (lv_sub hl [1, 2, 3, 0] rfl) _ hf
theorem wX11_never_4 {p : Program} {l : Launch} {e : Env} {s : State} {m : MethodId} {args : Array Value} {below : List Frame} {meth : Method} {c : Code} {D : va_G} {ca : Nat → ClassId} {H0 : Heap} {M : ah_h} {z : Nat} (K : ah_K p s m args meth c D ca "ShipsThatMeetModel" cX11_never 4 (some .int))   (n : Nat) : ∀ (a0 : Nat) (x1 : Int32) (x2 : Int32)  (H : Heap) (locs : List Loc) (ls : Array Slot), ah_g H0 D ca M z H → ah_L H0 locs → lv_has ls 4 [(0, .ref a0), (1, .int x1), (2, .int x2)] → ∀ Z, fX11_never_4   M n a0 x1 x2 = some Z → W p l e { frames := 1, cells := 0, slots := 0, locals := 22 } s m args below meth c H locs 0 0 (ah_Q below args s H0 D ca 0 0 (some (.int Z)) M z) (F0 m 4 ls []) := by
  induction n with
  | zero => intro a0 x1 x2 H locs ls hG hL hl Z hf; cases hf
  | succ n ih => exact wX11_never_4_b K  _ ih
def fX11_never (M : ah_h) (a0 : Nat) : Option (Int32) := (ah_ob M a0 11).bind fun _ => fX11_never_4 M ah_fu a0 0 0
set_option maxRecDepth 100000 in
set_option maxHeartbeats 4000000 in
theorem ctX11_never (l : Launch) (H0 : Heap) (D : va_G) (ca : Nat → ClassId) (M : ah_h) (z : Nat) (a0 : Nat) (Z : Int32) (hf : fX11_never M a0 = some Z) : ah_ct l H0 D ca yX11_never cX11_never 4 (some .int) 1 22 0 0 [.ref a0] M z (some (.int Z)) M z := by
  refine ah_of (by decide) (Nat.le_of_ble_eq_true rfl) ?_
  intro p e s m below meth c ls hin K hG hl
  have hL : ah_L H0 [] := ah_L.nil
  have hl : lv_has ls 4 [(0, .ref a0)] := hl
  unfold fX11_never at hf
  obtain ⟨-, -, hf⟩ := Option.bind_eq_some_iff.mp hf
  refine lv_iconst (v := 0) K.1 K.2.1 dX11_never_0 (by decide) ?_
  refine lv_istore_n (lv' := [(1, .int 0), (0, .ref a0)]) K.1 K.2.1 dX11_never_1 rfl hl (by decide) rfl (fun ls hl => ?_)
  refine lv_iconst (v := 0) K.1 K.2.1 dX11_never_2 (by decide) ?_
  refine lv_istore_n (lv' := [(2, .int 0), (1, .int 0), (0, .ref a0)]) K.1 K.2.1 dX11_never_3 rfl hl (by decide) rfl (fun ls hl => ?_)
  exact wX11_never_4 K  ah_fu a0 0 0 _ _ _ hG hL (lv_sub hl [2, 1, 0] rfl) _ hf
