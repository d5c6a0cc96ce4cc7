/-! THE LAW, 4: cases 22 to 31 of its switch (printed by gen/law85.py) -/
section CASES
variable {p : Program} {l : Launch} {e : Env} {s : State} {m : MethodId} {args : Array Value} {below : List Frame} {meth : Method} {c : Code} {H : Heap} {locs : List Loc} {cells slots : Nat} {Q : State → Prop}
variable {D : va_G} {ca : Nat → ClassId} {M : ah_h} {z b L t : Nat} {xs : Nat → Int32} {ls : Array Slot} {τ : md_T}
set_option maxRecDepth 100000 in
set_option maxHeartbeats 4000000 in
theorem lc_22 (K : ah_K p s m args meth c D ca "ShipsThatMeetLaw" code 8 ret) (hX : va_X b L xs s s.heap) (hbl : b < s.heap.size) (ht : 6 * t + 6 ≤ L) (hL9 : L ≤ 384) (hG : ah_g s.heap D ca M z H) (hL : ah_L s.heap locs) (hw : wd s.heap.size M z τ) (hl : lv_has ls 8 (lw_lv s.heap.size b t)) (hc : cells ≤ 700 + 300 * t) (hs : slots ≤ 40000 + 600 * t) (kn : lw_N p l e s m args below meth c Q D ca b t) : W p l e room_1 s m args below meth c H locs cells slots Q (F0 m 963 ls []) := by
  have hl : lv_has ls 8 [(4, .int (nI (6 * t))), (3, .ref (s.heap.size + 68)), (2, .ref (s.heap.size + 53)), (1, .ref s.heap.size), (0, .ref b)] := hl
  have ht64 : t < 64 := by omega
  obtain ⟨v, M1, M2, τ', e1, e2, hw2⟩ := p_image hw 
  obtain ⟨q1, eq1⟩ := ah_this e1
  obtain ⟨q2, eq2⟩ := ah_this e2
  refine lv_aload_n K.1 K.2.1 dL_law_963 rfl (lv_at hl 3 rfl) ?_
  refine ah_callV (n := 0) (As := []) (rest := []) K hG hL hl.1 eq1 rfl (ctX10_image l s.heap D ca M z s.heap.size  (v, M1) e1) (by decide +kernel) q_645 q_646 q_50 q_648 q_647 ⟨Nat.le_of_ble_eq_true rfl, Nat.le_of_ble_eq_true rfl⟩ rfl rfl (Nat.le_of_ble_eq_true rfl) ⟨by show cells + 0 ≤ 600128; omega, by show slots + 0 ≤ 7301098; omega⟩ dL_law_964 (fun H locs hG hL => ?_)
  refine lv_aload_n K.1 K.2.1 dL_law_967 rfl (lv_at hl 2 rfl) ?_
  refine ah_callV (n := 0) (As := []) (rest := [.int v]) K hG hL hl.1 eq2 rfl (ctX11_image l s.heap D ca M1 z (s.heap.size + 53)  (v, M2) e2) (by decide +kernel) q_1228 q_1229 q_54 q_1231 q_1230 ⟨Nat.le_of_ble_eq_true rfl, Nat.le_of_ble_eq_true rfl⟩ rfl rfl (Nat.le_of_ble_eq_true rfl) ⟨by show cells + 0 + 0 ≤ 600128; omega, by show slots + 0 + 0 ≤ 7301098; omega⟩ dL_law_968 (fun H locs hG hL => ?_)
  exact lv_icmp_eq (tgt := 1363) K.1 K.2.1 dL_law_971 (by decide) (fun _ => kn M2 z τ' _ _ _ _ _ hG hL hw2 hl (by show cells + 0 + 0 ≤ _; omega) (by show slots + 0 + 0 ≤ _; omega)) (fun h => absurd rfl h)
set_option maxRecDepth 100000 in
set_option maxHeartbeats 4000000 in
theorem lc_23 (K : ah_K p s m args meth c D ca "ShipsThatMeetLaw" code 8 ret) (hX : va_X b L xs s s.heap) (hbl : b < s.heap.size) (ht : 6 * t + 6 ≤ L) (hL9 : L ≤ 384) (hG : ah_g s.heap D ca M z H) (hL : ah_L s.heap locs) (hw : wd s.heap.size M z τ) (hl : lv_has ls 8 (lw_lv s.heap.size b t)) (hc : cells ≤ 700 + 300 * t) (hs : slots ≤ 40000 + 600 * t) (kn : lw_N p l e s m args below meth c Q D ca b t) : W p l e room_1 s m args below meth c H locs cells slots Q (F0 m 976 ls []) := by
  have hl : lv_has ls 8 [(4, .int (nI (6 * t))), (3, .ref (s.heap.size + 68)), (2, .ref (s.heap.size + 53)), (1, .ref s.heap.size), (0, .ref b)] := hl
  have ht64 : t < 64 := by omega
  obtain ⟨v, M1, M2, τ', e1, e2, hw2⟩ := p_restore hw 
  obtain ⟨q1, eq1⟩ := ah_this e1
  obtain ⟨q2, eq2⟩ := ah_this e2
  refine lv_aload_n K.1 K.2.1 dL_law_976 rfl (lv_at hl 3 rfl) ?_
  refine ah_callV (n := 0) (As := []) (rest := []) K hG hL hl.1 eq1 rfl (ctX10_restore l s.heap D ca M z s.heap.size  (v, M1) e1) (by decide +kernel) q_649 q_650 q_50 q_652 q_651 ⟨Nat.le_of_ble_eq_true rfl, Nat.le_of_ble_eq_true rfl⟩ rfl rfl (Nat.le_of_ble_eq_true rfl) ⟨by show cells + 0 ≤ 600128; omega, by show slots + 0 ≤ 7301098; omega⟩ dL_law_977 (fun H locs hG hL => ?_)
  refine lv_aload_n K.1 K.2.1 dL_law_980 rfl (lv_at hl 2 rfl) ?_
  refine ah_callV (n := 0) (As := []) (rest := [.int v]) K hG hL hl.1 eq2 rfl (ctX11_restore l s.heap D ca M1 z (s.heap.size + 53)  (v, M2) e2) (by decide +kernel) q_1232 q_1233 q_54 q_1235 q_1234 ⟨Nat.le_of_ble_eq_true rfl, Nat.le_of_ble_eq_true rfl⟩ rfl rfl (Nat.le_of_ble_eq_true rfl) ⟨by show cells + 0 + 0 ≤ 600128; omega, by show slots + 0 + 0 ≤ 7301098; omega⟩ dL_law_981 (fun H locs hG hL => ?_)
  exact lv_icmp_eq (tgt := 1363) K.1 K.2.1 dL_law_984 (by decide) (fun _ => kn M2 z τ' _ _ _ _ _ hG hL hw2 hl (by show cells + 0 + 0 ≤ _; omega) (by show slots + 0 + 0 ≤ _; omega)) (fun h => absurd rfl h)
set_option maxRecDepth 100000 in
set_option maxHeartbeats 4000000 in
theorem lc_24 (K : ah_K p s m args meth c D ca "ShipsThatMeetLaw" code 8 ret) (hX : va_X b L xs s s.heap) (hbl : b < s.heap.size) (ht : 6 * t + 6 ≤ L) (hL9 : L ≤ 384) (hG : ah_g s.heap D ca M z H) (hL : ah_L s.heap locs) (hw : wd s.heap.size M z τ) (hl : lv_has ls 8 (lw_lv s.heap.size b t)) (hc : cells ≤ 700 + 300 * t) (hs : slots ≤ 40000 + 600 * t) (kn : lw_N p l e s m args below meth c Q D ca b t) : W p l e room_1 s m args below meth c H locs cells slots Q (F0 m 989 ls []) := by
  have hl : lv_has ls 8 [(4, .int (nI (6 * t))), (3, .ref (s.heap.size + 68)), (2, .ref (s.heap.size + 53)), (1, .ref s.heap.size), (0, .ref b)] := hl
  have ht64 : t < 64 := by omega
  obtain ⟨v, e1, e2⟩ := p_count hw (xs (6 * t + 1))
  obtain ⟨q1, eq1⟩ := ah_this e1
  obtain ⟨q2, eq2⟩ := ah_this e2
  refine lv_aload_n K.1 K.2.1 dL_law_989 rfl (lv_at hl 3 rfl) ?_
  refine lw_ld (t := t) (k := 1) K hX hbl hG hL hl (i4 := 0) (i0 := 4) rfl rfl (by decide) (by omega) hL9 dL_law_990 dL_law_991 dL_law_993 dL_law_994 dL_law_995 ?_
  refine ah_callV (n := 1) (As := [.int (xs (6 * t + 1))]) (rest := []) K hG hL hl.1 eq1 rfl (ctX10_count l s.heap D ca M z s.heap.size (xs (6 * t + 1)) v e1) (by decide +kernel) q_653 q_654 q_50 q_656 q_655 ⟨Nat.le_of_ble_eq_true rfl, Nat.le_of_ble_eq_true rfl⟩ rfl rfl (Nat.le_of_ble_eq_true rfl) ⟨by show cells + 0 ≤ 600128; omega, by show slots + 0 ≤ 7301098; omega⟩ dL_law_996 (fun H locs hG hL => ?_)
  refine lv_aload_n K.1 K.2.1 dL_law_999 rfl (lv_at hl 2 rfl) ?_
  refine lw_ld (t := t) (k := 1) K hX hbl hG hL hl (i4 := 0) (i0 := 4) rfl rfl (by decide) (by omega) hL9 dL_law_1000 dL_law_1001 dL_law_1003 dL_law_1004 dL_law_1005 ?_
  refine ah_callV (n := 1) (As := [.int (xs (6 * t + 1))]) (rest := [.int v]) K hG hL hl.1 eq2 rfl (ctX11_count l s.heap D ca M z (s.heap.size + 53) (xs (6 * t + 1)) v e2) (by decide +kernel) q_1236 q_1237 q_54 q_1239 q_1238 ⟨Nat.le_of_ble_eq_true rfl, Nat.le_of_ble_eq_true rfl⟩ rfl rfl (Nat.le_of_ble_eq_true rfl) ⟨by show cells + 0 + 0 ≤ 600128; omega, by show slots + 0 + 0 ≤ 7301098; omega⟩ dL_law_1006 (fun H locs hG hL => ?_)
  exact lv_icmp_eq (tgt := 1363) K.1 K.2.1 dL_law_1009 (by decide) (fun _ => kn M z τ _ _ _ _ _ hG hL hw hl (by show cells + 0 + 0 ≤ _; omega) (by show slots + 0 + 0 ≤ _; omega)) (fun h => absurd rfl h)
set_option maxRecDepth 100000 in
set_option maxHeartbeats 4000000 in
theorem lc_25 (K : ah_K p s m args meth c D ca "ShipsThatMeetLaw" code 8 ret) (hX : va_X b L xs s s.heap) (hbl : b < s.heap.size) (ht : 6 * t + 6 ≤ L) (hL9 : L ≤ 384) (hG : ah_g s.heap D ca M z H) (hL : ah_L s.heap locs) (hw : wd s.heap.size M z τ) (hl : lv_has ls 8 (lw_lv s.heap.size b t)) (hc : cells ≤ 700 + 300 * t) (hs : slots ≤ 40000 + 600 * t) (kn : lw_N p l e s m args below meth c Q D ca b t) : W p l e room_1 s m args below meth c H locs cells slots Q (F0 m 1014 ls []) := by
  have hl : lv_has ls 8 [(4, .int (nI (6 * t))), (3, .ref (s.heap.size + 68)), (2, .ref (s.heap.size + 53)), (1, .ref s.heap.size), (0, .ref b)] := hl
  have ht64 : t < 64 := by omega
  obtain ⟨v, M1, M2, τ', z', e1, e2, hw2, -, -⟩ := p_keep hw (xs (6 * t + 1)) (xs (6 * t + 2)) (xs (6 * t + 3)) (xs (6 * t + 4))
  obtain ⟨q1, eq1⟩ := ah_this e1
  obtain ⟨q2, eq2⟩ := ah_this e2
  refine lv_aload_n K.1 K.2.1 dL_law_1014 rfl (lv_at hl 3 rfl) ?_
  refine lw_ld (t := t) (k := 1) K hX hbl hG hL hl (i4 := 0) (i0 := 4) rfl rfl (by decide) (by omega) hL9 dL_law_1015 dL_law_1016 dL_law_1018 dL_law_1019 dL_law_1020 ?_
  refine lw_ld (t := t) (k := 2) K hX hbl hG hL hl (i4 := 0) (i0 := 4) rfl rfl (by decide) (by omega) hL9 dL_law_1021 dL_law_1022 dL_law_1024 dL_law_1025 dL_law_1026 ?_
  refine lw_ld (t := t) (k := 3) K hX hbl hG hL hl (i4 := 0) (i0 := 4) rfl rfl (by decide) (by omega) hL9 dL_law_1027 dL_law_1028 dL_law_1030 dL_law_1031 dL_law_1032 ?_
  refine lw_ld (t := t) (k := 4) K hX hbl hG hL hl (i4 := 0) (i0 := 4) rfl rfl (by decide) (by omega) hL9 dL_law_1033 dL_law_1034 dL_law_1036 dL_law_1037 dL_law_1038 ?_
  refine ah_callV (n := 4) (As := [.int (xs (6 * t + 1)), .int (xs (6 * t + 2)), .int (xs (6 * t + 3)), .int (xs (6 * t + 4))]) (rest := []) K hG hL hl.1 eq1 rfl (ctX10_keep l s.heap D ca M z s.heap.size (xs (6 * t + 1)) (xs (6 * t + 2)) (xs (6 * t + 3)) (xs (6 * t + 4)) (v, M1, z') e1) (by decide +kernel) q_666 q_667 q_50 q_669 q_668 ⟨Nat.le_of_ble_eq_true rfl, Nat.le_of_ble_eq_true rfl⟩ rfl rfl (Nat.le_of_ble_eq_true rfl) ⟨by show cells + 1 ≤ 600128; omega, by show slots + 2 ≤ 7301098; omega⟩ dL_law_1039 (fun H locs hG hL => ?_)
  refine lv_aload_n K.1 K.2.1 dL_law_1042 rfl (lv_at hl 2 rfl) ?_
  refine lw_ld (t := t) (k := 1) K hX hbl hG hL hl (i4 := 0) (i0 := 4) rfl rfl (by decide) (by omega) hL9 dL_law_1043 dL_law_1044 dL_law_1046 dL_law_1047 dL_law_1048 ?_
  refine lw_ld (t := t) (k := 2) K hX hbl hG hL hl (i4 := 0) (i0 := 4) rfl rfl (by decide) (by omega) hL9 dL_law_1049 dL_law_1050 dL_law_1052 dL_law_1053 dL_law_1054 ?_
  refine lw_ld (t := t) (k := 3) K hX hbl hG hL hl (i4 := 0) (i0 := 4) rfl rfl (by decide) (by omega) hL9 dL_law_1055 dL_law_1056 dL_law_1058 dL_law_1059 dL_law_1060 ?_
  refine lw_ld (t := t) (k := 4) K hX hbl hG hL hl (i4 := 0) (i0 := 4) rfl rfl (by decide) (by omega) hL9 dL_law_1061 dL_law_1062 dL_law_1064 dL_law_1065 dL_law_1066 ?_
  refine ah_callV (n := 4) (As := [.int (xs (6 * t + 1)), .int (xs (6 * t + 2)), .int (xs (6 * t + 3)), .int (xs (6 * t + 4))]) (rest := [.int v]) K hG hL hl.1 eq2 rfl (ctX11_keep l s.heap D ca M1 z' (s.heap.size + 53) (xs (6 * t + 1)) (xs (6 * t + 2)) (xs (6 * t + 3)) (xs (6 * t + 4)) (v, M2) e2) (by decide +kernel) q_1240 q_1241 q_54 q_1243 q_1242 ⟨Nat.le_of_ble_eq_true rfl, Nat.le_of_ble_eq_true rfl⟩ rfl rfl (Nat.le_of_ble_eq_true rfl) ⟨by show cells + 1 + 0 ≤ 600128; omega, by show slots + 2 + 0 ≤ 7301098; omega⟩ dL_law_1067 (fun H locs hG hL => ?_)
  exact lv_icmp_eq (tgt := 1363) K.1 K.2.1 dL_law_1070 (by decide) (fun _ => kn M2 z' τ' _ _ _ _ _ hG hL hw2 hl (by show cells + 1 + 0 ≤ _; omega) (by show slots + 2 + 0 ≤ _; omega)) (fun h => absurd rfl h)
set_option maxRecDepth 100000 in
set_option maxHeartbeats 4000000 in
theorem lc_26 (K : ah_K p s m args meth c D ca "ShipsThatMeetLaw" code 8 ret) (hX : va_X b L xs s s.heap) (hbl : b < s.heap.size) (ht : 6 * t + 6 ≤ L) (hL9 : L ≤ 384) (hG : ah_g s.heap D ca M z H) (hL : ah_L s.heap locs) (hw : wd s.heap.size M z τ) (hl : lv_has ls 8 (lw_lv s.heap.size b t)) (hc : cells ≤ 700 + 300 * t) (hs : slots ≤ 40000 + 600 * t) (kn : lw_N p l e s m args below meth c Q D ca b t) : W p l e room_1 s m args below meth c H locs cells slots Q (F0 m 1075 ls []) := by
  have hl : lv_has ls 8 [(4, .int (nI (6 * t))), (3, .ref (s.heap.size + 68)), (2, .ref (s.heap.size + 53)), (1, .ref s.heap.size), (0, .ref b)] := hl
  have ht64 : t < 64 := by omega
  obtain ⟨v, M1, M2, τ', e1, e2, hw2⟩ := p_row hw (xs (6 * t + 1)) (xs (6 * t + 2)) (xs (6 * t + 3))
  obtain ⟨q1, eq1⟩ := ah_this e1
  obtain ⟨q2, eq2⟩ := ah_this e2
  refine lv_aload_n K.1 K.2.1 dL_law_1075 rfl (lv_at hl 3 rfl) ?_
  refine lw_ld (t := t) (k := 1) K hX hbl hG hL hl (i4 := 0) (i0 := 4) rfl rfl (by decide) (by omega) hL9 dL_law_1076 dL_law_1077 dL_law_1079 dL_law_1080 dL_law_1081 ?_
  refine lw_ld (t := t) (k := 2) K hX hbl hG hL hl (i4 := 0) (i0 := 4) rfl rfl (by decide) (by omega) hL9 dL_law_1082 dL_law_1083 dL_law_1085 dL_law_1086 dL_law_1087 ?_
  refine lw_ld (t := t) (k := 3) K hX hbl hG hL hl (i4 := 0) (i0 := 4) rfl rfl (by decide) (by omega) hL9 dL_law_1088 dL_law_1089 dL_law_1091 dL_law_1092 dL_law_1093 ?_
  refine ah_callV (n := 3) (As := [.int (xs (6 * t + 1)), .int (xs (6 * t + 2)), .int (xs (6 * t + 3))]) (rest := []) K hG hL hl.1 eq1 rfl (ctX10_row l s.heap D ca M z s.heap.size (xs (6 * t + 1)) (xs (6 * t + 2)) (xs (6 * t + 3)) (v, M1) e1) (by decide +kernel) q_679 q_680 q_50 q_682 q_681 ⟨Nat.le_of_ble_eq_true rfl, Nat.le_of_ble_eq_true rfl⟩ rfl rfl (Nat.le_of_ble_eq_true rfl) ⟨by show cells + 0 ≤ 600128; omega, by show slots + 0 ≤ 7301098; omega⟩ dL_law_1094 (fun H locs hG hL => ?_)
  refine lv_aload_n K.1 K.2.1 dL_law_1097 rfl (lv_at hl 2 rfl) ?_
  refine lw_ld (t := t) (k := 1) K hX hbl hG hL hl (i4 := 0) (i0 := 4) rfl rfl (by decide) (by omega) hL9 dL_law_1098 dL_law_1099 dL_law_1101 dL_law_1102 dL_law_1103 ?_
  refine lw_ld (t := t) (k := 2) K hX hbl hG hL hl (i4 := 0) (i0 := 4) rfl rfl (by decide) (by omega) hL9 dL_law_1104 dL_law_1105 dL_law_1107 dL_law_1108 dL_law_1109 ?_
  refine lw_ld (t := t) (k := 3) K hX hbl hG hL hl (i4 := 0) (i0 := 4) rfl rfl (by decide) (by omega) hL9 dL_law_1110 dL_law_1111 dL_law_1113 dL_law_1114 dL_law_1115 ?_
  refine ah_callV (n := 3) (As := [.int (xs (6 * t + 1)), .int (xs (6 * t + 2)), .int (xs (6 * t + 3))]) (rest := [.int v]) K hG hL hl.1 eq2 rfl (ctX11_row l s.heap D ca M1 z (s.heap.size + 53) (xs (6 * t + 1)) (xs (6 * t + 2)) (xs (6 * t + 3)) (v, M2) e2) (by decide +kernel) q_1244 q_1245 q_54 q_1247 q_1246 ⟨Nat.le_of_ble_eq_true rfl, Nat.le_of_ble_eq_true rfl⟩ rfl rfl (Nat.le_of_ble_eq_true rfl) ⟨by show cells + 0 + 0 ≤ 600128; omega, by show slots + 0 + 0 ≤ 7301098; omega⟩ dL_law_1116 (fun H locs hG hL => ?_)
  exact lv_icmp_eq (tgt := 1363) K.1 K.2.1 dL_law_1119 (by decide) (fun _ => kn M2 z τ' _ _ _ _ _ hG hL hw2 hl (by show cells + 0 + 0 ≤ _; omega) (by show slots + 0 + 0 ≤ _; omega)) (fun h => absurd rfl h)
set_option maxRecDepth 100000 in
set_option maxHeartbeats 4000000 in
theorem lc_27 (K : ah_K p s m args meth c D ca "ShipsThatMeetLaw" code 8 ret) (hX : va_X b L xs s s.heap) (hbl : b < s.heap.size) (ht : 6 * t + 6 ≤ L) (hL9 : L ≤ 384) (hG : ah_g s.heap D ca M z H) (hL : ah_L s.heap locs) (hw : wd s.heap.size M z τ) (hl : lv_has ls 8 (lw_lv s.heap.size b t)) (hc : cells ≤ 700 + 300 * t) (hs : slots ≤ 40000 + 600 * t) (kn : lw_N p l e s m args below meth c Q D ca b t) : W p l e room_1 s m args below meth c H locs cells slots Q (F0 m 1124 ls []) := by
  have hl : lv_has ls 8 [(4, .int (nI (6 * t))), (3, .ref (s.heap.size + 68)), (2, .ref (s.heap.size + 53)), (1, .ref s.heap.size), (0, .ref b)] := hl
  have ht64 : t < 64 := by omega
  obtain ⟨v, M1, M2, τ', e1, e2, hw2⟩ := p_put hw (xs (6 * t + 1)) (xs (6 * t + 2)) (xs (6 * t + 3))
  obtain ⟨q1, eq1⟩ := ah_this e1
  obtain ⟨q2, eq2⟩ := ah_this e2
  refine lv_aload_n K.1 K.2.1 dL_law_1124 rfl (lv_at hl 3 rfl) ?_
  refine lw_ld (t := t) (k := 1) K hX hbl hG hL hl (i4 := 0) (i0 := 4) rfl rfl (by decide) (by omega) hL9 dL_law_1125 dL_law_1126 dL_law_1128 dL_law_1129 dL_law_1130 ?_
  refine lw_ld (t := t) (k := 2) K hX hbl hG hL hl (i4 := 0) (i0 := 4) rfl rfl (by decide) (by omega) hL9 dL_law_1131 dL_law_1132 dL_law_1134 dL_law_1135 dL_law_1136 ?_
  refine lw_ld (t := t) (k := 3) K hX hbl hG hL hl (i4 := 0) (i0 := 4) rfl rfl (by decide) (by omega) hL9 dL_law_1137 dL_law_1138 dL_law_1140 dL_law_1141 dL_law_1142 ?_
  refine ah_callV (n := 3) (As := [.int (xs (6 * t + 1)), .int (xs (6 * t + 2)), .int (xs (6 * t + 3))]) (rest := []) K hG hL hl.1 eq1 rfl (ctX10_put l s.heap D ca M z s.heap.size (xs (6 * t + 1)) (xs (6 * t + 2)) (xs (6 * t + 3)) (v, M1) e1) (by decide +kernel) q_687 q_688 q_50 q_690 q_689 ⟨Nat.le_of_ble_eq_true rfl, Nat.le_of_ble_eq_true rfl⟩ rfl rfl (Nat.le_of_ble_eq_true rfl) ⟨by show cells + 0 ≤ 600128; omega, by show slots + 0 ≤ 7301098; omega⟩ dL_law_1143 (fun H locs hG hL => ?_)
  refine lv_aload_n K.1 K.2.1 dL_law_1146 rfl (lv_at hl 2 rfl) ?_
  refine lw_ld (t := t) (k := 1) K hX hbl hG hL hl (i4 := 0) (i0 := 4) rfl rfl (by decide) (by omega) hL9 dL_law_1147 dL_law_1148 dL_law_1150 dL_law_1151 dL_law_1152 ?_
  refine lw_ld (t := t) (k := 2) K hX hbl hG hL hl (i4 := 0) (i0 := 4) rfl rfl (by decide) (by omega) hL9 dL_law_1153 dL_law_1154 dL_law_1156 dL_law_1157 dL_law_1158 ?_
  refine lw_ld (t := t) (k := 3) K hX hbl hG hL hl (i4 := 0) (i0 := 4) rfl rfl (by decide) (by omega) hL9 dL_law_1159 dL_law_1160 dL_law_1162 dL_law_1163 dL_law_1164 ?_
  refine ah_callV (n := 3) (As := [.int (xs (6 * t + 1)), .int (xs (6 * t + 2)), .int (xs (6 * t + 3))]) (rest := [.int v]) K hG hL hl.1 eq2 rfl (ctX11_put l s.heap D ca M1 z (s.heap.size + 53) (xs (6 * t + 1)) (xs (6 * t + 2)) (xs (6 * t + 3)) (v, M2) e2) (by decide +kernel) q_1249 q_1250 q_54 q_1252 q_1251 ⟨Nat.le_of_ble_eq_true rfl, Nat.le_of_ble_eq_true rfl⟩ rfl rfl (Nat.le_of_ble_eq_true rfl) ⟨by show cells + 0 + 0 ≤ 600128; omega, by show slots + 0 + 0 ≤ 7301098; omega⟩ dL_law_1165 (fun H locs hG hL => ?_)
  exact lv_icmp_eq (tgt := 1363) K.1 K.2.1 dL_law_1168 (by decide) (fun _ => kn M2 z τ' _ _ _ _ _ hG hL hw2 hl (by show cells + 0 + 0 ≤ _; omega) (by show slots + 0 + 0 ≤ _; omega)) (fun h => absurd rfl h)
set_option maxRecDepth 100000 in
set_option maxHeartbeats 4000000 in
theorem lc_28 (hl9 : l.stackTraces = false) (hx9 : xk s.heap s) (K : ah_K p s m args meth c D ca "ShipsThatMeetLaw" code 8 ret) (hX : va_X b L xs s s.heap) (hbl : b < s.heap.size) (ht : 6 * t + 6 ≤ L) (hL9 : L ≤ 384) (hG : ah_g s.heap D ca M z H) (hL : ah_L s.heap locs) (hw : wd s.heap.size M z τ) (hl : lv_has ls 8 (lw_lv s.heap.size b t)) (hc : cells ≤ 700 + 300 * t) (hs : slots ≤ 40000 + 600 * t) (kn : lw_N p l e s m args below meth c Q D ca b t) : W p l e room_1 s m args below meth c H locs cells slots Q (F0 m 1173 ls []) := by
  have hl : lv_has ls 8 [(4, .int (nI (6 * t))), (3, .ref (s.heap.size + 68)), (2, .ref (s.heap.size + 53)), (1, .ref s.heap.size), (0, .ref b)] := hl
  have ht64 : t < 64 := by omega
  obtain ⟨k, M1, v, M2, τ', e1, e2, e3, e4, hw2⟩ := p_element hw (xs (6 * t + 1)) (xs (6 * t + 2))
  obtain ⟨⟨n9, m9, F9, hc9⟩, -⟩ := id hw
  have eq1 := hc9.o.1
  obtain ⟨q2, eq2⟩ := ah_this e2
  obtain ⟨q3, eq3⟩ := ah_this e3
  refine lv_aload_n K.1 K.2.1 dL_law_1173 rfl (lv_at hl 3 rfl) ?_
  refine lw_ld (t := t) (k := 1) K hX hbl hG hL hl (i4 := 0) (i0 := 4) rfl rfl (by decide) (by omega) hL9 dL_law_1174 dL_law_1175 dL_law_1177 dL_law_1178 dL_law_1179 ?_
  refine lw_ld (t := t) (k := 2) K hX hbl hG hL hl (i4 := 0) (i0 := 4) rfl rfl (by decide) (by omega) hL9 dL_law_1180 dL_law_1181 dL_law_1183 dL_law_1184 dL_law_1185 ?_
  refine lv_aload_n K.1 K.2.1 dL_law_1186 rfl (lv_at hl 1 rfl) ?_
  refine ax_callHS (n := 4) (As := [.ref s.heap.size, .int (xs (6 * t + 1)), .int (xs (6 * t + 2)), .ref (s.heap.size + 68)]) (rest := []) K hx9 hG hL hl.1 (hxL_el l hl9 s.heap D ca M z s.heap.size (xs (6 * t + 1)) (xs (6 * t + 2)) (s.heap.size + 68) (k, M1) eq1 e1) (by decide +kernel) q_850 q_851 q_49 q_852 ⟨Nat.le_of_ble_eq_true rfl, Nat.le_of_ble_eq_true rfl⟩ rfl rfl (Nat.le_of_ble_eq_true rfl) ⟨by show cells + 1 ≤ 600128; omega, by show slots + 6 ≤ 7301098; omega⟩ dL_law_1187 (fun z1 H locs hz hG hL => ?_)
  refine lv_istore (lv' := [(5, .int k), (4, .int (nI (6 * t))), (3, .ref (s.heap.size + 68)), (2, .ref (s.heap.size + 53)), (1, .ref s.heap.size), (0, .ref b)]) K.1 K.2.1 dL_law_1190 hl (by decide) rfl (fun ls hl => ?_)
  refine lv_aload_n K.1 K.2.1 dL_law_1192 rfl (lv_at hl 3 rfl) ?_
  refine lw_ld (t := t) (k := 1) K hX hbl hG hL hl (i4 := 1) (i0 := 5) rfl rfl (by decide) (by omega) hL9 dL_law_1193 dL_law_1194 dL_law_1196 dL_law_1197 dL_law_1198 ?_
  refine lw_ld (t := t) (k := 2) K hX hbl hG hL hl (i4 := 1) (i0 := 5) rfl rfl (by decide) (by omega) hL9 dL_law_1199 dL_law_1200 dL_law_1202 dL_law_1203 dL_law_1204 ?_
  refine ah_callV (n := 2) (As := [.int (xs (6 * t + 1)), .int (xs (6 * t + 2))]) (rest := []) K hG hL hl.1 eq2 rfl (ctX11_element l s.heap D ca M1 z1 (s.heap.size + 53) (xs (6 * t + 1)) (xs (6 * t + 2)) (v, M2) e2) (by decide +kernel) q_1253 q_1254 q_54 q_1256 q_1255 ⟨Nat.le_of_ble_eq_true rfl, Nat.le_of_ble_eq_true rfl⟩ rfl rfl (Nat.le_of_ble_eq_true rfl) ⟨by show cells + 1 + 0 ≤ 600128; omega, by show slots + 6 + 0 ≤ 7301098; omega⟩ dL_law_1205 (fun H locs hG hL => ?_)
  refine lv_lstore (lv' := [(6, .long v), (5, .int k), (4, .int (nI (6 * t))), (3, .ref (s.heap.size + 68)), (2, .ref (s.heap.size + 53)), (1, .ref s.heap.size), (0, .ref b)]) K.1 K.2.1 dL_law_1208 hl (by decide) rfl (fun ls hl => ?_)
  refine lv_aload_n K.1 K.2.1 dL_law_1210 rfl (lv_at hl 4 rfl) ?_
  refine ah_callV (n := 0) (As := []) (rest := []) K hG hL hl.1 eq3 rfl (ctX11_thrown l s.heap D ca M2 z1 (s.heap.size + 53) k e3) (by decide +kernel) q_956 q_957 q_54 q_959 q_958 ⟨Nat.le_of_ble_eq_true rfl, Nat.le_of_ble_eq_true rfl⟩ rfl rfl (Nat.le_of_ble_eq_true rfl) ⟨by show cells + 1 + 0 + 0 ≤ 600128; omega, by show slots + 6 + 0 + 0 ≤ 7301098; omega⟩ dL_law_1211 (fun H locs hG hL => ?_)
  refine lv_iload K.1 K.2.1 dL_law_1214 (lv_at hl 1 rfl) ?_
  refine lv_icmp_eq (tgt := 1221) K.1 K.2.1 dL_law_1216 (by decide) (fun _ => ?_) (fun h => absurd rfl h)
  refine lv_iload K.1 K.2.1 dL_law_1221 (lv_at hl 1 rfl) ?_
  have fin : ∀ ls, lv_has ls 8 [(6, .long v), (5, .int k), (4, .int (nI (6 * t))), (3, .ref (s.heap.size + 68)), (2, .ref (s.heap.size + 53)), (1, .ref s.heap.size), (0, .ref b)] → W p l e room_1 s m args below meth c H locs (cells + 1 + 0 + 0) (slots + 6 + 0 + 0) Q (F0 m 1237 ls []) := fun ls hl => by
    refine lv_goto (tgt := 1363) K.1 K.2.1 dL_law_1237 (by decide) ?_
    exact kn M2 z1 τ' _ _ _ _ _ hG hL (wd_up hw2 hz) (lv_sub hl [2, 3, 4, 5, 6] rfl) (by show cells + 1 + 0 + 0 ≤ _; omega) (by show slots + 6 + 0 + 0 ≤ _; omega)
  refine lv_if_ne (tgt := 1237) K.1 K.2.1 dL_law_1223 (by decide) (fun _ => fin _ hl) (fun h0 => ?_)
  refine lv_aload_n K.1 K.2.1 dL_law_1226 rfl (lv_at hl 3 rfl) ?_
  refine lv_iconst (v := 0) K.1 K.2.1 dL_law_1227 (by decide) ?_
  refine ah_lald K hG (e4 h0) dL_law_1228 ?_
  refine lv_lload K.1 K.2.1 dL_law_1229 (lv_at hl 0 rfl) ?_
  refine W.lcmp K.1 K.2.1 dL_law_1231 ?_
  rw [lw_cmp]
  exact lv_if_eq (tgt := 1237) K.1 K.2.1 dL_law_1232 (by decide) (fun _ => fin _ hl) (fun h => absurd rfl h)
set_option maxRecDepth 100000 in
set_option maxHeartbeats 4000000 in
theorem lc_29 (K : ah_K p s m args meth c D ca "ShipsThatMeetLaw" code 8 ret) (hX : va_X b L xs s s.heap) (hbl : b < s.heap.size) (ht : 6 * t + 6 ≤ L) (hL9 : L ≤ 384) (hG : ah_g s.heap D ca M z H) (hL : ah_L s.heap locs) (hw : wd s.heap.size M z τ) (hl : lv_has ls 8 (lw_lv s.heap.size b t)) (hc : cells ≤ 700 + 300 * t) (hs : slots ≤ 40000 + 600 * t) (kn : lw_N p l e s m args below meth c Q D ca b t) : W p l e room_1 s m args below meth c H locs cells slots Q (F0 m 1240 ls []) := by
  have hl : lv_has ls 8 [(4, .int (nI (6 * t))), (3, .ref (s.heap.size + 68)), (2, .ref (s.heap.size + 53)), (1, .ref s.heap.size), (0, .ref b)] := hl
  have ht64 : t < 64 := by omega
  obtain ⟨v, M1, M2, τ', e1, e2, hw2⟩ := p_copy hw (xs (6 * t + 1)) (xs (6 * t + 2)) (xs (6 * t + 3)) (xs (6 * t + 4)) (xs (6 * t + 5))
  obtain ⟨q1, eq1⟩ := ah_this e1
  obtain ⟨q2, eq2⟩ := ah_this e2
  refine lv_aload_n K.1 K.2.1 dL_law_1240 rfl (lv_at hl 3 rfl) ?_
  refine lw_ld (t := t) (k := 1) K hX hbl hG hL hl (i4 := 0) (i0 := 4) rfl rfl (by decide) (by omega) hL9 dL_law_1241 dL_law_1242 dL_law_1244 dL_law_1245 dL_law_1246 ?_
  refine lw_ld (t := t) (k := 2) K hX hbl hG hL hl (i4 := 0) (i0 := 4) rfl rfl (by decide) (by omega) hL9 dL_law_1247 dL_law_1248 dL_law_1250 dL_law_1251 dL_law_1252 ?_
  refine lw_ld (t := t) (k := 3) K hX hbl hG hL hl (i4 := 0) (i0 := 4) rfl rfl (by decide) (by omega) hL9 dL_law_1253 dL_law_1254 dL_law_1256 dL_law_1257 dL_law_1258 ?_
  refine lw_ld (t := t) (k := 4) K hX hbl hG hL hl (i4 := 0) (i0 := 4) rfl rfl (by decide) (by omega) hL9 dL_law_1259 dL_law_1260 dL_law_1262 dL_law_1263 dL_law_1264 ?_
  refine lw_ld (t := t) (k := 5) K hX hbl hG hL hl (i4 := 0) (i0 := 4) rfl rfl (by decide) (by omega) hL9 dL_law_1265 dL_law_1266 dL_law_1268 dL_law_1269 dL_law_1270 ?_
  refine ah_callV (n := 5) (As := [.int (xs (6 * t + 1)), .int (xs (6 * t + 2)), .int (xs (6 * t + 3)), .int (xs (6 * t + 4)), .int (xs (6 * t + 5))]) (rest := []) K hG hL hl.1 eq1 rfl (ctX10_copy l s.heap D ca M z s.heap.size (xs (6 * t + 1)) (xs (6 * t + 2)) (xs (6 * t + 3)) (xs (6 * t + 4)) (xs (6 * t + 5)) (v, M1) e1) (by decide +kernel) q_696 q_697 q_50 q_699 q_698 ⟨Nat.le_of_ble_eq_true rfl, Nat.le_of_ble_eq_true rfl⟩ rfl rfl (Nat.le_of_ble_eq_true rfl) ⟨by show cells + 0 ≤ 600128; omega, by show slots + 0 ≤ 7301098; omega⟩ dL_law_1271 (fun H locs hG hL => ?_)
  refine lv_aload_n K.1 K.2.1 dL_law_1274 rfl (lv_at hl 2 rfl) ?_
  refine lw_ld (t := t) (k := 1) K hX hbl hG hL hl (i4 := 0) (i0 := 4) rfl rfl (by decide) (by omega) hL9 dL_law_1275 dL_law_1276 dL_law_1278 dL_law_1279 dL_law_1280 ?_
  refine lw_ld (t := t) (k := 2) K hX hbl hG hL hl (i4 := 0) (i0 := 4) rfl rfl (by decide) (by omega) hL9 dL_law_1281 dL_law_1282 dL_law_1284 dL_law_1285 dL_law_1286 ?_
  refine lw_ld (t := t) (k := 3) K hX hbl hG hL hl (i4 := 0) (i0 := 4) rfl rfl (by decide) (by omega) hL9 dL_law_1287 dL_law_1288 dL_law_1290 dL_law_1291 dL_law_1292 ?_
  refine lw_ld (t := t) (k := 4) K hX hbl hG hL hl (i4 := 0) (i0 := 4) rfl rfl (by decide) (by omega) hL9 dL_law_1293 dL_law_1294 dL_law_1296 dL_law_1297 dL_law_1298 ?_
  refine lw_ld (t := t) (k := 5) K hX hbl hG hL hl (i4 := 0) (i0 := 4) rfl rfl (by decide) (by omega) hL9 dL_law_1299 dL_law_1300 dL_law_1302 dL_law_1303 dL_law_1304 ?_
  refine ah_callV (n := 5) (As := [.int (xs (6 * t + 1)), .int (xs (6 * t + 2)), .int (xs (6 * t + 3)), .int (xs (6 * t + 4)), .int (xs (6 * t + 5))]) (rest := [.int v]) K hG hL hl.1 eq2 rfl (ctX11_copy l s.heap D ca M1 z (s.heap.size + 53) (xs (6 * t + 1)) (xs (6 * t + 2)) (xs (6 * t + 3)) (xs (6 * t + 4)) (xs (6 * t + 5)) (v, M2) e2) (by decide +kernel) q_1257 q_1258 q_54 q_1260 q_1259 ⟨Nat.le_of_ble_eq_true rfl, Nat.le_of_ble_eq_true rfl⟩ rfl rfl (Nat.le_of_ble_eq_true rfl) ⟨by show cells + 0 + 0 ≤ 600128; omega, by show slots + 0 + 0 ≤ 7301098; omega⟩ dL_law_1305 (fun H locs hG hL => ?_)
  exact lv_icmp_eq (tgt := 1363) K.1 K.2.1 dL_law_1308 (by decide) (fun _ => kn M2 z τ' _ _ _ _ _ hG hL hw2 hl (by show cells + 0 + 0 ≤ _; omega) (by show slots + 0 + 0 ≤ _; omega)) (fun h => absurd rfl h)
set_option maxRecDepth 100000 in
set_option maxHeartbeats 4000000 in
theorem lc_30 (K : ah_K p s m args meth c D ca "ShipsThatMeetLaw" code 8 ret) (hX : va_X b L xs s s.heap) (hbl : b < s.heap.size) (ht : 6 * t + 6 ≤ L) (hL9 : L ≤ 384) (hG : ah_g s.heap D ca M z H) (hL : ah_L s.heap locs) (hw : wd s.heap.size M z τ) (hl : lv_has ls 8 (lw_lv s.heap.size b t)) (hc : cells ≤ 700 + 300 * t) (hs : slots ≤ 40000 + 600 * t) (kn : lw_N p l e s m args below meth c Q D ca b t) : W p l e room_1 s m args below meth c H locs cells slots Q (F0 m 1313 ls []) := by
  have hl : lv_has ls 8 [(4, .int (nI (6 * t))), (3, .ref (s.heap.size + 68)), (2, .ref (s.heap.size + 53)), (1, .ref s.heap.size), (0, .ref b)] := hl
  have ht64 : t < 64 := by omega
  obtain ⟨v, e1, e2⟩ := p_pay hw (xs (6 * t + 1))
  obtain ⟨q1, eq1⟩ := ah_this e1
  obtain ⟨q2, eq2⟩ := ah_this e2
  refine lv_aload_n K.1 K.2.1 dL_law_1313 rfl (lv_at hl 3 rfl) ?_
  refine lw_ld (t := t) (k := 1) K hX hbl hG hL hl (i4 := 0) (i0 := 4) rfl rfl (by decide) (by omega) hL9 dL_law_1314 dL_law_1315 dL_law_1317 dL_law_1318 dL_law_1319 ?_
  refine ah_callV (n := 1) (As := [.int (xs (6 * t + 1))]) (rest := []) K hG hL hl.1 eq1 rfl (ctX10_pay l s.heap D ca M z s.heap.size (xs (6 * t + 1)) v e1) (by decide +kernel) q_707 q_708 q_50 q_710 q_709 ⟨Nat.le_of_ble_eq_true rfl, Nat.le_of_ble_eq_true rfl⟩ rfl rfl (Nat.le_of_ble_eq_true rfl) ⟨by show cells + 0 ≤ 600128; omega, by show slots + 0 ≤ 7301098; omega⟩ dL_law_1320 (fun H locs hG hL => ?_)
  refine lv_aload_n K.1 K.2.1 dL_law_1323 rfl (lv_at hl 2 rfl) ?_
  refine lw_ld (t := t) (k := 1) K hX hbl hG hL hl (i4 := 0) (i0 := 4) rfl rfl (by decide) (by omega) hL9 dL_law_1324 dL_law_1325 dL_law_1327 dL_law_1328 dL_law_1329 ?_
  refine ah_callV (n := 1) (As := [.int (xs (6 * t + 1))]) (rest := [.int v]) K hG hL hl.1 eq2 rfl (ctX11_pay l s.heap D ca M z (s.heap.size + 53) (xs (6 * t + 1)) v e2) (by decide +kernel) q_1261 q_1262 q_54 q_1264 q_1263 ⟨Nat.le_of_ble_eq_true rfl, Nat.le_of_ble_eq_true rfl⟩ rfl rfl (Nat.le_of_ble_eq_true rfl) ⟨by show cells + 0 + 0 ≤ 600128; omega, by show slots + 0 + 0 ≤ 7301098; omega⟩ dL_law_1330 (fun H locs hG hL => ?_)
  exact lv_icmp_eq (tgt := 1363) K.1 K.2.1 dL_law_1333 (by decide) (fun _ => kn M z τ _ _ _ _ _ hG hL hw hl (by show cells + 0 + 0 ≤ _; omega) (by show slots + 0 + 0 ≤ _; omega)) (fun h => absurd rfl h)
set_option maxRecDepth 100000 in
set_option maxHeartbeats 4000000 in
theorem lc_31 (hl9 : l.stackTraces = false) (hx9 : xk s.heap s) (K : ah_K p s m args meth c D ca "ShipsThatMeetLaw" code 8 ret) (hX : va_X b L xs s s.heap) (hbl : b < s.heap.size) (ht : 6 * t + 6 ≤ L) (hL9 : L ≤ 384) (hG : ah_g s.heap D ca M z H) (hL : ah_L s.heap locs) (hw : wd s.heap.size M z τ) (hl : lv_has ls 8 (lw_lv s.heap.size b t)) (hc : cells ≤ 700 + 300 * t) (hs : slots ≤ 40000 + 600 * t) (kn : lw_N p l e s m args below meth c Q D ca b t) : W p l e room_1 s m args below meth c H locs cells slots Q (F0 m 1338 ls []) := by
  have hl : lv_has ls 8 [(4, .int (nI (6 * t))), (3, .ref (s.heap.size + 68)), (2, .ref (s.heap.size + 53)), (1, .ref s.heap.size), (0, .ref b)] := hl
  have ht64 : t < 64 := by omega
  obtain ⟨v, e1, e2⟩ := p_toss hw (xs (6 * t + 1))
  obtain ⟨q1, eq1⟩ := ah_this e1
  obtain ⟨q2, eq2⟩ := ah_this e2
  refine lv_aload_n K.1 K.2.1 dL_law_1338 rfl (lv_at hl 3 rfl) ?_
  refine lw_ld (t := t) (k := 1) K hX hbl hG hL hl (i4 := 0) (i0 := 4) rfl rfl (by decide) (by omega) hL9 dL_law_1339 dL_law_1340 dL_law_1342 dL_law_1343 dL_law_1344 ?_
  refine ax_callHV (n := 1) (As := [.int (xs (6 * t + 1))]) (rest := []) K hx9 hG hL hl.1 eq1 rfl (hxX10_toss l hl9 s.heap D ca M z s.heap.size (xs (6 * t + 1)) v e1) (by decide +kernel) q_744 q_745 q_50 q_747 q_746 ⟨Nat.le_of_ble_eq_true rfl, Nat.le_of_ble_eq_true rfl⟩ rfl rfl (Nat.le_of_ble_eq_true rfl) ⟨by show cells + 1 ≤ 600128; omega, by show slots + 6 ≤ 7301098; omega⟩ dL_law_1345 (fun z1 H locs hz hG hL => ?_)
  refine lv_aload_n K.1 K.2.1 dL_law_1348 rfl (lv_at hl 2 rfl) ?_
  refine lw_ld (t := t) (k := 1) K hX hbl hG hL hl (i4 := 0) (i0 := 4) rfl rfl (by decide) (by omega) hL9 dL_law_1349 dL_law_1350 dL_law_1352 dL_law_1353 dL_law_1354 ?_
  refine ah_callV (n := 1) (As := [.int (xs (6 * t + 1))]) (rest := [.int v]) K hG hL hl.1 eq2 rfl (ctX11_toss l s.heap D ca M z1 (s.heap.size + 53) (xs (6 * t + 1)) v e2) (by decide +kernel) q_1268 q_1269 q_54 q_1271 q_1270 ⟨Nat.le_of_ble_eq_true rfl, Nat.le_of_ble_eq_true rfl⟩ rfl rfl (Nat.le_of_ble_eq_true rfl) ⟨by show cells + 1 + 0 ≤ 600128; omega, by show slots + 6 + 0 ≤ 7301098; omega⟩ dL_law_1355 (fun H locs hG hL => ?_)
  exact lv_icmp_eq (tgt := 1363) K.1 K.2.1 dL_law_1358 (by decide) (fun _ => kn M z1 τ _ _ _ _ _ hG hL (wd_up hw hz) hl (by show cells + 1 + 0 ≤ _; omega) (by show slots + 6 + 0 ≤ _; omega)) (fun h => absurd rfl h)
end CASES
