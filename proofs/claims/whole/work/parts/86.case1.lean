/-! THE LAW, 3: cases 11 to 21 of its switch (printed by gen/law85.py) -/
section CASES
variable {p : Program} {l : Launch} {e : Env} {s : State} {m : MethodId} {args : Array Value} {below : List Frame} {meth : Method} {c : Code} {H : Heap} {locs : List Loc} {cells slots : Nat} {Q : State → Prop}
variable {D : va_G} {ca : Nat → ClassId} {M : ah_h} {z b L t : Nat} {xs : Nat → Int32} {ls : Array Slot} {τ : md_T}
set_option maxRecDepth 100000 in
set_option maxHeartbeats 4000000 in
theorem lc_11 (K : ah_K p s m args meth c D ca "ShipsThatMeetLaw" code 8 ret) (hX : va_X b L xs s s.heap) (hbl : b < s.heap.size) (ht : 6 * t + 6 ≤ L) (hL9 : L ≤ 384) (hG : ah_g s.heap D ca M z H) (hL : ah_L s.heap locs) (hw : wd s.heap.size M z τ) (hl : lv_has ls 8 (lw_lv s.heap.size b t)) (hc : cells ≤ 700 + 300 * t) (hs : slots ≤ 40000 + 600 * t) (kn : lw_N p l e s m args below meth c Q D ca b t) : W p l e room_1 s m args below meth c H locs cells slots Q (F0 m 616 ls []) := by
  have hl : lv_has ls 8 [(4, .int (nI (6 * t))), (3, .ref (s.heap.size + 68)), (2, .ref (s.heap.size + 53)), (1, .ref s.heap.size), (0, .ref b)] := hl
  have ht64 : t < 64 := by omega
  obtain ⟨v, e1, e2⟩ := p_sailed hw (xs (6 * t + 1))
  obtain ⟨q1, eq1⟩ := ah_this e1
  obtain ⟨q2, eq2⟩ := ah_this e2
  refine lv_aload_n K.1 K.2.1 dL_law_616 rfl (lv_at hl 3 rfl) ?_
  refine lw_ld (t := t) (k := 1) K hX hbl hG hL hl (i4 := 0) (i0 := 4) rfl rfl (by decide) (by omega) hL9 dL_law_617 dL_law_618 dL_law_620 dL_law_621 dL_law_622 ?_
  refine ah_callV (n := 1) (As := [.int (xs (6 * t + 1))]) (rest := []) K hG hL hl.1 eq1 rfl (ctX10_sailed l s.heap D ca M z s.heap.size (xs (6 * t + 1)) v e1) (by decide +kernel) q_573 q_574 q_50 q_576 q_575 ⟨Nat.le_of_ble_eq_true rfl, Nat.le_of_ble_eq_true rfl⟩ rfl rfl (Nat.le_of_ble_eq_true rfl) ⟨by show cells + 0 ≤ 600128; omega, by show slots + 0 ≤ 7301098; omega⟩ dL_law_623 (fun H locs hG hL => ?_)
  refine lv_aload_n K.1 K.2.1 dL_law_626 rfl (lv_at hl 2 rfl) ?_
  refine lw_ld (t := t) (k := 1) K hX hbl hG hL hl (i4 := 0) (i0 := 4) rfl rfl (by decide) (by omega) hL9 dL_law_627 dL_law_628 dL_law_630 dL_law_631 dL_law_632 ?_
  refine ah_callV (n := 1) (As := [.int (xs (6 * t + 1))]) (rest := [.int v]) K hG hL hl.1 eq2 rfl (ctX11_sailed l s.heap D ca M z (s.heap.size + 53) (xs (6 * t + 1)) v e2) (by decide +kernel) q_1163 q_1164 q_54 q_1166 q_1165 ⟨Nat.le_of_ble_eq_true rfl, Nat.le_of_ble_eq_true rfl⟩ rfl rfl (Nat.le_of_ble_eq_true rfl) ⟨by show cells + 0 + 0 ≤ 600128; omega, by show slots + 0 + 0 ≤ 7301098; omega⟩ dL_law_633 (fun H locs hG hL => ?_)
  exact lv_icmp_eq (tgt := 1363) K.1 K.2.1 dL_law_636 (by decide) (fun _ => kn M z τ _ _ _ _ _ hG hL hw hl (by show cells + 0 + 0 ≤ _; omega) (by show slots + 0 + 0 ≤ _; omega)) (fun h => absurd rfl h)
set_option maxRecDepth 100000 in
set_option maxHeartbeats 4000000 in
theorem lc_12 (K : ah_K p s m args meth c D ca "ShipsThatMeetLaw" code 8 ret) (hX : va_X b L xs s s.heap) (hbl : b < s.heap.size) (ht : 6 * t + 6 ≤ L) (hL9 : L ≤ 384) (hG : ah_g s.heap D ca M z H) (hL : ah_L s.heap locs) (hw : wd s.heap.size M z τ) (hl : lv_has ls 8 (lw_lv s.heap.size b t)) (hc : cells ≤ 700 + 300 * t) (hs : slots ≤ 40000 + 600 * t) (kn : lw_N p l e s m args below meth c Q D ca b t) : W p l e room_1 s m args below meth c H locs cells slots Q (F0 m 641 ls []) := by
  have hl : lv_has ls 8 [(4, .int (nI (6 * t))), (3, .ref (s.heap.size + 68)), (2, .ref (s.heap.size + 53)), (1, .ref s.heap.size), (0, .ref b)] := hl
  have ht64 : t < 64 := by omega
  obtain ⟨v, e1, e2⟩ := p_never hw 
  obtain ⟨q1, eq1⟩ := ah_this e1
  obtain ⟨q2, eq2⟩ := ah_this e2
  refine lv_aload_n K.1 K.2.1 dL_law_641 rfl (lv_at hl 3 rfl) ?_
  refine ah_callV (n := 0) (As := []) (rest := []) K hG hL hl.1 eq1 rfl (ctX10_never l s.heap D ca M z s.heap.size  v e1) (by decide +kernel) q_577 q_578 q_50 q_580 q_579 ⟨Nat.le_of_ble_eq_true rfl, Nat.le_of_ble_eq_true rfl⟩ rfl rfl (Nat.le_of_ble_eq_true rfl) ⟨by show cells + 0 ≤ 600128; omega, by show slots + 0 ≤ 7301098; omega⟩ dL_law_642 (fun H locs hG hL => ?_)
  refine lv_aload_n K.1 K.2.1 dL_law_645 rfl (lv_at hl 2 rfl) ?_
  refine ah_callV (n := 0) (As := []) (rest := [.int v]) K hG hL hl.1 eq2 rfl (ctX11_never l s.heap D ca M z (s.heap.size + 53)  v e2) (by decide +kernel) q_1167 q_1168 q_54 q_1170 q_1169 ⟨Nat.le_of_ble_eq_true rfl, Nat.le_of_ble_eq_true rfl⟩ rfl rfl (Nat.le_of_ble_eq_true rfl) ⟨by show cells + 0 + 0 ≤ 600128; omega, by show slots + 0 + 0 ≤ 7301098; omega⟩ dL_law_646 (fun H locs hG hL => ?_)
  exact lv_icmp_eq (tgt := 1363) K.1 K.2.1 dL_law_649 (by decide) (fun _ => kn M z τ _ _ _ _ _ hG hL hw hl (by show cells + 0 + 0 ≤ _; omega) (by show slots + 0 + 0 ≤ _; omega)) (fun h => absurd rfl h)
set_option maxRecDepth 100000 in
set_option maxHeartbeats 4000000 in
theorem lc_13 (K : ah_K p s m args meth c D ca "ShipsThatMeetLaw" code 8 ret) (hX : va_X b L xs s s.heap) (hbl : b < s.heap.size) (ht : 6 * t + 6 ≤ L) (hL9 : L ≤ 384) (hG : ah_g s.heap D ca M z H) (hL : ah_L s.heap locs) (hw : wd s.heap.size M z τ) (hl : lv_has ls 8 (lw_lv s.heap.size b t)) (hc : cells ≤ 700 + 300 * t) (hs : slots ≤ 40000 + 600 * t) (kn : lw_N p l e s m args below meth c Q D ca b t) : W p l e room_1 s m args below meth c H locs cells slots Q (F0 m 654 ls []) := by
  have hl : lv_has ls 8 [(4, .int (nI (6 * t))), (3, .ref (s.heap.size + 68)), (2, .ref (s.heap.size + 53)), (1, .ref s.heap.size), (0, .ref b)] := hl
  have ht64 : t < 64 := by omega
  obtain ⟨v, e1, e2⟩ := p_mixed hw 
  obtain ⟨q1, eq1⟩ := ah_this e1
  obtain ⟨q2, eq2⟩ := ah_this e2
  refine lv_aload_n K.1 K.2.1 dL_law_654 rfl (lv_at hl 3 rfl) ?_
  refine ah_callV (n := 0) (As := []) (rest := []) K hG hL hl.1 eq1 rfl (ctX10_mixed l s.heap D ca M z s.heap.size  v e1) (by decide +kernel) q_581 q_582 q_50 q_584 q_583 ⟨Nat.le_of_ble_eq_true rfl, Nat.le_of_ble_eq_true rfl⟩ rfl rfl (Nat.le_of_ble_eq_true rfl) ⟨by show cells + 0 ≤ 600128; omega, by show slots + 0 ≤ 7301098; omega⟩ dL_law_655 (fun H locs hG hL => ?_)
  refine lv_aload_n K.1 K.2.1 dL_law_658 rfl (lv_at hl 2 rfl) ?_
  refine ah_callV (n := 0) (As := []) (rest := [.int v]) K hG hL hl.1 eq2 rfl (ctX11_mixed l s.heap D ca M z (s.heap.size + 53)  v e2) (by decide +kernel) q_1171 q_1172 q_54 q_1174 q_1173 ⟨Nat.le_of_ble_eq_true rfl, Nat.le_of_ble_eq_true rfl⟩ rfl rfl (Nat.le_of_ble_eq_true rfl) ⟨by show cells + 0 + 0 ≤ 600128; omega, by show slots + 0 + 0 ≤ 7301098; omega⟩ dL_law_659 (fun H locs hG hL => ?_)
  exact lv_icmp_eq (tgt := 1363) K.1 K.2.1 dL_law_662 (by decide) (fun _ => kn M z τ _ _ _ _ _ hG hL hw hl (by show cells + 0 + 0 ≤ _; omega) (by show slots + 0 + 0 ≤ _; omega)) (fun h => absurd rfl h)
set_option maxRecDepth 100000 in
set_option maxHeartbeats 4000000 in
theorem lc_14 (K : ah_K p s m args meth c D ca "ShipsThatMeetLaw" code 8 ret) (hX : va_X b L xs s s.heap) (hbl : b < s.heap.size) (ht : 6 * t + 6 ≤ L) (hL9 : L ≤ 384) (hG : ah_g s.heap D ca M z H) (hL : ah_L s.heap locs) (hw : wd s.heap.size M z τ) (hl : lv_has ls 8 (lw_lv s.heap.size b t)) (hc : cells ≤ 700 + 300 * t) (hs : slots ≤ 40000 + 600 * t) (kn : lw_N p l e s m args below meth c Q D ca b t) : W p l e room_1 s m args below meth c H locs cells slots Q (F0 m 667 ls []) := by
  have hl : lv_has ls 8 [(4, .int (nI (6 * t))), (3, .ref (s.heap.size + 68)), (2, .ref (s.heap.size + 53)), (1, .ref s.heap.size), (0, .ref b)] := hl
  have ht64 : t < 64 := by omega
  obtain ⟨v, M1, M2, τ', e1, e2, hw2⟩ := p_mixesMost hw 
  obtain ⟨q1, eq1⟩ := ah_this e1
  obtain ⟨q2, eq2⟩ := ah_this e2
  refine lv_aload_n K.1 K.2.1 dL_law_667 rfl (lv_at hl 3 rfl) ?_
  refine ah_callV (n := 0) (As := []) (rest := []) K hG hL hl.1 eq1 rfl (ctX10_mixesMost l s.heap D ca M z s.heap.size  (v, M1) e1) (by decide +kernel) q_589 q_590 q_50 q_592 q_591 ⟨Nat.le_of_ble_eq_true rfl, Nat.le_of_ble_eq_true rfl⟩ rfl rfl (Nat.le_of_ble_eq_true rfl) ⟨by show cells + 0 ≤ 600128; omega, by show slots + 0 ≤ 7301098; omega⟩ dL_law_668 (fun H locs hG hL => ?_)
  refine lv_aload_n K.1 K.2.1 dL_law_671 rfl (lv_at hl 2 rfl) ?_
  refine ah_callV (n := 0) (As := []) (rest := [.int v]) K hG hL hl.1 eq2 rfl (ctX11_mixesMost l s.heap D ca M1 z (s.heap.size + 53)  (v, M2) e2) (by decide +kernel) q_1179 q_1180 q_54 q_1182 q_1181 ⟨Nat.le_of_ble_eq_true rfl, Nat.le_of_ble_eq_true rfl⟩ rfl rfl (Nat.le_of_ble_eq_true rfl) ⟨by show cells + 0 + 0 ≤ 600128; omega, by show slots + 0 + 0 ≤ 7301098; omega⟩ dL_law_672 (fun H locs hG hL => ?_)
  exact lv_icmp_eq (tgt := 1363) K.1 K.2.1 dL_law_675 (by decide) (fun _ => kn M2 z τ' _ _ _ _ _ hG hL hw2 hl (by show cells + 0 + 0 ≤ _; omega) (by show slots + 0 + 0 ≤ _; omega)) (fun h => absurd rfl h)
set_option maxRecDepth 100000 in
set_option maxHeartbeats 4000000 in
theorem lc_15 (K : ah_K p s m args meth c D ca "ShipsThatMeetLaw" code 8 ret) (hX : va_X b L xs s s.heap) (hbl : b < s.heap.size) (ht : 6 * t + 6 ≤ L) (hL9 : L ≤ 384) (hG : ah_g s.heap D ca M z H) (hL : ah_L s.heap locs) (hw : wd s.heap.size M z τ) (hl : lv_has ls 8 (lw_lv s.heap.size b t)) (hc : cells ≤ 700 + 300 * t) (hs : slots ≤ 40000 + 600 * t) (kn : lw_N p l e s m args below meth c Q D ca b t) : W p l e room_1 s m args below meth c H locs cells slots Q (F0 m 680 ls []) := by
  have hl : lv_has ls 8 [(4, .int (nI (6 * t))), (3, .ref (s.heap.size + 68)), (2, .ref (s.heap.size + 53)), (1, .ref s.heap.size), (0, .ref b)] := hl
  have ht64 : t < 64 := by omega
  obtain ⟨v, e1, e2⟩ := p_lacks hw (xs (6 * t + 1))
  obtain ⟨q1, eq1⟩ := ah_this e1
  obtain ⟨q2, eq2⟩ := ah_this e2
  refine lv_aload_n K.1 K.2.1 dL_law_680 rfl (lv_at hl 3 rfl) ?_
  refine lw_ld (t := t) (k := 1) K hX hbl hG hL hl (i4 := 0) (i0 := 4) rfl rfl (by decide) (by omega) hL9 dL_law_681 dL_law_682 dL_law_684 dL_law_685 dL_law_686 ?_
  refine ah_callV (n := 1) (As := [.int (xs (6 * t + 1))]) (rest := []) K hG hL hl.1 eq1 rfl (ctX10_lacks l s.heap D ca M z s.heap.size (xs (6 * t + 1)) v e1) (by decide +kernel) q_593 q_594 q_50 q_596 q_595 ⟨Nat.le_of_ble_eq_true rfl, Nat.le_of_ble_eq_true rfl⟩ rfl rfl (Nat.le_of_ble_eq_true rfl) ⟨by show cells + 0 ≤ 600128; omega, by show slots + 0 ≤ 7301098; omega⟩ dL_law_687 (fun H locs hG hL => ?_)
  refine lv_aload_n K.1 K.2.1 dL_law_690 rfl (lv_at hl 2 rfl) ?_
  refine lw_ld (t := t) (k := 1) K hX hbl hG hL hl (i4 := 0) (i0 := 4) rfl rfl (by decide) (by omega) hL9 dL_law_691 dL_law_692 dL_law_694 dL_law_695 dL_law_696 ?_
  refine ah_callV (n := 1) (As := [.int (xs (6 * t + 1))]) (rest := [.int v]) K hG hL hl.1 eq2 rfl (ctX11_lacks l s.heap D ca M z (s.heap.size + 53) (xs (6 * t + 1)) v e2) (by decide +kernel) q_1183 q_1184 q_54 q_1186 q_1185 ⟨Nat.le_of_ble_eq_true rfl, Nat.le_of_ble_eq_true rfl⟩ rfl rfl (Nat.le_of_ble_eq_true rfl) ⟨by show cells + 0 + 0 ≤ 600128; omega, by show slots + 0 + 0 ≤ 7301098; omega⟩ dL_law_697 (fun H locs hG hL => ?_)
  exact lv_icmp_eq (tgt := 1363) K.1 K.2.1 dL_law_700 (by decide) (fun _ => kn M z τ _ _ _ _ _ hG hL hw hl (by show cells + 0 + 0 ≤ _; omega) (by show slots + 0 + 0 ≤ _; omega)) (fun h => absurd rfl h)
set_option maxRecDepth 100000 in
set_option maxHeartbeats 4000000 in
theorem lc_16 (K : ah_K p s m args meth c D ca "ShipsThatMeetLaw" code 8 ret) (hX : va_X b L xs s s.heap) (hbl : b < s.heap.size) (ht : 6 * t + 6 ≤ L) (hL9 : L ≤ 384) (hG : ah_g s.heap D ca M z H) (hL : ah_L s.heap locs) (hw : wd s.heap.size M z τ) (hl : lv_has ls 8 (lw_lv s.heap.size b t)) (hc : cells ≤ 700 + 300 * t) (hs : slots ≤ 40000 + 600 * t) (kn : lw_N p l e s m args below meth c Q D ca b t) : W p l e room_1 s m args below meth c H locs cells slots Q (F0 m 705 ls []) := by
  have hl : lv_has ls 8 [(4, .int (nI (6 * t))), (3, .ref (s.heap.size + 68)), (2, .ref (s.heap.size + 53)), (1, .ref s.heap.size), (0, .ref b)] := hl
  have ht64 : t < 64 := by omega
  obtain ⟨v, M1, M2, τ', e1, e2, hw2⟩ := p_letter hw (xs (6 * t + 1)) (xs (6 * t + 2))
  obtain ⟨q1, eq1⟩ := ah_this e1
  obtain ⟨q2, eq2⟩ := ah_this e2
  refine lv_aload_n K.1 K.2.1 dL_law_705 rfl (lv_at hl 3 rfl) ?_
  refine lw_ld (t := t) (k := 1) K hX hbl hG hL hl (i4 := 0) (i0 := 4) rfl rfl (by decide) (by omega) hL9 dL_law_706 dL_law_707 dL_law_709 dL_law_710 dL_law_711 ?_
  refine lw_ld (t := t) (k := 2) K hX hbl hG hL hl (i4 := 0) (i0 := 4) rfl rfl (by decide) (by omega) hL9 dL_law_712 dL_law_713 dL_law_715 dL_law_716 dL_law_717 ?_
  refine ah_callV (n := 2) (As := [.int (xs (6 * t + 1)), .int (xs (6 * t + 2))]) (rest := []) K hG hL hl.1 eq1 rfl (ctX10_letter l s.heap D ca M z s.heap.size (xs (6 * t + 1)) (xs (6 * t + 2)) (v, M1) e1) (by decide +kernel) q_601 q_602 q_50 q_604 q_603 ⟨Nat.le_of_ble_eq_true rfl, Nat.le_of_ble_eq_true rfl⟩ rfl rfl (Nat.le_of_ble_eq_true rfl) ⟨by show cells + 0 ≤ 600128; omega, by show slots + 0 ≤ 7301098; omega⟩ dL_law_718 (fun H locs hG hL => ?_)
  refine lv_aload_n K.1 K.2.1 dL_law_721 rfl (lv_at hl 2 rfl) ?_
  refine lw_ld (t := t) (k := 1) K hX hbl hG hL hl (i4 := 0) (i0 := 4) rfl rfl (by decide) (by omega) hL9 dL_law_722 dL_law_723 dL_law_725 dL_law_726 dL_law_727 ?_
  refine lw_ld (t := t) (k := 2) K hX hbl hG hL hl (i4 := 0) (i0 := 4) rfl rfl (by decide) (by omega) hL9 dL_law_728 dL_law_729 dL_law_731 dL_law_732 dL_law_733 ?_
  refine ah_callV (n := 2) (As := [.int (xs (6 * t + 1)), .int (xs (6 * t + 2))]) (rest := [.int v]) K hG hL hl.1 eq2 rfl (ctX11_letter l s.heap D ca M1 z (s.heap.size + 53) (xs (6 * t + 1)) (xs (6 * t + 2)) (v, M2) e2) (by decide +kernel) q_1187 q_1188 q_54 q_1190 q_1189 ⟨Nat.le_of_ble_eq_true rfl, Nat.le_of_ble_eq_true rfl⟩ rfl rfl (Nat.le_of_ble_eq_true rfl) ⟨by show cells + 0 + 0 ≤ 600128; omega, by show slots + 0 + 0 ≤ 7301098; omega⟩ dL_law_734 (fun H locs hG hL => ?_)
  exact lv_icmp_eq (tgt := 1363) K.1 K.2.1 dL_law_737 (by decide) (fun _ => kn M2 z τ' _ _ _ _ _ hG hL hw2 hl (by show cells + 0 + 0 ≤ _; omega) (by show slots + 0 + 0 ≤ _; omega)) (fun h => absurd rfl h)
set_option maxRecDepth 100000 in
set_option maxHeartbeats 4000000 in
theorem lc_17 (K : ah_K p s m args meth c D ca "ShipsThatMeetLaw" code 8 ret) (hX : va_X b L xs s s.heap) (hbl : b < s.heap.size) (ht : 6 * t + 6 ≤ L) (hL9 : L ≤ 384) (hG : ah_g s.heap D ca M z H) (hL : ah_L s.heap locs) (hw : wd s.heap.size M z τ) (hl : lv_has ls 8 (lw_lv s.heap.size b t)) (hc : cells ≤ 700 + 300 * t) (hs : slots ≤ 40000 + 600 * t) (kn : lw_N p l e s m args below meth c Q D ca b t) : W p l e room_1 s m args below meth c H locs cells slots Q (F0 m 742 ls []) := by
  have hl : lv_has ls 8 [(4, .int (nI (6 * t))), (3, .ref (s.heap.size + 68)), (2, .ref (s.heap.size + 53)), (1, .ref s.heap.size), (0, .ref b)] := hl
  have ht64 : t < 64 := by omega
  obtain ⟨v, M1, M2, τ', z', e1, e2, hw2, -, -⟩ := p_law hw (xs (6 * t + 1)) (xs (6 * t + 2)) (xs (6 * t + 3)) (xs (6 * t + 4))
  obtain ⟨q1, eq1⟩ := ah_this e1
  obtain ⟨q2, eq2⟩ := ah_this e2
  refine lv_aload_n K.1 K.2.1 dL_law_742 rfl (lv_at hl 3 rfl) ?_
  refine lw_ld (t := t) (k := 1) K hX hbl hG hL hl (i4 := 0) (i0 := 4) rfl rfl (by decide) (by omega) hL9 dL_law_743 dL_law_744 dL_law_746 dL_law_747 dL_law_748 ?_
  refine lw_ld (t := t) (k := 2) K hX hbl hG hL hl (i4 := 0) (i0 := 4) rfl rfl (by decide) (by omega) hL9 dL_law_749 dL_law_750 dL_law_752 dL_law_753 dL_law_754 ?_
  refine lw_ld (t := t) (k := 3) K hX hbl hG hL hl (i4 := 0) (i0 := 4) rfl rfl (by decide) (by omega) hL9 dL_law_755 dL_law_756 dL_law_758 dL_law_759 dL_law_760 ?_
  refine lw_ld (t := t) (k := 4) K hX hbl hG hL hl (i4 := 0) (i0 := 4) rfl rfl (by decide) (by omega) hL9 dL_law_761 dL_law_762 dL_law_764 dL_law_765 dL_law_766 ?_
  refine ah_callV (n := 4) (As := [.int (xs (6 * t + 1)), .int (xs (6 * t + 2)), .int (xs (6 * t + 3)), .int (xs (6 * t + 4))]) (rest := []) K hG hL hl.1 eq1 rfl (ctX10_law l s.heap D ca M z s.heap.size (xs (6 * t + 1)) (xs (6 * t + 2)) (xs (6 * t + 3)) (xs (6 * t + 4)) (v, M1, z') e1) (by decide +kernel) q_609 q_610 q_50 q_612 q_611 ⟨Nat.le_of_ble_eq_true rfl, Nat.le_of_ble_eq_true rfl⟩ rfl rfl (Nat.le_of_ble_eq_true rfl) ⟨by show cells + 1 ≤ 600128; omega, by show slots + 2 ≤ 7301098; omega⟩ dL_law_767 (fun H locs hG hL => ?_)
  refine lv_aload_n K.1 K.2.1 dL_law_770 rfl (lv_at hl 2 rfl) ?_
  refine lw_ld (t := t) (k := 1) K hX hbl hG hL hl (i4 := 0) (i0 := 4) rfl rfl (by decide) (by omega) hL9 dL_law_771 dL_law_772 dL_law_774 dL_law_775 dL_law_776 ?_
  refine lw_ld (t := t) (k := 2) K hX hbl hG hL hl (i4 := 0) (i0 := 4) rfl rfl (by decide) (by omega) hL9 dL_law_777 dL_law_778 dL_law_780 dL_law_781 dL_law_782 ?_
  refine lw_ld (t := t) (k := 3) K hX hbl hG hL hl (i4 := 0) (i0 := 4) rfl rfl (by decide) (by omega) hL9 dL_law_783 dL_law_784 dL_law_786 dL_law_787 dL_law_788 ?_
  refine lw_ld (t := t) (k := 4) K hX hbl hG hL hl (i4 := 0) (i0 := 4) rfl rfl (by decide) (by omega) hL9 dL_law_789 dL_law_790 dL_law_792 dL_law_793 dL_law_794 ?_
  refine ah_callV (n := 4) (As := [.int (xs (6 * t + 1)), .int (xs (6 * t + 2)), .int (xs (6 * t + 3)), .int (xs (6 * t + 4))]) (rest := [.int v]) K hG hL hl.1 eq2 rfl (ctX11_law l s.heap D ca M1 z' (s.heap.size + 53) (xs (6 * t + 1)) (xs (6 * t + 2)) (xs (6 * t + 3)) (xs (6 * t + 4)) (v, M2) e2) (by decide +kernel) q_1195 q_1196 q_54 q_1198 q_1197 ⟨Nat.le_of_ble_eq_true rfl, Nat.le_of_ble_eq_true rfl⟩ rfl rfl (Nat.le_of_ble_eq_true rfl) ⟨by show cells + 1 + 0 ≤ 600128; omega, by show slots + 2 + 0 ≤ 7301098; omega⟩ dL_law_795 (fun H locs hG hL => ?_)
  exact lv_icmp_eq (tgt := 1363) K.1 K.2.1 dL_law_798 (by decide) (fun _ => kn M2 z' τ' _ _ _ _ _ hG hL hw2 hl (by show cells + 1 + 0 ≤ _; omega) (by show slots + 2 + 0 ≤ _; omega)) (fun h => absurd rfl h)
set_option maxRecDepth 100000 in
set_option maxHeartbeats 4000000 in
theorem lc_18 (K : ah_K p s m args meth c D ca "ShipsThatMeetLaw" code 8 ret) (hX : va_X b L xs s s.heap) (hbl : b < s.heap.size) (ht : 6 * t + 6 ≤ L) (hL9 : L ≤ 384) (hG : ah_g s.heap D ca M z H) (hL : ah_L s.heap locs) (hw : wd s.heap.size M z τ) (hl : lv_has ls 8 (lw_lv s.heap.size b t)) (hc : cells ≤ 700 + 300 * t) (hs : slots ≤ 40000 + 600 * t) (kn : lw_N p l e s m args below meth c Q D ca b t) : W p l e room_1 s m args below meth c H locs cells slots Q (F0 m 803 ls []) := by
  have hl : lv_has ls 8 [(4, .int (nI (6 * t))), (3, .ref (s.heap.size + 68)), (2, .ref (s.heap.size + 53)), (1, .ref s.heap.size), (0, .ref b)] := hl
  have ht64 : t < 64 := by omega
  obtain ⟨v, M1, M2, τ', e1, e2, hw2⟩ := p_together hw (xs (6 * t + 1)) (xs (6 * t + 2)) (xs (6 * t + 3))
  obtain ⟨q1, eq1⟩ := ah_this e1
  obtain ⟨q2, eq2⟩ := ah_this e2
  refine lv_aload_n K.1 K.2.1 dL_law_803 rfl (lv_at hl 3 rfl) ?_
  refine lw_ld (t := t) (k := 1) K hX hbl hG hL hl (i4 := 0) (i0 := 4) rfl rfl (by decide) (by omega) hL9 dL_law_804 dL_law_805 dL_law_807 dL_law_808 dL_law_809 ?_
  refine lw_ld (t := t) (k := 2) K hX hbl hG hL hl (i4 := 0) (i0 := 4) rfl rfl (by decide) (by omega) hL9 dL_law_810 dL_law_811 dL_law_813 dL_law_814 dL_law_815 ?_
  refine lw_ld (t := t) (k := 3) K hX hbl hG hL hl (i4 := 0) (i0 := 4) rfl rfl (by decide) (by omega) hL9 dL_law_816 dL_law_817 dL_law_819 dL_law_820 dL_law_821 ?_
  refine ah_callV (n := 3) (As := [.int (xs (6 * t + 1)), .int (xs (6 * t + 2)), .int (xs (6 * t + 3))]) (rest := []) K hG hL hl.1 eq1 rfl (ctX10_together l s.heap D ca M z s.heap.size (xs (6 * t + 1)) (xs (6 * t + 2)) (xs (6 * t + 3)) (v, M1) e1) (by decide +kernel) q_617 q_618 q_50 q_620 q_619 ⟨Nat.le_of_ble_eq_true rfl, Nat.le_of_ble_eq_true rfl⟩ rfl rfl (Nat.le_of_ble_eq_true rfl) ⟨by show cells + 0 ≤ 600128; omega, by show slots + 0 ≤ 7301098; omega⟩ dL_law_822 (fun H locs hG hL => ?_)
  refine lv_aload_n K.1 K.2.1 dL_law_825 rfl (lv_at hl 2 rfl) ?_
  refine lw_ld (t := t) (k := 1) K hX hbl hG hL hl (i4 := 0) (i0 := 4) rfl rfl (by decide) (by omega) hL9 dL_law_826 dL_law_827 dL_law_829 dL_law_830 dL_law_831 ?_
  refine lw_ld (t := t) (k := 2) K hX hbl hG hL hl (i4 := 0) (i0 := 4) rfl rfl (by decide) (by omega) hL9 dL_law_832 dL_law_833 dL_law_835 dL_law_836 dL_law_837 ?_
  refine lw_ld (t := t) (k := 3) K hX hbl hG hL hl (i4 := 0) (i0 := 4) rfl rfl (by decide) (by omega) hL9 dL_law_838 dL_law_839 dL_law_841 dL_law_842 dL_law_843 ?_
  refine ah_callV (n := 3) (As := [.int (xs (6 * t + 1)), .int (xs (6 * t + 2)), .int (xs (6 * t + 3))]) (rest := [.int v]) K hG hL hl.1 eq2 rfl (ctX11_together l s.heap D ca M1 z (s.heap.size + 53) (xs (6 * t + 1)) (xs (6 * t + 2)) (xs (6 * t + 3)) (v, M2) e2) (by decide +kernel) q_1200 q_1201 q_54 q_1203 q_1202 ⟨Nat.le_of_ble_eq_true rfl, Nat.le_of_ble_eq_true rfl⟩ rfl rfl (Nat.le_of_ble_eq_true rfl) ⟨by show cells + 0 + 0 ≤ 600128; omega, by show slots + 0 + 0 ≤ 7301098; omega⟩ dL_law_844 (fun H locs hG hL => ?_)
  exact lv_icmp_eq (tgt := 1363) K.1 K.2.1 dL_law_847 (by decide) (fun _ => kn M2 z τ' _ _ _ _ _ hG hL hw2 hl (by show cells + 0 + 0 ≤ _; omega) (by show slots + 0 + 0 ≤ _; omega)) (fun h => absurd rfl h)
set_option maxRecDepth 100000 in
set_option maxHeartbeats 4000000 in
theorem lc_19 (K : ah_K p s m args meth c D ca "ShipsThatMeetLaw" code 8 ret) (hX : va_X b L xs s s.heap) (hbl : b < s.heap.size) (ht : 6 * t + 6 ≤ L) (hL9 : L ≤ 384) (hG : ah_g s.heap D ca M z H) (hL : ah_L s.heap locs) (hw : wd s.heap.size M z τ) (hl : lv_has ls 8 (lw_lv s.heap.size b t)) (hc : cells ≤ 700 + 300 * t) (hs : slots ≤ 40000 + 600 * t) (kn : lw_N p l e s m args below meth c Q D ca b t) : W p l e room_1 s m args below meth c H locs cells slots Q (F0 m 852 ls []) := by
  have hl : lv_has ls 8 [(4, .int (nI (6 * t))), (3, .ref (s.heap.size + 68)), (2, .ref (s.heap.size + 53)), (1, .ref s.heap.size), (0, .ref b)] := hl
  have ht64 : t < 64 := by omega
  obtain ⟨v, M1, M2, τ', e1, e2, hw2⟩ := p_moved hw (xs (6 * t + 1)) (xs (6 * t + 2))
  obtain ⟨q1, eq1⟩ := ah_this e1
  obtain ⟨q2, eq2⟩ := ah_this e2
  refine lv_aload_n K.1 K.2.1 dL_law_852 rfl (lv_at hl 3 rfl) ?_
  refine lw_ld (t := t) (k := 1) K hX hbl hG hL hl (i4 := 0) (i0 := 4) rfl rfl (by decide) (by omega) hL9 dL_law_853 dL_law_854 dL_law_856 dL_law_857 dL_law_858 ?_
  refine lw_ld (t := t) (k := 2) K hX hbl hG hL hl (i4 := 0) (i0 := 4) rfl rfl (by decide) (by omega) hL9 dL_law_859 dL_law_860 dL_law_862 dL_law_863 dL_law_864 ?_
  refine ah_callV (n := 2) (As := [.int (xs (6 * t + 1)), .int (xs (6 * t + 2))]) (rest := []) K hG hL hl.1 eq1 rfl (ctX10_moved l s.heap D ca M z s.heap.size (xs (6 * t + 1)) (xs (6 * t + 2)) (v, M1) e1) (by decide +kernel) q_621 q_622 q_50 q_624 q_623 ⟨Nat.le_of_ble_eq_true rfl, Nat.le_of_ble_eq_true rfl⟩ rfl rfl (Nat.le_of_ble_eq_true rfl) ⟨by show cells + 0 ≤ 600128; omega, by show slots + 0 ≤ 7301098; omega⟩ dL_law_865 (fun H locs hG hL => ?_)
  refine lv_aload_n K.1 K.2.1 dL_law_868 rfl (lv_at hl 2 rfl) ?_
  refine lw_ld (t := t) (k := 1) K hX hbl hG hL hl (i4 := 0) (i0 := 4) rfl rfl (by decide) (by omega) hL9 dL_law_869 dL_law_870 dL_law_872 dL_law_873 dL_law_874 ?_
  refine lw_ld (t := t) (k := 2) K hX hbl hG hL hl (i4 := 0) (i0 := 4) rfl rfl (by decide) (by omega) hL9 dL_law_875 dL_law_876 dL_law_878 dL_law_879 dL_law_880 ?_
  refine ah_callV (n := 2) (As := [.int (xs (6 * t + 1)), .int (xs (6 * t + 2))]) (rest := [.int v]) K hG hL hl.1 eq2 rfl (ctX11_moved l s.heap D ca M1 z (s.heap.size + 53) (xs (6 * t + 1)) (xs (6 * t + 2)) (v, M2) e2) (by decide +kernel) q_1204 q_1205 q_54 q_1207 q_1206 ⟨Nat.le_of_ble_eq_true rfl, Nat.le_of_ble_eq_true rfl⟩ rfl rfl (Nat.le_of_ble_eq_true rfl) ⟨by show cells + 0 + 0 ≤ 600128; omega, by show slots + 0 + 0 ≤ 7301098; omega⟩ dL_law_881 (fun H locs hG hL => ?_)
  exact lv_icmp_eq (tgt := 1363) K.1 K.2.1 dL_law_884 (by decide) (fun _ => kn M2 z τ' _ _ _ _ _ hG hL hw2 hl (by show cells + 0 + 0 ≤ _; omega) (by show slots + 0 + 0 ≤ _; omega)) (fun h => absurd rfl h)
set_option maxRecDepth 100000 in
set_option maxHeartbeats 4000000 in
theorem lc_20 (K : ah_K p s m args meth c D ca "ShipsThatMeetLaw" code 8 ret) (hX : va_X b L xs s s.heap) (hbl : b < s.heap.size) (ht : 6 * t + 6 ≤ L) (hL9 : L ≤ 384) (hG : ah_g s.heap D ca M z H) (hL : ah_L s.heap locs) (hw : wd s.heap.size M z τ) (hl : lv_has ls 8 (lw_lv s.heap.size b t)) (hc : cells ≤ 700 + 300 * t) (hs : slots ≤ 40000 + 600 * t) (kn : lw_N p l e s m args below meth c Q D ca b t) : W p l e room_1 s m args below meth c H locs cells slots Q (F0 m 889 ls []) := by
  have hl : lv_has ls 8 [(4, .int (nI (6 * t))), (3, .ref (s.heap.size + 68)), (2, .ref (s.heap.size + 53)), (1, .ref s.heap.size), (0, .ref b)] := hl
  have ht64 : t < 64 := by omega
  obtain ⟨v, M1, M2, τ', e1, e2, hw2⟩ := p_seeded hw (xs (6 * t + 1)) (xs (6 * t + 2)) (xs (6 * t + 3))
  obtain ⟨q1, eq1⟩ := ah_this e1
  obtain ⟨q2, eq2⟩ := ah_this e2
  refine lv_aload_n K.1 K.2.1 dL_law_889 rfl (lv_at hl 3 rfl) ?_
  refine lw_ld (t := t) (k := 1) K hX hbl hG hL hl (i4 := 0) (i0 := 4) rfl rfl (by decide) (by omega) hL9 dL_law_890 dL_law_891 dL_law_893 dL_law_894 dL_law_895 ?_
  refine lw_ld (t := t) (k := 2) K hX hbl hG hL hl (i4 := 0) (i0 := 4) rfl rfl (by decide) (by omega) hL9 dL_law_896 dL_law_897 dL_law_899 dL_law_900 dL_law_901 ?_
  refine lw_ld (t := t) (k := 3) K hX hbl hG hL hl (i4 := 0) (i0 := 4) rfl rfl (by decide) (by omega) hL9 dL_law_902 dL_law_903 dL_law_905 dL_law_906 dL_law_907 ?_
  refine ah_callV (n := 3) (As := [.int (xs (6 * t + 1)), .int (xs (6 * t + 2)), .int (xs (6 * t + 3))]) (rest := []) K hG hL hl.1 eq1 rfl (ctX10_seeded l s.heap D ca M z s.heap.size (xs (6 * t + 1)) (xs (6 * t + 2)) (xs (6 * t + 3)) (v, M1) e1) (by decide +kernel) q_625 q_626 q_50 q_628 q_627 ⟨Nat.le_of_ble_eq_true rfl, Nat.le_of_ble_eq_true rfl⟩ rfl rfl (Nat.le_of_ble_eq_true rfl) ⟨by show cells + 0 ≤ 600128; omega, by show slots + 0 ≤ 7301098; omega⟩ dL_law_908 (fun H locs hG hL => ?_)
  refine lv_aload_n K.1 K.2.1 dL_law_911 rfl (lv_at hl 2 rfl) ?_
  refine lw_ld (t := t) (k := 1) K hX hbl hG hL hl (i4 := 0) (i0 := 4) rfl rfl (by decide) (by omega) hL9 dL_law_912 dL_law_913 dL_law_915 dL_law_916 dL_law_917 ?_
  refine lw_ld (t := t) (k := 2) K hX hbl hG hL hl (i4 := 0) (i0 := 4) rfl rfl (by decide) (by omega) hL9 dL_law_918 dL_law_919 dL_law_921 dL_law_922 dL_law_923 ?_
  refine lw_ld (t := t) (k := 3) K hX hbl hG hL hl (i4 := 0) (i0 := 4) rfl rfl (by decide) (by omega) hL9 dL_law_924 dL_law_925 dL_law_927 dL_law_928 dL_law_929 ?_
  refine ah_callV (n := 3) (As := [.int (xs (6 * t + 1)), .int (xs (6 * t + 2)), .int (xs (6 * t + 3))]) (rest := [.int v]) K hG hL hl.1 eq2 rfl (ctX11_seeded l s.heap D ca M1 z (s.heap.size + 53) (xs (6 * t + 1)) (xs (6 * t + 2)) (xs (6 * t + 3)) (v, M2) e2) (by decide +kernel) q_1208 q_1209 q_54 q_1211 q_1210 ⟨Nat.le_of_ble_eq_true rfl, Nat.le_of_ble_eq_true rfl⟩ rfl rfl (Nat.le_of_ble_eq_true rfl) ⟨by show cells + 0 + 0 ≤ 600128; omega, by show slots + 0 + 0 ≤ 7301098; omega⟩ dL_law_930 (fun H locs hG hL => ?_)
  exact lv_icmp_eq (tgt := 1363) K.1 K.2.1 dL_law_933 (by decide) (fun _ => kn M2 z τ' _ _ _ _ _ hG hL hw2 hl (by show cells + 0 + 0 ≤ _; omega) (by show slots + 0 + 0 ≤ _; omega)) (fun h => absurd rfl h)
set_option maxRecDepth 100000 in
set_option maxHeartbeats 4000000 in
theorem lc_21 (K : ah_K p s m args meth c D ca "ShipsThatMeetLaw" code 8 ret) (hX : va_X b L xs s s.heap) (hbl : b < s.heap.size) (ht : 6 * t + 6 ≤ L) (hL9 : L ≤ 384) (hG : ah_g s.heap D ca M z H) (hL : ah_L s.heap locs) (hw : wd s.heap.size M z τ) (hl : lv_has ls 8 (lw_lv s.heap.size b t)) (hc : cells ≤ 700 + 300 * t) (hs : slots ≤ 40000 + 600 * t) (kn : lw_N p l e s m args below meth c Q D ca b t) : W p l e room_1 s m args below meth c H locs cells slots Q (F0 m 938 ls []) := by
  have hl : lv_has ls 8 [(4, .int (nI (6 * t))), (3, .ref (s.heap.size + 68)), (2, .ref (s.heap.size + 53)), (1, .ref s.heap.size), (0, .ref b)] := hl
  have ht64 : t < 64 := by omega
  obtain ⟨v, M1, M2, τ', e1, e2, hw2⟩ := p_judge hw (xs (6 * t + 1))
  obtain ⟨q1, eq1⟩ := ah_this e1
  obtain ⟨q2, eq2⟩ := ah_this e2
  refine lv_aload_n K.1 K.2.1 dL_law_938 rfl (lv_at hl 3 rfl) ?_
  refine lw_ld (t := t) (k := 1) K hX hbl hG hL hl (i4 := 0) (i0 := 4) rfl rfl (by decide) (by omega) hL9 dL_law_939 dL_law_940 dL_law_942 dL_law_943 dL_law_944 ?_
  refine ah_callV (n := 1) (As := [.int (xs (6 * t + 1))]) (rest := []) K hG hL hl.1 eq1 rfl (ctX10_judge l s.heap D ca M z s.heap.size (xs (6 * t + 1)) (v, M1) e1) (by decide +kernel) q_638 q_639 q_50 q_641 q_640 ⟨Nat.le_of_ble_eq_true rfl, Nat.le_of_ble_eq_true rfl⟩ rfl rfl (Nat.le_of_ble_eq_true rfl) ⟨by show cells + 0 ≤ 600128; omega, by show slots + 0 ≤ 7301098; omega⟩ dL_law_945 (fun H locs hG hL => ?_)
  refine lv_aload_n K.1 K.2.1 dL_law_948 rfl (lv_at hl 2 rfl) ?_
  refine lw_ld (t := t) (k := 1) K hX hbl hG hL hl (i4 := 0) (i0 := 4) rfl rfl (by decide) (by omega) hL9 dL_law_949 dL_law_950 dL_law_952 dL_law_953 dL_law_954 ?_
  refine ah_callV (n := 1) (As := [.int (xs (6 * t + 1))]) (rest := [.int v]) K hG hL hl.1 eq2 rfl (ctX11_judge l s.heap D ca M1 z (s.heap.size + 53) (xs (6 * t + 1)) (v, M2) e2) (by decide +kernel) q_1220 q_1221 q_54 q_1223 q_1222 ⟨Nat.le_of_ble_eq_true rfl, Nat.le_of_ble_eq_true rfl⟩ rfl rfl (Nat.le_of_ble_eq_true rfl) ⟨by show cells + 0 + 0 ≤ 600128; omega, by show slots + 0 + 0 ≤ 7301098; omega⟩ dL_law_955 (fun H locs hG hL => ?_)
  exact lv_icmp_eq (tgt := 1363) K.1 K.2.1 dL_law_958 (by decide) (fun _ => kn M2 z τ' _ _ _ _ _ hG hL hw2 hl (by show cells + 0 + 0 ≤ _; omega) (by show slots + 0 + 0 ≤ _; omega)) (fun h => absurd rfl h)
end CASES
