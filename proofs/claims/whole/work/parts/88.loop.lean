/-! THE LAW, 5: its loop, its start (printed by gen/law85.py) -/
section LOOP
variable {p : Program} {l : Launch} {e : Env} {s : State} {m : MethodId} {below : List Frame} {meth : Method} {c : Code} {b L : Nat} {xs : Nat → Int32} {D : va_G} {ca : Nat → ClassId}
set_option maxRecDepth 100000 in
set_option maxHeartbeats 4000000 in
theorem lw_loop (hl9 : l.stackTraces = false) (hL9 : L ≤ 384) (C0 : lw_At p s m meth c b L xs) (K : ah_K p s m #[Value.ref b] meth c D ca "ShipsThatMeetLaw" code 8 ret) (hx9 : xk s.heap s) : ∀ (n t : Nat) (M : ah_h) (z : Nat) (τ : md_T) (H : Heap) (locs : List Loc) (cells slots : Nat) (ls : Array Slot), 65 - t < n → t ≤ 64 → ah_g s.heap D ca M z H → ah_L s.heap locs → wd s.heap.size M z τ → lv_has ls 8 (lw_lv s.heap.size b t) → cells ≤ 700 + 300 * t → slots ≤ 40000 + 600 * t → W p l e room_1 s m #[Value.ref b] below meth c H locs cells slots (lw_Z below #[Value.ref b] s) (F0 m 23 ls []) := by
  obtain ⟨hx, hb, hr, hml, hown, hts, hX, hbl, hlocks, hgv⟩ := id C0
  intro n
  induction n with
  | zero => intro t M z τ H locs cells slots ls h; omega
  | succ n ih =>
    intro t M z τ H locs cells slots ls hn ht64 hG hL hw hl hc hs
    have hl : lv_has ls 8 [(4, .int (nI (6 * t))), (3, .ref (s.heap.size + 68)), (2, .ref (s.heap.size + 53)), (1, .ref s.heap.size), (0, .ref b)] := hl
    refine lv_iload K.1 K.2.1 dL_law_23 (lv_at hl 0 rfl) ?_
    refine lv_aload_n K.1 K.2.1 dL_law_25 rfl (lv_at hl 4 rfl) ?_
    refine va_slen (A := fun q => s.heap.size ≤ q) K.1 K.2.1 hX hbl (Nat.not_le.mpr hbl) (lw_S hG hL) dL_law_26 ?_
    refine lv_bipush (v := 6) K.1 K.2.1 dL_law_27 (by decide) ?_
    refine lv_isub K.1 K.2.1 dL_law_29 ?_
    have e1 : (Int32.ofNat L - 6).toInt = (L : Int) - 6 := pk_sub_toInt (a := L) (b := 6) (by omega) (by decide)
    have e2 : (nI (6 * t)).toInt = ((6 * t : Nat) : Int) := nI_toInt (by omega)
    refine lv_icmp_gt (tgt := 1369) K.1 K.2.1 dL_law_30 (by decide) (fun _ => ?_) (fun hgt => ?_)
    · refine lv_iconst (v := 1) K.1 K.2.1 dL_law_1369 (by decide) ?_
      refine va_forget hL ?_
      refine W.widen (k := 600128) (n := 7301098) (by omega) (by omega) ?_
      exact lw_ret hx hb hr hlocks dL_law_1370
    · have ht : 6 * t + 6 ≤ L := by
        rw [Int32.lt_iff_toInt_lt, e1, e2] at hgt
        omega
      refine lv_aload_n K.1 K.2.1 dL_law_33 rfl (lv_at hl 4 rfl) ?_
      refine lv_iload K.1 K.2.1 dL_law_34 (lv_at hl 0 rfl) ?_
      refine va_sld (A := fun q => s.heap.size ≤ q) K.1 K.2.1 hX hbl (Nat.not_le.mpr hbl) (lw_S hG hL) (nI_in (show 6 * t < L by omega) (by omega)) dL_law_36 ?_
      refine lv_bipush (v := 31) K.1 K.2.1 dL_law_37 (by decide) ?_
      refine lv_iand K.1 K.2.1 dL_law_39 ?_
      obtain ⟨j, hj, ej⟩ := pk_andE (xs (nI (6 * t)).toNatClampNeg) (m := 31) 5 (by decide)
      rw [ej]
      have kn : lw_N p l e s m #[Value.ref b] below meth c (lw_Z below #[Value.ref b] s) D ca b t := by
        intro M z τ H locs cells slots ls hG hL hw hl hc hs
        have hl : lv_has ls 8 [(4, .int (nI (6 * t))), (3, .ref (s.heap.size + 68)), (2, .ref (s.heap.size + 53)), (1, .ref s.heap.size), (0, .ref b)] := hl
        refine lv_iinc (k := 0) (v := nI (6 * (t + 1))) (lv' := lw_lv s.heap.size b (t + 1)) K.1 K.2.1 dL_law_1363 hl rfl (by rw [show (Int32.ofInt 6 : Int32) = nI 6 from rfl, nI_add]; rfl) (by decide) rfl (fun ls hl => ?_)
        refine lv_goto (tgt := 23) K.1 K.2.1 dL_law_1366 (by decide) ?_
        exact ih (t + 1) M z τ H locs cells slots ls (by omega) (by omega) hG hL hw hl hc hs
      have hj : j < 32 := hj
      rcases (show j = 0 ∨ j = 1 ∨ j = 2 ∨ j = 3 ∨ j = 4 ∨ j = 5 ∨ j = 6 ∨ j = 7 ∨ j = 8 ∨ j = 9 ∨ j = 10 ∨ j = 11 ∨ j = 12 ∨ j = 13 ∨ j = 14 ∨ j = 15 ∨ j = 16 ∨ j = 17 ∨ j = 18 ∨ j = 19 ∨ j = 20 ∨ j = 21 ∨ j = 22 ∨ j = 23 ∨ j = 24 ∨ j = 25 ∨ j = 26 ∨ j = 27 ∨ j = 28 ∨ j = 29 ∨ j = 30 ∨ j = 31 by omega) with rfl | rfl | rfl | rfl | rfl | rfl | rfl | rfl | rfl | rfl | rfl | rfl | rfl | rfl | rfl | rfl | rfl | rfl | rfl | rfl | rfl | rfl | rfl | rfl | rfl | rfl | rfl | rfl | rfl | rfl | rfl | rfl
      · exact lv_tableIn (off := 144) (tgt := 184) K.1 K.2.1 dL_law_40 (by decide) (by decide) (by rfl) (by decide) (lc_0 K hX hbl ht hL9 hG hL hw hl hc hs kn)
      · exact lv_tableIn (off := 169) (tgt := 209) K.1 K.2.1 dL_law_40 (by decide) (by decide) (by rfl) (by decide) (lc_1 K hX hbl ht hL9 hG hL hw hl hc hs kn)
      · exact lv_tableIn (off := 206) (tgt := 246) K.1 K.2.1 dL_law_40 (by decide) (by decide) (by rfl) (by decide) (lc_2 K hX hbl ht hL9 hG hL hw hl hc hs kn)
      · exact lv_tableIn (off := 243) (tgt := 283) K.1 K.2.1 dL_law_40 (by decide) (by decide) (by rfl) (by decide) (lc_3 K hX hbl ht hL9 hG hL hw hl hc hs kn)
      · exact lv_tableIn (off := 280) (tgt := 320) K.1 K.2.1 dL_law_40 (by decide) (by decide) (by rfl) (by decide) (lc_4 K hX hbl ht hL9 hG hL hw hl hc hs kn)
      · exact lv_tableIn (off := 317) (tgt := 357) K.1 K.2.1 dL_law_40 (by decide) (by decide) (by rfl) (by decide) (lc_5 K hX hbl ht hL9 hG hL hw hl hc hs kn)
      · exact lv_tableIn (off := 354) (tgt := 394) K.1 K.2.1 dL_law_40 (by decide) (by decide) (by rfl) (by decide) (lc_6 K hX hbl ht hL9 hG hL hw hl hc hs kn)
      · exact lv_tableIn (off := 391) (tgt := 431) K.1 K.2.1 dL_law_40 (by decide) (by decide) (by rfl) (by decide) (lc_7 K hX hbl ht hL9 hG hL hw hl hc hs kn)
      · exact lv_tableIn (off := 440) (tgt := 480) K.1 K.2.1 dL_law_40 (by decide) (by decide) (by rfl) (by decide) (lc_8 K hX hbl ht hL9 hG hL hw hl hc hs kn)
      · exact lv_tableIn (off := 502) (tgt := 542) K.1 K.2.1 dL_law_40 (by decide) (by decide) (by rfl) (by decide) (lc_9 K hX hbl ht hL9 hG hL hw hl hc hs kn)
      · exact lv_tableIn (off := 551) (tgt := 591) K.1 K.2.1 dL_law_40 (by decide) (by decide) (by rfl) (by decide) (lc_10 K hX hbl ht hL9 hG hL hw hl hc hs kn)
      · exact lv_tableIn (off := 576) (tgt := 616) K.1 K.2.1 dL_law_40 (by decide) (by decide) (by rfl) (by decide) (lc_11 K hX hbl ht hL9 hG hL hw hl hc hs kn)
      · exact lv_tableIn (off := 601) (tgt := 641) K.1 K.2.1 dL_law_40 (by decide) (by decide) (by rfl) (by decide) (lc_12 K hX hbl ht hL9 hG hL hw hl hc hs kn)
      · exact lv_tableIn (off := 614) (tgt := 654) K.1 K.2.1 dL_law_40 (by decide) (by decide) (by rfl) (by decide) (lc_13 K hX hbl ht hL9 hG hL hw hl hc hs kn)
      · exact lv_tableIn (off := 627) (tgt := 667) K.1 K.2.1 dL_law_40 (by decide) (by decide) (by rfl) (by decide) (lc_14 K hX hbl ht hL9 hG hL hw hl hc hs kn)
      · exact lv_tableIn (off := 640) (tgt := 680) K.1 K.2.1 dL_law_40 (by decide) (by decide) (by rfl) (by decide) (lc_15 K hX hbl ht hL9 hG hL hw hl hc hs kn)
      · exact lv_tableIn (off := 665) (tgt := 705) K.1 K.2.1 dL_law_40 (by decide) (by decide) (by rfl) (by decide) (lc_16 K hX hbl ht hL9 hG hL hw hl hc hs kn)
      · exact lv_tableIn (off := 702) (tgt := 742) K.1 K.2.1 dL_law_40 (by decide) (by decide) (by rfl) (by decide) (lc_17 K hX hbl ht hL9 hG hL hw hl hc hs kn)
      · exact lv_tableIn (off := 763) (tgt := 803) K.1 K.2.1 dL_law_40 (by decide) (by decide) (by rfl) (by decide) (lc_18 K hX hbl ht hL9 hG hL hw hl hc hs kn)
      · exact lv_tableIn (off := 812) (tgt := 852) K.1 K.2.1 dL_law_40 (by decide) (by decide) (by rfl) (by decide) (lc_19 K hX hbl ht hL9 hG hL hw hl hc hs kn)
      · exact lv_tableIn (off := 849) (tgt := 889) K.1 K.2.1 dL_law_40 (by decide) (by decide) (by rfl) (by decide) (lc_20 K hX hbl ht hL9 hG hL hw hl hc hs kn)
      · exact lv_tableIn (off := 898) (tgt := 938) K.1 K.2.1 dL_law_40 (by decide) (by decide) (by rfl) (by decide) (lc_21 K hX hbl ht hL9 hG hL hw hl hc hs kn)
      · exact lv_tableIn (off := 923) (tgt := 963) K.1 K.2.1 dL_law_40 (by decide) (by decide) (by rfl) (by decide) (lc_22 K hX hbl ht hL9 hG hL hw hl hc hs kn)
      · exact lv_tableIn (off := 936) (tgt := 976) K.1 K.2.1 dL_law_40 (by decide) (by decide) (by rfl) (by decide) (lc_23 K hX hbl ht hL9 hG hL hw hl hc hs kn)
      · exact lv_tableIn (off := 949) (tgt := 989) K.1 K.2.1 dL_law_40 (by decide) (by decide) (by rfl) (by decide) (lc_24 K hX hbl ht hL9 hG hL hw hl hc hs kn)
      · exact lv_tableIn (off := 974) (tgt := 1014) K.1 K.2.1 dL_law_40 (by decide) (by decide) (by rfl) (by decide) (lc_25 K hX hbl ht hL9 hG hL hw hl hc hs kn)
      · exact lv_tableIn (off := 1035) (tgt := 1075) K.1 K.2.1 dL_law_40 (by decide) (by decide) (by rfl) (by decide) (lc_26 K hX hbl ht hL9 hG hL hw hl hc hs kn)
      · exact lv_tableIn (off := 1084) (tgt := 1124) K.1 K.2.1 dL_law_40 (by decide) (by decide) (by rfl) (by decide) (lc_27 K hX hbl ht hL9 hG hL hw hl hc hs kn)
      · exact lv_tableIn (off := 1133) (tgt := 1173) K.1 K.2.1 dL_law_40 (by decide) (by decide) (by rfl) (by decide) (lc_28 hl9 hx9 K hX hbl ht hL9 hG hL hw hl hc hs kn)
      · exact lv_tableIn (off := 1200) (tgt := 1240) K.1 K.2.1 dL_law_40 (by decide) (by decide) (by rfl) (by decide) (lc_29 K hX hbl ht hL9 hG hL hw hl hc hs kn)
      · exact lv_tableIn (off := 1273) (tgt := 1313) K.1 K.2.1 dL_law_40 (by decide) (by decide) (by rfl) (by decide) (lc_30 K hX hbl ht hL9 hG hL hw hl hc hs kn)
      · exact lv_tableIn (off := 1298) (tgt := 1338) K.1 K.2.1 dL_law_40 (by decide) (by decide) (by rfl) (by decide) (lc_31 hl9 hx9 K hX hbl ht hL9 hG hL hw hl hc hs kn)
end LOOP
set_option maxRecDepth 100000 in
set_option maxHeartbeats 4000000 in
theorem whole_start {p : Program} {e : Env} {s : State} {m : MethodId} {below : List Frame} {meth : Method} {c : Code} (l : Launch) (hflags : l.flags = flags0) {b L : Nat} {xs : Nat → Int32} (hL : L ≤ 384) (C0 : lw_At p s m meth c b L xs) : W p l e room_1 s m #[Value.ref b] below meth c s.heap [] 0 0 (lw_Z below #[Value.ref b] s) (entryFrame m ([Value.ref b] : List Value).toArray 8) := by
  have hl9 := st_nt hflags
  obtain ⟨D, ca, hk⟩ := st_k C0
  have K := st_K C0 hk
  have hx9 := st_x C0
  obtain ⟨M1, M2, e1, e2, hw⟩ := p_init s.heap.size
  have hLo : ah_L s.heap [] := ah_L.nil
  have hG : ah_g s.heap D ca (fun _ => none) s.heap.size s.heap := ⟨rfl, Nat.le_refl _, fun _ _ => rfl, fun q e h => by cases h⟩
  have hl := lv_entry ([.ref b]) (n := 8) (Nat.le_of_ble_eq_true rfl)
  rw [lg_entry_eq]
  generalize (lg_sl ([.ref b]) ++ List.replicate (8 - (lg_sl ([.ref b])).length) Slot.unset).toArray = ls at hl ⊢
  have hl : lv_has ls 8 [(0, .ref b)] := hl
  refine ah_new (ci := 10) (C := "ShipsThatMeet") (T := TX10) (N := 8) K hG tyX10 rfl tyX10_ok inX10 q_70 q_71 q_50 [.null, .null, .null, .int 0, .null, .null, .null, .null] (fun j hj => by rcases (show j = 0 ∨ j = 1 ∨ j = 2 ∨ j = 3 ∨ j = 4 ∨ j = 5 ∨ j = 6 ∨ j = 7 by omega) with rfl | rfl | rfl | rfl | rfl | rfl | rfl | rfl <;> rfl) (Nat.le_of_ble_eq_true rfl) (Nat.le_of_ble_eq_true rfl) dL_law_0 (fun H hG => ?_)
  refine lv_dup K.1 K.2.1 dL_law_3 rfl ?_
  refine ah_callI (n := 0) (As := []) (rest := [.ref s.heap.size]) K hG hLo hl.1 (ctX10_init l s.heap D ca _ _ _ _ e1) rfl (by decide +kernel) q_72 q_73 q_50 q_74 ⟨Nat.le_of_ble_eq_true rfl, Nat.le_of_ble_eq_true rfl⟩ rfl rfl (Nat.le_of_ble_eq_true rfl) ⟨Nat.le_of_ble_eq_true rfl, Nat.le_of_ble_eq_true rfl⟩ dL_law_4 (fun H locs hG hLo => ?_)
  refine lv_astore_n (lv' := [(1, .ref s.heap.size), (0, .ref b)]) K.1 K.2.1 dL_law_7 rfl hl (by decide) rfl (fun ls hl => ?_)
  refine ah_new (ci := 11) (C := "ShipsThatMeetModel") (T := TX11) (N := 24) K hG tyX11 rfl tyX11_ok inX11 q_878 q_879 q_54 [.null, .null, .null, .null, .null, .null, .null, .null, .null, .null, .int 0, .int 0, .int 0, .int 0, .int 0, .int 0, .int 0, .int 0, .null, .null, .null, .int 0, .null, .int 0] (fun j hj => by rcases (show j = 0 ∨ j = 1 ∨ j = 2 ∨ j = 3 ∨ j = 4 ∨ j = 5 ∨ j = 6 ∨ j = 7 ∨ j = 8 ∨ j = 9 ∨ j = 10 ∨ j = 11 ∨ j = 12 ∨ j = 13 ∨ j = 14 ∨ j = 15 ∨ j = 16 ∨ j = 17 ∨ j = 18 ∨ j = 19 ∨ j = 20 ∨ j = 21 ∨ j = 22 ∨ j = 23 by omega) with rfl | rfl | rfl | rfl | rfl | rfl | rfl | rfl | rfl | rfl | rfl | rfl | rfl | rfl | rfl | rfl | rfl | rfl | rfl | rfl | rfl | rfl | rfl | rfl <;> rfl) (Nat.le_of_ble_eq_true rfl) (Nat.le_of_ble_eq_true rfl) dL_law_8 (fun H hG => ?_)
  refine lv_dup K.1 K.2.1 dL_law_11 rfl ?_
  refine ah_callI (n := 0) (As := []) (rest := [.ref (s.heap.size + 53)]) K hG hLo hl.1 (ctX11_init l s.heap D ca _ _ _ _ e2) rfl (by decide +kernel) q_880 q_881 q_54 q_882 ⟨Nat.le_of_ble_eq_true rfl, Nat.le_of_ble_eq_true rfl⟩ rfl rfl (Nat.le_of_ble_eq_true rfl) ⟨Nat.le_of_ble_eq_true rfl, Nat.le_of_ble_eq_true rfl⟩ dL_law_12 (fun H locs hG hLo => ?_)
  refine lv_astore_n (lv' := [(2, .ref (s.heap.size + 53)), (1, .ref s.heap.size), (0, .ref b)]) K.1 K.2.1 dL_law_15 rfl hl (by decide) rfl (fun ls hl => ?_)
  refine lv_iconst (v := 1) K.1 K.2.1 dL_law_16 (by decide) ?_
  refine ah_newj (N := 1) K hG q_205 (by decide) (by decide) (by decide) (Nat.le_of_ble_eq_true rfl) (Nat.le_of_ble_eq_true rfl) dL_law_17 (fun H hG => ?_)
  refine lv_astore_n (lv' := [(3, .ref (s.heap.size + 68)), (2, .ref (s.heap.size + 53)), (1, .ref s.heap.size), (0, .ref b)]) K.1 K.2.1 dL_law_19 rfl hl (by decide) rfl (fun ls hl => ?_)
  refine lv_iconst (v := 0) K.1 K.2.1 dL_law_20 (by decide) ?_
  refine lv_istore (lv' := [(4, .int 0), (3, .ref (s.heap.size + 68)), (2, .ref (s.heap.size + 53)), (1, .ref s.heap.size), (0, .ref b)]) K.1 K.2.1 dL_law_21 hl (by decide) rfl (fun ls hl => ?_)
  exact lw_loop hl9 hL C0 K hx9 66 0 _ _ _ H locs _ _ ls (by omega) (by omega) hG hLo hw hl (Nat.le_of_ble_eq_true rfl) (Nat.le_of_ble_eq_true rfl)
