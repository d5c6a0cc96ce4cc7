/-! EXCEPTIONS, 3: fail, worthOfFailure, element, toss, the law's element (printed by gen/x82.py) -/
def fX0_worthOfFailure (M : ah_h) (a0 : Nat) : Option Int32 := (ah_ob M a0 0).bind fun _ => (fX1_worthOfFailure M a0).bind fun v1 => some (v1 + 100)
set_option maxRecDepth 100000 in
set_option maxHeartbeats 4000000 in
theorem ctX0_worthOfFailure (l : Launch) (H0 : Heap) (D : va_G) (ca : Nat → ClassId) (M : ah_h) (z : Nat) (a0 : Nat) (Z : Int32) (hf : fX0_worthOfFailure M a0 = some Z) : ah_ct l H0 D ca yX0_worthOfFailure cX0_worthOfFailure 1 (some .int) 1 20 0 0 [.ref a0] M z (some (.int Z)) M z := by
  refine ah_of (by decide) (Nat.le_of_ble_eq_true rfl) ?_
  intro p e s m below meth c ls hin K hG hl
  have hL : ah_L H0 [] := ah_L.nil
  have hl : lv_has ls 1 [(0, .ref a0)] := hl
  unfold fX0_worthOfFailure at hf
  obtain ⟨fs, e1, hf⟩ := Option.bind_eq_some_iff.mp hf
  obtain ⟨v1, ev1, hf⟩ := Option.bind_eq_some_iff.mp hf
  refine lv_aload_n K.1 K.2.1 dX0_worthOfFailure_0 rfl (lv_at hl 0 rfl) ?_
  refine ah_callUU (n := 0) (As := []) (rest := []) (x := ⟨"ShipsThatMeet$Want", "worthOfFailure", "()I"⟩) K hG hL hl.1 (ah_ob_some e1) rfl (ctX1_worthOfFailure l H0 D ca M z a0 v1 ev1) rfl (by decide) (by decide +kernel) q_837 q_831 q_52 q_849 q_838 q_303 q_294 ⟨Nat.le_of_ble_eq_true rfl, Nat.le_of_ble_eq_true rfl⟩ rfl rfl (Nat.le_of_ble_eq_true rfl) ⟨Nat.le_of_ble_eq_true rfl, Nat.le_of_ble_eq_true rfl⟩ dX0_worthOfFailure_1 (fun H locs hG hL => ?_)
  refine lv_bipush (v := 100) K.1 K.2.1 dX0_worthOfFailure_4 (by decide) ?_
  refine lv_iadd K.1 K.2.1 dX0_worthOfFailure_6 ?_
  have hf := Option.some.inj hf
  subst hf
  exact ah_iret K hG hL (Nat.le_refl _) (Nat.le_refl _) dX0_worthOfFailure_7
def dv_worthOfFailure (M : ah_h) (a : Nat)  : Option Int32 := (ah_oc M a).bind fun y => if y.1 = 0 then fX0_worthOfFailure M a  else if y.1 = 3 then fX3_worthOfFailure M a  else if y.1 = 4 then fX1_worthOfFailure M a  else if y.1 = 5 then fX1_worthOfFailure M a  else if y.1 = 6 then fX1_worthOfFailure M a  else if y.1 = 8 then fX1_worthOfFailure M a  else if y.1 = 9 then fX1_worthOfFailure M a  else fX1_worthOfFailure M a 
theorem dv_worthOfFailure_call {p : Program} {l : Launch} {e : Env} {R : Room} {s : State} {m : MethodId} {args : Array Value} {below : List Frame} {meth : Method} {c : Code} {H : Heap} {locs : List Loc} {cells slots : Nat} {Q : State → Prop} {cc : ByteArray} {pc : Nat} {ls : Array Slot} {rest : List Value} {D : va_G} {ca : Nat → ClassId} {H0 : Heap} {own : String} {nL : Nat} {ret : Option FieldType} {M : ah_h} {z index : Nat} (K : ah_K p s m args meth c D ca own cc nL ret) (hG : ah_g H0 D ca M z H) (hL : ah_L H0 locs) (hls : ls.size = nL) {a : Nat}  {v : Int32} (h : dv_worthOfFailure M a  = some v) (w1 : Cond.methodLink own index ⟨"ShipsThatMeet$Captain", "worthOfFailure", "()I"⟩ ∈ ah_tb) (hR1 : 5 ≤ R.frames) (hR2 : 100 ≤ R.locals) {st : List Value} (hst : st = ([] : List Value).reverse ++ .ref a :: rest) (hW : (rest.map fun v => v.category).sum ≤ 8) (hf : cells + 0 ≤ R.cells ∧ slots + 0 ≤ R.slots) (hdg : decode cc pc = .ok (.invokevirtual index, 3)) (kk : ∀ (H1 : Heap) (locs1 : List Loc), ah_g H0 D ca M z H1 → ah_L H0 locs1 → W p l e R s m args below meth c H1 locs1 (cells + 0) (slots + 0) Q (F0 m (pc + 3) ls (.int v :: rest))) : W p l e R s m args below meth c H locs cells slots Q (F0 m pc ls st) := by
  obtain ⟨⟨ci, fs⟩, e1, e2⟩ := Option.bind_eq_some_iff.mp h
  obtain ⟨h1, h2⟩ := ah_oc_some e1
  rcases ah_caps h2 with h | h | h | h | h | h | h | h <;> (dsimp only at h; subst h)
  · exact ah_callO (n := 0) (As := []) (x := ⟨"ShipsThatMeet$Captain", "worthOfFailure", "()I"⟩) (owner := "ShipsThatMeet$Captain") K hG hL hls h1 rfl (ctX0_worthOfFailure l H0 D ca M z a  v e2) (by decide +kernel) w1 q_835 q_59 q_836 q_833 q_834 q_831 q_849 ⟨Nat.le_trans (by decide) hR1, Nat.le_trans (by decide) hR2⟩ rfl hst hW hf hdg kk
  · exact ah_callO (n := 0) (As := []) (x := ⟨"ShipsThatMeet$Captain", "worthOfFailure", "()I"⟩) (owner := "ShipsThatMeet$Captain") K hG hL hls h1 rfl (ctX1_worthOfFailure l H0 D ca M z a  v e2) (by decide +kernel) w1 q_831 q_52 q_849 q_833 q_832 q_831 q_849 ⟨Nat.le_trans (by decide) hR1, Nat.le_trans (by decide) hR2⟩ rfl hst hW hf hdg kk
  · exact ah_callO (n := 0) (As := []) (x := ⟨"ShipsThatMeet$Captain", "worthOfFailure", "()I"⟩) (owner := "ShipsThatMeet$Captain") K hG hL hls h1 rfl (ctX3_worthOfFailure l H0 D ca M z a  v e2) (by decide +kernel) w1 q_841 q_61 q_842 q_833 q_840 q_831 q_849 ⟨Nat.le_trans (by decide) hR1, Nat.le_trans (by decide) hR2⟩ rfl hst hW hf hdg kk
  · exact ah_callO (n := 0) (As := []) (x := ⟨"ShipsThatMeet$Captain", "worthOfFailure", "()I"⟩) (owner := "ShipsThatMeet$Captain") K hG hL hls h1 rfl (ctX1_worthOfFailure l H0 D ca M z a  v e2) (by decide +kernel) w1 q_831 q_52 q_849 q_833 q_844 q_831 q_849 ⟨Nat.le_trans (by decide) hR1, Nat.le_trans (by decide) hR2⟩ rfl hst hW hf hdg kk
  · exact ah_callO (n := 0) (As := []) (x := ⟨"ShipsThatMeet$Captain", "worthOfFailure", "()I"⟩) (owner := "ShipsThatMeet$Captain") K hG hL hls h1 rfl (ctX1_worthOfFailure l H0 D ca M z a  v e2) (by decide +kernel) w1 q_831 q_52 q_849 q_833 q_845 q_831 q_849 ⟨Nat.le_trans (by decide) hR1, Nat.le_trans (by decide) hR2⟩ rfl hst hW hf hdg kk
  · exact ah_callO (n := 0) (As := []) (x := ⟨"ShipsThatMeet$Captain", "worthOfFailure", "()I"⟩) (owner := "ShipsThatMeet$Captain") K hG hL hls h1 rfl (ctX1_worthOfFailure l H0 D ca M z a  v e2) (by decide +kernel) w1 q_831 q_52 q_849 q_833 q_846 q_831 q_849 ⟨Nat.le_trans (by decide) hR1, Nat.le_trans (by decide) hR2⟩ rfl hst hW hf hdg kk
  · exact ah_callO (n := 0) (As := []) (x := ⟨"ShipsThatMeet$Captain", "worthOfFailure", "()I"⟩) (owner := "ShipsThatMeet$Captain") K hG hL hls h1 rfl (ctX1_worthOfFailure l H0 D ca M z a  v e2) (by decide +kernel) w1 q_831 q_52 q_849 q_833 q_847 q_831 q_849 ⟨Nat.le_trans (by decide) hR1, Nat.le_trans (by decide) hR2⟩ rfl hst hW hf hdg kk
  · exact ah_callO (n := 0) (As := []) (x := ⟨"ShipsThatMeet$Captain", "worthOfFailure", "()I"⟩) (owner := "ShipsThatMeet$Captain") K hG hL hls h1 rfl (ctX1_worthOfFailure l H0 D ca M z a  v e2) (by decide +kernel) w1 q_831 q_52 q_849 q_833 q_848 q_831 q_849 ⟨Nat.le_trans (by decide) hR1, Nat.le_trans (by decide) hR2⟩ rfl hst hW hf hdg kk
set_option maxRecDepth 100000 in
set_option maxHeartbeats 4000000 in
theorem ctX1_fail (l : Launch) (H0 : Heap) (D : va_G) (ca : Nat → ClassId) (M : ah_h) (z : Nat) (a0 : Nat) (hf : ah_gc M a0 1 = some 0) : ah_ct l H0 D ca yX1_fail cX1_fail 1 none 0 0 0 0 [.ref a0] M z none M z := by
  refine ah_of (by decide) (Nat.le_of_ble_eq_true rfl) ?_
  intro p e s m below meth c ls hin K hG hl
  have hL : ah_L H0 [] := ah_L.nil
  have hl : lv_has ls 1 [(0, .ref a0)] := hl
  refine lv_aload_n K.1 K.2.1 dX1_fail_0 rfl (lv_at hl 0 rfl) ?_
  refine ah_getc K hG hf ffX1_15_c dX1_fail_1 ?_
  refine lv_if_eq (tgt := 17) K.1 K.2.1 dX1_fail_4 (by decide) (fun h3 => ?_) (fun h3 => absurd rfl h3)
  exact ah_vret K hG hL (Nat.le_refl _) (Nat.le_refl _) dX1_fail_17
set_option maxRecDepth 100000 in
set_option maxHeartbeats 4000000 in
theorem txX1_fail (l : Launch) (hl9 : l.stackTraces = false) (H0 : Heap) (D : va_G) (ca : Nat → ClassId) (M : ah_h) (z : Nat) (a0 : Nat) (v : Int32) (hf : ah_gc M a0 1 = some v) (h0 : ¬ v = 0) : ax_T l H0 D ca yX1_fail cX1_fail 1 none 6 90 1 6 [.ref a0] M z xn_S := by
  refine ax_ofT (by decide) (Nat.le_of_ble_eq_true rfl) ?_
  intro p e s m below meth c ls ht K hG hX hl
  have hL : ah_L H0 [] := ah_L.nil
  have hl : lv_has ls 1 [(0, .ref a0)] := hl
  refine lv_aload_n K.1 K.2.1 dX1_fail_0 rfl (lv_at hl 0 rfl) ?_
  refine ah_getc K hG hf ffX1_15_c dX1_fail_1 ?_
  refine lv_if_eq (tgt := 17) K.1 K.2.1 dX1_fail_4 (by decide) (fun h3 => absurd h3 h0) (fun h3 => ?_)
  exact ax_throwS (text := "a captain's failure") K hl9 ht hX hG hG hL hl.1 xa_0 xb_0 xg_0 (by simp) (by decide +kernel) (by decide +kernel) q_763 q_68 (by simp [xk_s]) dX1_fail_7 dX1_fail_10 dX1_fail_11 dX1_fail_13 dX1_fail_16 (Nat.le_of_ble_eq_true rfl) (Nat.le_of_ble_eq_true rfl) (Nat.le_of_ble_eq_true rfl) (Nat.le_of_ble_eq_true rfl) (Nat.le_of_ble_eq_true rfl) (Nat.le_of_ble_eq_true rfl)
theorem dv_fail0 {p : Program} {l : Launch} {e : Env} {R : Room} {s : State} {m : MethodId} {args : Array Value} {below : List Frame} {meth : Method} {c : Code} {H : Heap} {locs : List Loc} {cells slots : Nat} {Q : State → Prop} {cc : ByteArray} {pc : Nat} {ls : Array Slot} {rest : List Value} {D : va_G} {ca : Nat → ClassId} {H0 : Heap} {own : String} {nL : Nat} {ret : Option FieldType} {M : ah_h} {z index : Nat} (K : ah_K p s m args meth c D ca own cc nL ret) (hG : ah_g H0 D ca M z H) (hL : ah_L H0 locs) (hls : ls.size = nL) {a : Nat} {y : Nat × List Value} (h : ah_oc M a = some y) (hy : y.1 = 8 ∨ ah_gc M a 1 = some 0) (w1 : Cond.methodLink own index ⟨"ShipsThatMeet$Captain", "fail", "()V"⟩ ∈ ah_tb) (hR1 : 1 ≤ R.frames) (hR2 : 20 ≤ R.locals) {st : List Value} (hst : st = ([] : List Value).reverse ++ .ref a :: rest) (hW : (rest.map fun v => v.category).sum ≤ 8) (hf : cells + 0 ≤ R.cells ∧ slots + 0 ≤ R.slots) (hdg : decode cc pc = .ok (.invokevirtual index, 3)) (kk : ∀ (H1 : Heap) (locs1 : List Loc), ah_g H0 D ca M z H1 → ah_L H0 locs1 → W p l e R s m args below meth c H1 locs1 (cells + 0) (slots + 0) Q (F0 m (pc + 3) ls rest)) : W p l e R s m args below meth c H locs cells slots Q (F0 m pc ls st) := by
  obtain ⟨h1, h2⟩ := ah_oc_some h
  obtain ⟨ci, fs⟩ := y
  rcases ah_caps h2 with h | h | h | h | h | h | h | h <;> (dsimp only at h; subst h)
  · exact ah_callO (n := 0) (As := []) (x := ⟨"ShipsThatMeet$Captain", "fail", "()V"⟩) (owner := "ShipsThatMeet$Captain") K hG hL hls h1 rfl (ctX1_fail l H0 D ca M z a (hy.resolve_left (fun h => absurd (show (0 : Nat) = 8 from h) (by decide)))) (by decide +kernel) w1 q_750 q_52 q_762 q_752 q_753 q_750 q_762 ⟨Nat.le_trans (by decide) hR1, Nat.le_trans (by decide) hR2⟩ rfl hst hW hf hdg kk
  · exact ah_callO (n := 0) (As := []) (x := ⟨"ShipsThatMeet$Captain", "fail", "()V"⟩) (owner := "ShipsThatMeet$Captain") K hG hL hls h1 rfl (ctX1_fail l H0 D ca M z a (hy.resolve_left (fun h => absurd (show (1 : Nat) = 8 from h) (by decide)))) (by decide +kernel) w1 q_750 q_52 q_762 q_752 q_751 q_750 q_762 ⟨Nat.le_trans (by decide) hR1, Nat.le_trans (by decide) hR2⟩ rfl hst hW hf hdg kk
  · exact ah_callO (n := 0) (As := []) (x := ⟨"ShipsThatMeet$Captain", "fail", "()V"⟩) (owner := "ShipsThatMeet$Captain") K hG hL hls h1 rfl (ctX1_fail l H0 D ca M z a (hy.resolve_left (fun h => absurd (show (3 : Nat) = 8 from h) (by decide)))) (by decide +kernel) w1 q_750 q_52 q_762 q_752 q_754 q_750 q_762 ⟨Nat.le_trans (by decide) hR1, Nat.le_trans (by decide) hR2⟩ rfl hst hW hf hdg kk
  · exact ah_callO (n := 0) (As := []) (x := ⟨"ShipsThatMeet$Captain", "fail", "()V"⟩) (owner := "ShipsThatMeet$Captain") K hG hL hls h1 rfl (ctX1_fail l H0 D ca M z a (hy.resolve_left (fun h => absurd (show (4 : Nat) = 8 from h) (by decide)))) (by decide +kernel) w1 q_750 q_52 q_762 q_752 q_755 q_750 q_762 ⟨Nat.le_trans (by decide) hR1, Nat.le_trans (by decide) hR2⟩ rfl hst hW hf hdg kk
  · exact ah_callO (n := 0) (As := []) (x := ⟨"ShipsThatMeet$Captain", "fail", "()V"⟩) (owner := "ShipsThatMeet$Captain") K hG hL hls h1 rfl (ctX1_fail l H0 D ca M z a (hy.resolve_left (fun h => absurd (show (5 : Nat) = 8 from h) (by decide)))) (by decide +kernel) w1 q_750 q_52 q_762 q_752 q_756 q_750 q_762 ⟨Nat.le_trans (by decide) hR1, Nat.le_trans (by decide) hR2⟩ rfl hst hW hf hdg kk
  · exact ah_callO (n := 0) (As := []) (x := ⟨"ShipsThatMeet$Captain", "fail", "()V"⟩) (owner := "ShipsThatMeet$Captain") K hG hL hls h1 rfl (ctX1_fail l H0 D ca M z a (hy.resolve_left (fun h => absurd (show (6 : Nat) = 8 from h) (by decide)))) (by decide +kernel) w1 q_750 q_52 q_762 q_752 q_757 q_750 q_762 ⟨Nat.le_trans (by decide) hR1, Nat.le_trans (by decide) hR2⟩ rfl hst hW hf hdg kk
  · exact ah_callO (n := 0) (As := []) (x := ⟨"ShipsThatMeet$Captain", "fail", "()V"⟩) (owner := "ShipsThatMeet$Captain") K hG hL hls h1 rfl (ctX8_fail l H0 D ca M z a () rfl) (by decide +kernel) w1 q_759 q_60 q_760 q_752 q_758 q_750 q_762 ⟨Nat.le_trans (by decide) hR1, Nat.le_trans (by decide) hR2⟩ rfl hst hW hf hdg kk
  · exact ah_callO (n := 0) (As := []) (x := ⟨"ShipsThatMeet$Captain", "fail", "()V"⟩) (owner := "ShipsThatMeet$Captain") K hG hL hls h1 rfl (ctX1_fail l H0 D ca M z a (hy.resolve_left (fun h => absurd (show (9 : Nat) = 8 from h) (by decide)))) (by decide +kernel) w1 q_750 q_52 q_762 q_752 q_761 q_750 q_762 ⟨Nat.le_trans (by decide) hR1, Nat.le_trans (by decide) hR2⟩ rfl hst hW hf hdg kk
theorem dv_fail1 {p : Program} {l : Launch} {e : Env} {R : Room} {s : State} {m : MethodId} {args : Array Value} {below : List Frame} {meth : Method} {c : Code} {H : Heap} {locs : List Loc} {cells slots : Nat} {Q : State → Prop} {cc : ByteArray} {pc : Nat} {ls : Array Slot} {rest : List Value} {D : va_G} {ca : Nat → ClassId} {H0 : Heap} {own : String} {nL : Nat} {ret : Option FieldType} {M : ah_h} {z index : Nat} (K : ah_K p s m args meth c D ca own cc nL ret) (hl9 : l.stackTraces = false) (hX : xk H0 s) (hG : ah_g H0 D ca M z H) (hL : ah_L H0 locs) (hls : ls.size = nL) {a : Nat} {y : Nat × List Value} (h : ah_oc M a = some y) (hy : ¬ y.1 = 8) {v : Int32} (hv : ah_gc M a 1 = some v) (h0 : ¬ v = 0) (w1 : Cond.methodLink own index ⟨"ShipsThatMeet$Captain", "fail", "()V"⟩ ∈ ah_tb) (hR1 : 7 ≤ R.frames) (hR2 : 110 ≤ R.locals) {st : List Value} (hst : st = ([] : List Value).reverse ++ .ref a :: rest) (hW : (rest.map fun v => v.category).sum ≤ 8) (hf : cells + 1 ≤ R.cells ∧ slots + 6 ≤ R.slots) (hdg : decode cc pc = .ok (.invokevirtual index, 3)) (kk : ∀ (q9 : Addr) (ce : Cell) (z' : Nat) (H1 : Heap) (locs1 : List Loc), z ≤ z' → ah_g H0 D ca M z' H1 → ah_L H0 locs1 → H1[q9]? = some ce → ce.vm = .none → s.vm.findClass xn_S = some ce.cls → vx_W p l e R s m args below meth c H1 locs1 (cells + 1) (slots + 6) Q (F0 m pc ls rest) q9) : W p l e R s m args below meth c H locs cells slots Q (F0 m pc ls st) := by
  obtain ⟨h1, h2⟩ := ah_oc_some h
  obtain ⟨ci, fs⟩ := y
  rcases ah_caps h2 with h | h | h | h | h | h | h | h <;> (dsimp only at h; subst h)
  · exact ax_callO (n := 0) (As := []) (x := ⟨"ShipsThatMeet$Captain", "fail", "()V"⟩) (owner := "ShipsThatMeet$Captain") K hX hG hL hls h1 rfl (txX1_fail l hl9 H0 D ca M z a v hv h0) (by decide +kernel) w1 q_750 q_52 q_762 q_752 q_753 q_750 q_762 ⟨Nat.le_trans (by decide) hR1, Nat.le_trans (by decide) hR2⟩ rfl hst hW hf hdg kk
  · exact ax_callO (n := 0) (As := []) (x := ⟨"ShipsThatMeet$Captain", "fail", "()V"⟩) (owner := "ShipsThatMeet$Captain") K hX hG hL hls h1 rfl (txX1_fail l hl9 H0 D ca M z a v hv h0) (by decide +kernel) w1 q_750 q_52 q_762 q_752 q_751 q_750 q_762 ⟨Nat.le_trans (by decide) hR1, Nat.le_trans (by decide) hR2⟩ rfl hst hW hf hdg kk
  · exact ax_callO (n := 0) (As := []) (x := ⟨"ShipsThatMeet$Captain", "fail", "()V"⟩) (owner := "ShipsThatMeet$Captain") K hX hG hL hls h1 rfl (txX1_fail l hl9 H0 D ca M z a v hv h0) (by decide +kernel) w1 q_750 q_52 q_762 q_752 q_754 q_750 q_762 ⟨Nat.le_trans (by decide) hR1, Nat.le_trans (by decide) hR2⟩ rfl hst hW hf hdg kk
  · exact ax_callO (n := 0) (As := []) (x := ⟨"ShipsThatMeet$Captain", "fail", "()V"⟩) (owner := "ShipsThatMeet$Captain") K hX hG hL hls h1 rfl (txX1_fail l hl9 H0 D ca M z a v hv h0) (by decide +kernel) w1 q_750 q_52 q_762 q_752 q_755 q_750 q_762 ⟨Nat.le_trans (by decide) hR1, Nat.le_trans (by decide) hR2⟩ rfl hst hW hf hdg kk
  · exact ax_callO (n := 0) (As := []) (x := ⟨"ShipsThatMeet$Captain", "fail", "()V"⟩) (owner := "ShipsThatMeet$Captain") K hX hG hL hls h1 rfl (txX1_fail l hl9 H0 D ca M z a v hv h0) (by decide +kernel) w1 q_750 q_52 q_762 q_752 q_756 q_750 q_762 ⟨Nat.le_trans (by decide) hR1, Nat.le_trans (by decide) hR2⟩ rfl hst hW hf hdg kk
  · exact ax_callO (n := 0) (As := []) (x := ⟨"ShipsThatMeet$Captain", "fail", "()V"⟩) (owner := "ShipsThatMeet$Captain") K hX hG hL hls h1 rfl (txX1_fail l hl9 H0 D ca M z a v hv h0) (by decide +kernel) w1 q_750 q_52 q_762 q_752 q_757 q_750 q_762 ⟨Nat.le_trans (by decide) hR1, Nat.le_trans (by decide) hR2⟩ rfl hst hW hf hdg kk
  · exact absurd rfl hy
  · exact ax_callO (n := 0) (As := []) (x := ⟨"ShipsThatMeet$Captain", "fail", "()V"⟩) (owner := "ShipsThatMeet$Captain") K hX hG hL hls h1 rfl (txX1_fail l hl9 H0 D ca M z a v hv h0) (by decide +kernel) w1 q_750 q_52 q_762 q_752 q_761 q_750 q_762 ⟨Nat.le_trans (by decide) hR1, Nat.le_trans (by decide) hR2⟩ rfl hst hW hf hdg kk
set_option maxRecDepth 100000 in
set_option maxHeartbeats 4000000 in
theorem ctX10_element (l : Launch) (H0 : Heap) (D : va_G) (ca : Nat → ClassId) (M : ah_h) (z : Nat) (a0 : Nat) (x1 x2 : Int32) {v1 : Int32} (hs : fX10_isShelf M x1 = some v1) (h1 : ¬ v1 = 0) {v2 v3 : Nat} {v4 : Int32} (hr : ah_gr M a0 10 4 = some v2) (ha : ah_ar M v2 3 x1 = some v3) (hh : fX7_holdsRow M v3 = some v4) (h4 : ¬ v4 = 0) {v5 : Int32} (hp : fX7_hasPlace M v3 x2 = some v5) (h5 : ¬ v5 = 0) {v6 : Int32} (hat : fX7_at M v3 x2 = some v6) : ah_ct l H0 D ca yX10_element cX10_element 3 (some .long) 6 90 0 0 [.ref a0, .int x1, .int x2] M z (some (.long v6.toInt64)) M z := by
  refine ah_of (by decide) (Nat.le_of_ble_eq_true rfl) ?_
  intro p e s m below meth c ls hin K hG hl
  have hL : ah_L H0 [] := ah_L.nil
  have hl : lv_has ls 3 [(0, .ref a0), (1, .int x1), (2, .int x2)] := hl
  refine lv_iload_n K.1 K.2.1 dX10_element_0 rfl (lv_at hl 1 rfl) ?_
  refine ah_callS (As := [.int x1]) (rest := []) K hG hL hl.1 (ctX10_isShelf l H0 D ca M z x1 v1 hs) hdX10_isShelf q_218 q_219 q_50 q_220 ⟨Nat.le_of_ble_eq_true rfl, Nat.le_of_ble_eq_true rfl⟩ rfl rfl (Nat.le_of_ble_eq_true rfl) ⟨Nat.le_of_ble_eq_true rfl, Nat.le_of_ble_eq_true rfl⟩ dX10_element_1 (fun H locs hG hL => ?_)
  refine lv_if_ne (tgt := 18) K.1 K.2.1 dX10_element_4 (by decide) (fun _ => ?_) (fun h => absurd h h1)
  refine lv_aload_n K.1 K.2.1 dX10_element_18 rfl (lv_at hl 0 rfl) ?_
  refine ah_getr K hG hr ffX10_28_10 dX10_element_19 ?_
  refine lv_iload_n K.1 K.2.1 dX10_element_22 rfl (lv_at hl 1 rfl) ?_
  refine ah_aald (t := 3) K hG ha rfl rfl dX10_element_23 ?_
  obtain ⟨q1, eq1⟩ := ah_this hh
  refine ah_callV (As := []) (rest := []) K hG hL hl.1 eq1 rfl (ctX7_holdsRow l H0 D ca M z v3 v4 hh) hdX7_holdsRow q_225 q_226 q_53 q_228 q_227 ⟨Nat.le_of_ble_eq_true rfl, Nat.le_of_ble_eq_true rfl⟩ rfl rfl (Nat.le_of_ble_eq_true rfl) ⟨Nat.le_of_ble_eq_true rfl, Nat.le_of_ble_eq_true rfl⟩ dX10_element_24 (fun H locs hG hL => ?_)
  refine lv_if_ne (tgt := 41) K.1 K.2.1 dX10_element_27 (by decide) (fun _ => ?_) (fun h => absurd h h4)
  refine lv_aload_n K.1 K.2.1 dX10_element_41 rfl (lv_at hl 0 rfl) ?_
  refine ah_getr K hG hr ffX10_28_10 dX10_element_42 ?_
  refine lv_iload_n K.1 K.2.1 dX10_element_45 rfl (lv_at hl 1 rfl) ?_
  refine ah_aald (t := 3) K hG ha rfl rfl dX10_element_46 ?_
  refine lv_iload_n K.1 K.2.1 dX10_element_47 rfl (lv_at hl 2 rfl) ?_
  obtain ⟨q2, eq2⟩ := ah_this hp
  refine ah_callV (As := [.int x2]) (rest := []) K hG hL hl.1 eq2 rfl (ctX7_hasPlace l H0 D ca M z v3 x2 v5 hp) hdX7_hasPlace q_691 q_237 q_53 q_239 q_238 ⟨Nat.le_of_ble_eq_true rfl, Nat.le_of_ble_eq_true rfl⟩ rfl rfl (Nat.le_of_ble_eq_true rfl) ⟨Nat.le_of_ble_eq_true rfl, Nat.le_of_ble_eq_true rfl⟩ dX10_element_48 (fun H locs hG hL => ?_)
  refine lv_if_ne (tgt := 65) K.1 K.2.1 dX10_element_51 (by decide) (fun _ => ?_) (fun h => absurd h h5)
  refine lv_aload_n K.1 K.2.1 dX10_element_65 rfl (lv_at hl 0 rfl) ?_
  refine ah_getr K hG hr ffX10_28_10 dX10_element_66 ?_
  refine lv_iload_n K.1 K.2.1 dX10_element_69 rfl (lv_at hl 1 rfl) ?_
  refine ah_aald (t := 3) K hG ha rfl rfl dX10_element_70 ?_
  refine lv_iload_n K.1 K.2.1 dX10_element_71 rfl (lv_at hl 2 rfl) ?_
  obtain ⟨q3, eq3⟩ := ah_this hat
  refine ah_callV (As := [.int x2]) (rest := []) K hG hL hl.1 eq3 rfl (ctX7_at l H0 D ca M z v3 x2 v6 hat) hdX7_at q_232 q_233 q_53 q_235 q_234 ⟨Nat.le_of_ble_eq_true rfl, Nat.le_of_ble_eq_true rfl⟩ rfl rfl (Nat.le_of_ble_eq_true rfl) ⟨Nat.le_of_ble_eq_true rfl, Nat.le_of_ble_eq_true rfl⟩ dX10_element_72 (fun H locs hG hL => ?_)
  refine lv_i2l (v := v6.toInt64) K.1 K.2.1 dX10_element_75 rfl ?_
  exact ah_lret K hG hL (Nat.le_of_ble_eq_true rfl) (Nat.le_of_ble_eq_true rfl) dX10_element_76
set_option maxRecDepth 100000 in
set_option maxHeartbeats 4000000 in
theorem txX10_elementA (l : Launch) (hl9 : l.stackTraces = false) (H0 : Heap) (D : va_G) (ca : Nat → ClassId) (M : ah_h) (z : Nat) (a0 : Nat) (x1 x2 : Int32) {v1 : Int32} (hs : fX10_isShelf M x1 = some v1) (h1 : v1 = 0) : ax_T l H0 D ca yX10_element cX10_element 3 (some .long) 6 90 1 6 [.ref a0, .int x1, .int x2] M z xn_A := by
  refine ax_ofT (by decide) (Nat.le_of_ble_eq_true rfl) ?_
  intro p e s m below meth c ls ht K hG0 hX hl
  have hG := hG0
  have hL : ah_L H0 [] := ah_L.nil
  have hl : lv_has ls 3 [(0, .ref a0), (1, .int x1), (2, .int x2)] := hl
  refine lv_iload_n K.1 K.2.1 dX10_element_0 rfl (lv_at hl 1 rfl) ?_
  refine ah_callS (As := [.int x1]) (rest := []) K hG hL hl.1 (ctX10_isShelf l H0 D ca M z x1 v1 hs) hdX10_isShelf q_218 q_219 q_50 q_220 ⟨Nat.le_of_ble_eq_true rfl, Nat.le_of_ble_eq_true rfl⟩ rfl rfl (Nat.le_of_ble_eq_true rfl) ⟨Nat.le_of_ble_eq_true rfl, Nat.le_of_ble_eq_true rfl⟩ dX10_element_1 (fun H locs hG hL => ?_)
  refine lv_if_ne (tgt := 18) K.1 K.2.1 dX10_element_4 (by decide) (fun h => absurd h1 h) (fun _ => ?_)
  exact ax_throwSW (text := "no such shelf") K hl9 ht hX hG0 hG hL hl.1 xa_1 xb_1 xg_1 (by simp) (by decide +kernel) (by decide +kernel) q_859 q_67 (by simp [xk_s]) dX10_element_7 dX10_element_10 dX10_element_11 dX10_element_14 dX10_element_17 (Nat.le_of_ble_eq_true rfl) (Nat.le_of_ble_eq_true rfl) (Nat.le_of_ble_eq_true rfl) (Nat.le_of_ble_eq_true rfl) (Nat.le_of_ble_eq_true rfl) (Nat.le_of_ble_eq_true rfl)
set_option maxRecDepth 100000 in
set_option maxHeartbeats 4000000 in
theorem txX10_elementB (l : Launch) (hl9 : l.stackTraces = false) (H0 : Heap) (D : va_G) (ca : Nat → ClassId) (M : ah_h) (z : Nat) (a0 : Nat) (x1 x2 : Int32) {v1 : Int32} (hs : fX10_isShelf M x1 = some v1) (h1 : ¬ v1 = 0) {v2 v3 : Nat} {v4 : Int32} (hr : ah_gr M a0 10 4 = some v2) (ha : ah_ar M v2 3 x1 = some v3) (hh : fX7_holdsRow M v3 = some v4) (h4 : v4 = 0) : ax_T l H0 D ca yX10_element cX10_element 3 (some .long) 6 90 1 6 [.ref a0, .int x1, .int x2] M z xn_S := by
  refine ax_ofT (by decide) (Nat.le_of_ble_eq_true rfl) ?_
  intro p e s m below meth c ls ht K hG0 hX hl
  have hG := hG0
  have hL : ah_L H0 [] := ah_L.nil
  have hl : lv_has ls 3 [(0, .ref a0), (1, .int x1), (2, .int x2)] := hl
  refine lv_iload_n K.1 K.2.1 dX10_element_0 rfl (lv_at hl 1 rfl) ?_
  refine ah_callS (As := [.int x1]) (rest := []) K hG hL hl.1 (ctX10_isShelf l H0 D ca M z x1 v1 hs) hdX10_isShelf q_218 q_219 q_50 q_220 ⟨Nat.le_of_ble_eq_true rfl, Nat.le_of_ble_eq_true rfl⟩ rfl rfl (Nat.le_of_ble_eq_true rfl) ⟨Nat.le_of_ble_eq_true rfl, Nat.le_of_ble_eq_true rfl⟩ dX10_element_1 (fun H locs hG hL => ?_)
  refine lv_if_ne (tgt := 18) K.1 K.2.1 dX10_element_4 (by decide) (fun _ => ?_) (fun h => absurd h h1)
  refine lv_aload_n K.1 K.2.1 dX10_element_18 rfl (lv_at hl 0 rfl) ?_
  refine ah_getr K hG hr ffX10_28_10 dX10_element_19 ?_
  refine lv_iload_n K.1 K.2.1 dX10_element_22 rfl (lv_at hl 1 rfl) ?_
  refine ah_aald (t := 3) K hG ha rfl rfl dX10_element_23 ?_
  obtain ⟨q1, eq1⟩ := ah_this hh
  refine ah_callV (As := []) (rest := []) K hG hL hl.1 eq1 rfl (ctX7_holdsRow l H0 D ca M z v3 v4 hh) hdX7_holdsRow q_225 q_226 q_53 q_228 q_227 ⟨Nat.le_of_ble_eq_true rfl, Nat.le_of_ble_eq_true rfl⟩ rfl rfl (Nat.le_of_ble_eq_true rfl) ⟨Nat.le_of_ble_eq_true rfl, Nat.le_of_ble_eq_true rfl⟩ dX10_element_24 (fun H locs hG hL => ?_)
  refine lv_if_ne (tgt := 41) K.1 K.2.1 dX10_element_27 (by decide) (fun h => absurd h4 h) (fun _ => ?_)
  exact ax_throwSW (text := "no row") K hl9 ht hX hG0 hG hL hl.1 xa_2 xb_2 xg_2 (by simp) (by decide +kernel) (by decide +kernel) q_748 q_68 (by simp [xk_s]) dX10_element_30 dX10_element_33 dX10_element_34 dX10_element_37 dX10_element_40 (Nat.le_of_ble_eq_true rfl) (Nat.le_of_ble_eq_true rfl) (Nat.le_of_ble_eq_true rfl) (Nat.le_of_ble_eq_true rfl) (Nat.le_of_ble_eq_true rfl) (Nat.le_of_ble_eq_true rfl)
set_option maxRecDepth 100000 in
set_option maxHeartbeats 4000000 in
theorem txX10_elementC (l : Launch) (hl9 : l.stackTraces = false) (H0 : Heap) (D : va_G) (ca : Nat → ClassId) (M : ah_h) (z : Nat) (a0 : Nat) (x1 x2 : Int32) {v1 : Int32} (hs : fX10_isShelf M x1 = some v1) (h1 : ¬ v1 = 0) {v2 v3 : Nat} {v4 : Int32} (hr : ah_gr M a0 10 4 = some v2) (ha : ah_ar M v2 3 x1 = some v3) (hh : fX7_holdsRow M v3 = some v4) (h4 : ¬ v4 = 0) {v5 : Int32} (hp : fX7_hasPlace M v3 x2 = some v5) (h5 : v5 = 0) : ax_T l H0 D ca yX10_element cX10_element 3 (some .long) 6 90 1 6 [.ref a0, .int x1, .int x2] M z xn_S := by
  refine ax_ofT (by decide) (Nat.le_of_ble_eq_true rfl) ?_
  intro p e s m below meth c ls ht K hG0 hX hl
  have hG := hG0
  have hL : ah_L H0 [] := ah_L.nil
  have hl : lv_has ls 3 [(0, .ref a0), (1, .int x1), (2, .int x2)] := hl
  refine lv_iload_n K.1 K.2.1 dX10_element_0 rfl (lv_at hl 1 rfl) ?_
  refine ah_callS (As := [.int x1]) (rest := []) K hG hL hl.1 (ctX10_isShelf l H0 D ca M z x1 v1 hs) hdX10_isShelf q_218 q_219 q_50 q_220 ⟨Nat.le_of_ble_eq_true rfl, Nat.le_of_ble_eq_true rfl⟩ rfl rfl (Nat.le_of_ble_eq_true rfl) ⟨Nat.le_of_ble_eq_true rfl, Nat.le_of_ble_eq_true rfl⟩ dX10_element_1 (fun H locs hG hL => ?_)
  refine lv_if_ne (tgt := 18) K.1 K.2.1 dX10_element_4 (by decide) (fun _ => ?_) (fun h => absurd h h1)
  refine lv_aload_n K.1 K.2.1 dX10_element_18 rfl (lv_at hl 0 rfl) ?_
  refine ah_getr K hG hr ffX10_28_10 dX10_element_19 ?_
  refine lv_iload_n K.1 K.2.1 dX10_element_22 rfl (lv_at hl 1 rfl) ?_
  refine ah_aald (t := 3) K hG ha rfl rfl dX10_element_23 ?_
  obtain ⟨q1, eq1⟩ := ah_this hh
  refine ah_callV (As := []) (rest := []) K hG hL hl.1 eq1 rfl (ctX7_holdsRow l H0 D ca M z v3 v4 hh) hdX7_holdsRow q_225 q_226 q_53 q_228 q_227 ⟨Nat.le_of_ble_eq_true rfl, Nat.le_of_ble_eq_true rfl⟩ rfl rfl (Nat.le_of_ble_eq_true rfl) ⟨Nat.le_of_ble_eq_true rfl, Nat.le_of_ble_eq_true rfl⟩ dX10_element_24 (fun H locs hG hL => ?_)
  refine lv_if_ne (tgt := 41) K.1 K.2.1 dX10_element_27 (by decide) (fun _ => ?_) (fun h => absurd h h4)
  refine lv_aload_n K.1 K.2.1 dX10_element_41 rfl (lv_at hl 0 rfl) ?_
  refine ah_getr K hG hr ffX10_28_10 dX10_element_42 ?_
  refine lv_iload_n K.1 K.2.1 dX10_element_45 rfl (lv_at hl 1 rfl) ?_
  refine ah_aald (t := 3) K hG ha rfl rfl dX10_element_46 ?_
  refine lv_iload_n K.1 K.2.1 dX10_element_47 rfl (lv_at hl 2 rfl) ?_
  obtain ⟨q2, eq2⟩ := ah_this hp
  refine ah_callV (As := [.int x2]) (rest := []) K hG hL hl.1 eq2 rfl (ctX7_hasPlace l H0 D ca M z v3 x2 v5 hp) hdX7_hasPlace q_691 q_237 q_53 q_239 q_238 ⟨Nat.le_of_ble_eq_true rfl, Nat.le_of_ble_eq_true rfl⟩ rfl rfl (Nat.le_of_ble_eq_true rfl) ⟨Nat.le_of_ble_eq_true rfl, Nat.le_of_ble_eq_true rfl⟩ dX10_element_48 (fun H locs hG hL => ?_)
  refine lv_if_ne (tgt := 65) K.1 K.2.1 dX10_element_51 (by decide) (fun h => absurd h5 h) (fun _ => ?_)
  exact ax_throwSW (text := "no such place") K hl9 ht hX hG0 hG hL hl.1 xa_2 xb_2 xg_2 (by simp) (by decide +kernel) (by decide +kernel) q_748 q_68 (by simp [xk_s]) dX10_element_54 dX10_element_57 dX10_element_58 dX10_element_61 dX10_element_64 (Nat.le_of_ble_eq_true rfl) (Nat.le_of_ble_eq_true rfl) (Nat.le_of_ble_eq_true rfl) (Nat.le_of_ble_eq_true rfl) (Nat.le_of_ble_eq_true rfl) (Nat.le_of_ble_eq_true rfl)
/-- what toss answers -/
def fX10_toss (M : ah_h) (a0 : Nat) (x1 : Int32) : Option Int32 := (ah_ob M a0 10).bind fun _ => (fX10_refusalOfCaptain M a0 x1).bind fun v1 => if 0 ≤ v1 then ((ah_gr M a0 10 4).bind fun v2 => (ah_ar M v2 3 x1).bind fun v3 => (ah_gq M v3 7 0).bind fun v4 => v4.bind fun c5 => (ah_oc M c5).bind fun y => (ah_gc M c5 1).bind fun f => if y.1 = 8 ∨ f = 0 then some (-15) else dv_worthOfFailure M c5) else some v1
set_option maxRecDepth 100000 in
set_option maxHeartbeats 4000000 in
theorem hxX10_toss (l : Launch) (hl9 : l.stackTraces = false) (H0 : Heap) (D : va_G) (ca : Nat → ClassId) (M : ah_h) (z : Nat) (a0 : Nat) (x1 : Int32) (Z : Int32) (hf : fX10_toss M a0 x1 = some Z) : ax_H l H0 D ca yX10_toss cX10_toss 5 (some .int) [(22, 26, 29, 265)] 8 130 1 6 [.ref a0, .int x1] M z (some (.int Z)) M := by
  refine ax_ofH (by decide) (Nat.le_of_ble_eq_true rfl) ?_
  intro p e s m below meth c ls ht K hG hX hl
  have hL : ah_L H0 [] := ah_L.nil
  have hl : lv_has ls 5 [(0, .ref a0), (1, .int x1)] := hl
  unfold fX10_toss at hf
  obtain ⟨-, -, hf⟩ := Option.bind_eq_some_iff.mp hf
  obtain ⟨v1, ev1, hf⟩ := Option.bind_eq_some_iff.mp hf
  refine lv_aload_n K.1 K.2.1 dX10_toss_0 rfl (lv_at hl 0 rfl) ?_
  refine lv_iload_n K.1 K.2.1 dX10_toss_1 rfl (lv_at hl 1 rfl) ?_
  obtain ⟨q2, eq2⟩ := ah_this ev1
  refine ah_callV (As := [.int x1]) (rest := []) K hG hL hl.1 eq2 rfl (ctX10_refusalOfCaptain l H0 D ca M z a0 x1 v1 ev1) hdX10_refusalOfCaptain q_440 q_442 q_50 q_443 q_2 ⟨Nat.le_of_ble_eq_true rfl, Nat.le_of_ble_eq_true rfl⟩ rfl rfl (Nat.le_of_ble_eq_true rfl) ⟨Nat.le_of_ble_eq_true rfl, Nat.le_of_ble_eq_true rfl⟩ dX10_toss_2 (fun H locs hG hL => ?_)
  refine lv_istore_n (lv' := [(2, .int v1), (0, .ref a0), (1, .int x1)]) K.1 K.2.1 dX10_toss_5 rfl hl (by decide) rfl (fun ls hl => ?_)
  refine lv_iload_n K.1 K.2.1 dX10_toss_6 rfl (lv_at hl 0 rfl) ?_
  refine lv_if_ge (tgt := 12) K.1 K.2.1 dX10_toss_7 (by decide) (fun h3 => ?_) (fun h3 => ?_)
  · rw [if_pos h3] at hf
    refine lv_aload_n K.1 K.2.1 dX10_toss_12 rfl (lv_at hl 1 rfl) ?_
    obtain ⟨v4, ev4, hf⟩ := Option.bind_eq_some_iff.mp hf
    refine ah_getr K hG ev4 ffX10_28_10 dX10_toss_13 ?_
    refine lv_iload_n K.1 K.2.1 dX10_toss_16 rfl (lv_at hl 2 rfl) ?_
    obtain ⟨v5, ev5, hf⟩ := Option.bind_eq_some_iff.mp hf
    refine ah_aald (t := 3) K hG ev5 rfl rfl dX10_toss_17 ?_
    obtain ⟨v6, ev6, hf⟩ := Option.bind_eq_some_iff.mp hf
    refine ah_getq K hG ev6 ffX10_117_7 dX10_toss_18 ?_
    obtain ⟨c7, ec7, hf⟩ := Option.bind_eq_some_iff.mp hf
    rw [ec7]
    rw [show va_rf (some c7) = .ref c7 from rfl]
    obtain ⟨y, ey, hf⟩ := Option.bind_eq_some_iff.mp hf
    obtain ⟨f, ef, hf⟩ := Option.bind_eq_some_iff.mp hf
    refine lv_astore_n (lv' := [(3, .ref c7), (2, .int v1), (0, .ref a0), (1, .int x1)]) K.1 K.2.1 dX10_toss_21 rfl hl (by decide) rfl (fun ls hl => ?_)
    refine lv_aload_n K.1 K.2.1 dX10_toss_22 rfl (lv_at hl 0 rfl) ?_
    by_cases h8 : y.1 = 8 ∨ f = 0
    · rw [if_pos h8] at hf
      refine dv_fail0 (rest := []) K hG hL hl.1 ey (h8.imp id (fun h => by rw [ef, h])) q_749 (Nat.le_of_ble_eq_true rfl) (Nat.le_of_ble_eq_true rfl) rfl (Nat.le_of_ble_eq_true rfl) ⟨Nat.le_of_ble_eq_true rfl, Nat.le_of_ble_eq_true rfl⟩ dX10_toss_23 (fun H locs hG hL => ?_)
      refine lv_goto (tgt := 36) K.1 K.2.1 dX10_toss_26 (by decide) ?_
      refine lv_bipush (v := (-15)) K.1 K.2.1 dX10_toss_36 (by decide) ?_
      have hf := Option.some.inj hf
      subst hf
      exact ax_iret K hG (Nat.le_refl _) hL (Nat.le_of_ble_eq_true rfl) (Nat.le_of_ble_eq_true rfl) dX10_toss_38
    · rw [if_neg h8] at hf
      refine dv_fail1 (rest := []) K hl9 hX hG hL hl.1 ey (fun h => h8 (Or.inl h)) ef (fun h => h8 (Or.inr h)) q_749 (Nat.le_of_ble_eq_true rfl) (Nat.le_of_ble_eq_true rfl) rfl (Nat.le_of_ble_eq_true rfl) ⟨Nat.le_of_ble_eq_true rfl, Nat.le_of_ble_eq_true rfl⟩ dX10_toss_23 (fun q9 ce z1 H locs hz hG hL hce hcv hcl => ?_)
      refine vx_catch (own := "ShipsThatMeet") (name := xn_S) (E := xn_S) K.2.2.2.1 [] ⟨22, 26, 29, 265⟩ [] ht (fun z hz => by cases hz) (by decide) (by decide) (K.2.2.2.2.1 _ q_748) (va_Nw.use rfl (hX.2.2.2.2.1 _ (by simp))) hce hcv hcl ?_
      refine lv_astore (lv' := [(4, .ref q9), (3, .ref c7), (2, .int v1), (0, .ref a0), (1, .int x1)]) K.1 K.2.1 dX10_toss_29 hl (by decide) rfl (fun ls hl => ?_)
      refine lv_aload_n K.1 K.2.1 dX10_toss_31 rfl (lv_at hl 1 rfl) ?_
      refine dv_worthOfFailure_call (rest := []) K hG hL hl.1 hf q_830 (Nat.le_of_ble_eq_true rfl) (Nat.le_of_ble_eq_true rfl) rfl (Nat.le_of_ble_eq_true rfl) ⟨Nat.le_of_ble_eq_true rfl, Nat.le_of_ble_eq_true rfl⟩ dX10_toss_32 (fun H locs hG hL => ?_)
      exact ax_iret K hG hz hL (Nat.le_of_ble_eq_true rfl) (Nat.le_of_ble_eq_true rfl) dX10_toss_35
  · rw [if_neg h3] at hf
    refine lv_iload_n K.1 K.2.1 dX10_toss_10 rfl (lv_at hl 0 rfl) ?_
    have hf := Option.some.inj hf
    subst hf
    exact ax_iret K hG (Nat.le_refl _) hL (Nat.le_of_ble_eq_true rfl) (Nat.le_of_ble_eq_true rfl) dX10_toss_11
set_option maxRecDepth 100000 in
set_option maxHeartbeats 4000000 in
theorem hxL_element0 (l : Launch) (H0 : Heap) (D : va_G) (ca : Nat → ClassId) (M : ah_h) (z : Nat) (a0 : Nat) (x1 x2 : Int32) (a3 : Nat) {fs : List Value} (hO : M a0 = some (ah_O 10 fs)) {v : Int64} {M' : ah_h} (hc : ah_ct l H0 D ca yX10_element cX10_element 3 (some .long) 6 90 0 0 [.ref a0, .int x1, .int x2] M z (some (.long v)) M z) (hs : ah_sj M a3 0 v = some M') : ax_H l H0 D ca yL_element cL_element 5 (some .int) [(0, 9, 12, 13), (0, 9, 16, 15)] 8 130 1 6 [.ref a0, .int x1, .int x2, .ref a3] M z (some (.int 0)) M' := by
  refine ax_ofH (by decide) (Nat.le_of_ble_eq_true rfl) ?_
  intro p e s m below meth c ls ht K hG hX hl
  have hL : ah_L H0 [] := ah_L.nil
  have hl : lv_has ls 5 [(0, .ref a0), (1, .int x1), (2, .int x2), (3, .ref a3)] := hl
  refine lv_aload_n K.1 K.2.1 dL_element_0 rfl (lv_at hl 3 rfl) ?_
  refine lv_iconst (v := 0) K.1 K.2.1 dL_element_1 (by decide) ?_
  refine lv_aload_n K.1 K.2.1 dL_element_2 rfl (lv_at hl 0 rfl) ?_
  refine lv_iload_n K.1 K.2.1 dL_element_3 rfl (lv_at hl 1 rfl) ?_
  refine lv_iload_n K.1 K.2.1 dL_element_4 rfl (lv_at hl 2 rfl) ?_
  refine ah_callV (n := 2) (As := [.int x1, .int x2]) (rest := [.int 0, .ref a3]) K hG hL hl.1 hO rfl hc (by decide +kernel) q_855 q_856 q_50 q_858 q_857 ⟨Nat.le_of_ble_eq_true rfl, Nat.le_of_ble_eq_true rfl⟩ rfl rfl (Nat.le_of_ble_eq_true rfl) ⟨Nat.le_of_ble_eq_true rfl, Nat.le_of_ble_eq_true rfl⟩ dL_element_5 (fun H locs hG hL => ?_)
  refine ah_last K hG hL hs dL_element_8 (fun H locs hG hL => ?_)
  refine lv_goto (tgt := 20) K.1 K.2.1 dL_element_9 (by decide) ?_
  refine lv_iconst (v := 0) K.1 K.2.1 dL_element_20 (by decide) ?_
  exact ax_iret K hG (Nat.le_refl _) hL (Nat.le_of_ble_eq_true rfl) (Nat.le_of_ble_eq_true rfl) dL_element_21
set_option maxRecDepth 100000 in
set_option maxHeartbeats 4000000 in
theorem hxL_elementA (l : Launch) (H0 : Heap) (D : va_G) (ca : Nat → ClassId) (M : ah_h) (z : Nat) (a0 : Nat) (x1 x2 : Int32) (a3 : Nat) {fs : List Value} (hO : M a0 = some (ah_O 10 fs)) (hc : ax_T l H0 D ca yX10_element cX10_element 3 (some .long) 6 90 1 6 [.ref a0, .int x1, .int x2] M z xn_A) : ax_H l H0 D ca yL_element cL_element 5 (some .int) [(0, 9, 12, 13), (0, 9, 16, 15)] 8 130 1 6 [.ref a0, .int x1, .int x2, .ref a3] M z (some (.int 1)) M := by
  refine ax_ofH (by decide) (Nat.le_of_ble_eq_true rfl) ?_
  intro p e s m below meth c ls ht K hG hX hl
  have hL : ah_L H0 [] := ah_L.nil
  have hl : lv_has ls 5 [(0, .ref a0), (1, .int x1), (2, .int x2), (3, .ref a3)] := hl
  refine lv_aload_n K.1 K.2.1 dL_element_0 rfl (lv_at hl 3 rfl) ?_
  refine lv_iconst (v := 0) K.1 K.2.1 dL_element_1 (by decide) ?_
  refine lv_aload_n K.1 K.2.1 dL_element_2 rfl (lv_at hl 0 rfl) ?_
  refine lv_iload_n K.1 K.2.1 dL_element_3 rfl (lv_at hl 1 rfl) ?_
  refine lv_iload_n K.1 K.2.1 dL_element_4 rfl (lv_at hl 2 rfl) ?_
  refine ax_callV (n := 2) (As := [.int x1, .int x2]) (rest := [.int 0, .ref a3]) K hX hG hL hl.1 hO rfl hc (by decide +kernel) q_855 q_856 q_50 q_858 q_857 ⟨Nat.le_of_ble_eq_true rfl, Nat.le_of_ble_eq_true rfl⟩ rfl rfl (Nat.le_of_ble_eq_true rfl) ⟨Nat.le_of_ble_eq_true rfl, Nat.le_of_ble_eq_true rfl⟩ dL_element_5 (fun q9 ce z1 H locs hz hG hL hce hcv hcl => ?_)
  refine vx_catch (own := "ShipsThatMeetLaw") (name := xn_A) (E := xn_A) K.2.2.2.1 [] ⟨0, 9, 12, 13⟩ [⟨0, 9, 16, 15⟩] ht (fun z hz => by cases hz) (by decide) (by decide) (K.2.2.2.2.1 _ q_853) (va_Nw.use rfl (hX.2.2.2.2.1 _ (by simp))) hce hcv hcl ?_
  refine lv_astore (lv' := [(4, .ref q9), (0, .ref a0), (1, .int x1), (2, .int x2), (3, .ref a3)]) K.1 K.2.1 dL_element_12 hl (by decide) rfl (fun ls hl => ?_)
  refine lv_iconst (v := 1) K.1 K.2.1 dL_element_14 (by decide) ?_
  exact ax_iret K hG hz hL (Nat.le_of_ble_eq_true rfl) (Nat.le_of_ble_eq_true rfl) dL_element_15
set_option maxRecDepth 100000 in
set_option maxHeartbeats 4000000 in
theorem hxL_elementS (l : Launch) (H0 : Heap) (D : va_G) (ca : Nat → ClassId) (M : ah_h) (z : Nat) (a0 : Nat) (x1 x2 : Int32) (a3 : Nat) {fs : List Value} (hO : M a0 = some (ah_O 10 fs)) (hc : ax_T l H0 D ca yX10_element cX10_element 3 (some .long) 6 90 1 6 [.ref a0, .int x1, .int x2] M z xn_S) : ax_H l H0 D ca yL_element cL_element 5 (some .int) [(0, 9, 12, 13), (0, 9, 16, 15)] 8 130 1 6 [.ref a0, .int x1, .int x2, .ref a3] M z (some (.int 2)) M := by
  refine ax_ofH (by decide) (Nat.le_of_ble_eq_true rfl) ?_
  intro p e s m below meth c ls ht K hG hX hl
  have hL : ah_L H0 [] := ah_L.nil
  have hl : lv_has ls 5 [(0, .ref a0), (1, .int x1), (2, .int x2), (3, .ref a3)] := hl
  refine lv_aload_n K.1 K.2.1 dL_element_0 rfl (lv_at hl 3 rfl) ?_
  refine lv_iconst (v := 0) K.1 K.2.1 dL_element_1 (by decide) ?_
  refine lv_aload_n K.1 K.2.1 dL_element_2 rfl (lv_at hl 0 rfl) ?_
  refine lv_iload_n K.1 K.2.1 dL_element_3 rfl (lv_at hl 1 rfl) ?_
  refine lv_iload_n K.1 K.2.1 dL_element_4 rfl (lv_at hl 2 rfl) ?_
  refine ax_callV (n := 2) (As := [.int x1, .int x2]) (rest := [.int 0, .ref a3]) K hX hG hL hl.1 hO rfl hc (by decide +kernel) q_855 q_856 q_50 q_858 q_857 ⟨Nat.le_of_ble_eq_true rfl, Nat.le_of_ble_eq_true rfl⟩ rfl rfl (Nat.le_of_ble_eq_true rfl) ⟨Nat.le_of_ble_eq_true rfl, Nat.le_of_ble_eq_true rfl⟩ dL_element_5 (fun q9 ce z1 H locs hz hG hL hce hcv hcl => ?_)
  refine vx_catch (own := "ShipsThatMeetLaw") (name := xn_S) (E := xn_S) K.2.2.2.1 [⟨0, 9, 12, 13⟩] ⟨0, 9, 16, 15⟩ [] ht (fun z hz => Or.inr (by rw [List.mem_singleton.mp hz]; exact ⟨by decide, xn_A, K.2.2.2.2.1 _ q_853, hX.2.2.2.2.2⟩)) (by decide) (by decide) (K.2.2.2.2.1 _ q_854) (va_Nw.use rfl (hX.2.2.2.2.1 _ (by simp))) hce hcv hcl ?_
  refine lv_astore (lv' := [(4, .ref q9), (0, .ref a0), (1, .int x1), (2, .int x2), (3, .ref a3)]) K.1 K.2.1 dL_element_16 hl (by decide) rfl (fun ls hl => ?_)
  refine lv_iconst (v := 2) K.1 K.2.1 dL_element_18 (by decide) ?_
  exact ax_iret K hG hz hL (Nat.le_of_ble_eq_true rfl) (Nat.le_of_ble_eq_true rfl) dL_element_19
