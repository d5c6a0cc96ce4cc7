/-! THE CLAIM OUT OF ONE WALK OF THE LAW'S BODY. Your part is whole_start (and what it stands on); all else here is the same for every law, but numbers. -/
def R_law : String := "ShipsThatMeetLaw"
def lw_P (b : Addr) (xs : List Int32) (args : Array Value) (s : State) : Prop := args = #[.ref b] ∧ s.IntsAt b xs ∧ xs.length ≤ 384 ∧ (Jvm.Cond.and given_1 narrow_1).before args s = true
def lw_Q (_ : Array Value) (s : State) (o : Outcome) (t : State) : Prop := o = .returned (some (.int 1)) ∧ Framed s o t [] 600128 7301098
def lw_Z (below : List Frame) (a : Array Value) (s : State) : State → Prop := fun t => ∃ o, t.status = .running ∧ Ended t below o ∧ lw_Q a s o t
/-- the law's own end, with 1 on the stack, nothing written that was there before, its room as the claim has it -/
theorem lw_ret {p : Program} {l : Launch} {e : Env} {s : State} {m : MethodId} {below : List Frame} {meth : Method} {c : Code} {b : Nat} (hx : p.tables.exec = Jvm.exec) (hb : c.code = code) (hr : meth.sig.returnType = ret) (hlocks : meth.locks = false) {pc : Nat} {H : Heap} {ls : Array Slot} (hdg : decode code pc = .ok (.ireturn, 1)) : W p l e room_1 s m #[Value.ref b] below meth c H [] 600128 7301098 (lw_Z below #[Value.ref b] s) (F0 m pc ls [.int 1]) := by
  intro T hT X
  obtain ⟨fs, hret, hrun, hended, hW, hframe⟩ := X.leave (v := some (.int 1)) (hlocks := hlocks) (fun h => by rw [hr] at h; cases h)
  have hmeth' : T.vm.method? m = some meth := X.method'
  refine ⟨T.setFrames fs, ?_, .returned (some (.int 1)), hrun, hended, rfl, ⟨_, rfl⟩, hW, hframe⟩
  jvm_step X.here [X.here.top, hx, hb, hdg, hmeth', hr, ret, narrow_b1]
  (try refine ⟨rfl, ?_⟩); (try refine ⟨rfl, ?_⟩)
  first | (intro acts; rw [hret _ acts rfl rfl rfl]) | rw [hret _ _ rfl rfl rfl]
  exact Steps.refl _
/-- what holds at the law's entry: the machine, the code, the tables' words (any of lw_tbl by 'hts w (by decide +kernel)'), the script of L ints xs at the cell b, what the Statement gives of the start (any of its parts by flat_of_before) -/
def lw_At (p : Program) (s : State) (m : MethodId) (meth : Method) (c : Code) (b L : Nat) (xs : Nat → Int32) : Prop :=
  p.tables.exec = Jvm.exec ∧ c.code = code ∧ meth.sig.returnType = ret ∧ c.maxLocals = 8 ∧ s.vm.findClass R_law = some m.cls ∧ (∀ w ∈ lw_tbl, w.before #[Value.ref b] s = true) ∧ va_X b L xs s s.heap ∧ b < s.heap.size ∧ meth.locks = false ∧ (Jvm.Cond.and given_1 narrow_1).before #[Value.ref b] s = true
theorem qq_64 : Cond.initialized "java/lang/Throwable" ∈ lw_tbl := List.mem_of_getElem? (i := 64) (by decide +kernel)
theorem qq_790 : Cond.laysStatic "java/lang/Throwable" "UNASSIGNED_STACK" "[Ljava/lang/StackTraceElement;" ∈ lw_tbl := List.mem_of_getElem? (i := 790) (by decide +kernel)
theorem qq_792 : Cond.laysStatic "java/lang/Throwable" "SUPPRESSED_SENTINEL" "Ljava/util/List;" ∈ lw_tbl := List.mem_of_getElem? (i := 792) (by decide +kernel)
theorem qq_765 : Cond.castable "java/lang/IllegalStateException" "java/lang/IllegalStateException" ∈ lw_tbl := List.mem_of_getElem? (i := 765) (by decide +kernel)
theorem qq_861 : Cond.castable "java/lang/IllegalArgumentException" "java/lang/IllegalArgumentException" ∈ lw_tbl := List.mem_of_getElem? (i := 861) (by decide +kernel)
theorem qq_767 : Cond.declares ⟨"java/lang/RuntimeException", "<init>", "(Ljava/lang/String;)V"⟩ ∈ lw_tbl := List.mem_of_getElem? (i := 767) (by decide +kernel)
theorem qq_769 : Cond.declares ⟨"java/lang/Exception", "<init>", "(Ljava/lang/String;)V"⟩ ∈ lw_tbl := List.mem_of_getElem? (i := 769) (by decide +kernel)
theorem qq_771 : Cond.declares ⟨"java/lang/Throwable", "<init>", "(Ljava/lang/String;)V"⟩ ∈ lw_tbl := List.mem_of_getElem? (i := 771) (by decide +kernel)
theorem qq_803 : Cond.stringRef "ShipsThatMeet$Captain" 24 "a captain's failure" ∈ lw_tbl := List.mem_of_getElem? (i := 803) (by decide +kernel)
theorem qq_868 : Cond.stringRef "ShipsThatMeet" 256 "no such shelf" ∈ lw_tbl := List.mem_of_getElem? (i := 868) (by decide +kernel)
theorem qq_875 : Cond.stringRef "ShipsThatMeet" 267 "no row" ∈ lw_tbl := List.mem_of_getElem? (i := 875) (by decide +kernel)
theorem qq_877 : Cond.stringRef "ShipsThatMeet" 270 "no such place" ∈ lw_tbl := List.mem_of_getElem? (i := 877) (by decide +kernel)
theorem qq_1281 : Cond.castable "ShipsThatMeet$Lot" "ShipsThatMeet$Captain" ∈ lw_tbl := List.mem_of_getElem? (i := 1281) (by decide +kernel)
theorem qq_1282 : Cond.castable "ShipsThatMeet$New" "ShipsThatMeet$Captain" ∈ lw_tbl := List.mem_of_getElem? (i := 1282) (by decide +kernel)
theorem qq_1283 : Cond.castable "ShipsThatMeet$Old" "ShipsThatMeet$Captain" ∈ lw_tbl := List.mem_of_getElem? (i := 1283) (by decide +kernel)
theorem qq_1284 : Cond.castable "ShipsThatMeet$Want" "ShipsThatMeet$Captain" ∈ lw_tbl := List.mem_of_getElem? (i := 1284) (by decide +kernel)
theorem qq_1285 : Cond.castable "ShipsThatMeet$Best" "ShipsThatMeet$Captain" ∈ lw_tbl := List.mem_of_getElem? (i := 1285) (by decide +kernel)
theorem qq_1286 : Cond.castable "ShipsThatMeet$Told" "ShipsThatMeet$Captain" ∈ lw_tbl := List.mem_of_getElem? (i := 1286) (by decide +kernel)
theorem qq_1287 : Cond.castable "ShipsThatMeet$Keep" "ShipsThatMeet$Captain" ∈ lw_tbl := List.mem_of_getElem? (i := 1287) (by decide +kernel)
theorem st_str {A : Array Value} {s : State} {own tx : String} {k : Nat} (h : (Cond.stringRef own k tx).before A s = true) : ∃ a, vk_R own k tx a s := by
  have hcur : ∃ cur, s.vm.findClass own = some cur := by
    have h1 := h
    simp only [Cond.before, Cond.holds, Cond.value] at h1
    cases hc : s.vm.findClass own with
    | none => simp [hc] at h1
    | some cur => exact ⟨cur, rfl⟩
  obtain ⟨cur, hcur⟩ := hcur
  obtain ⟨-, -, -, a, -, -, -, -, -, he⟩ := Cond.stringRef_spec hcur h
  exact ⟨a, vk_R.of h he⟩
theorem st_tb : ∀ w ∈ ah_tb, w ∈ lw_tbl := fun _ hw => (List.mem_filter.mp hw).1
section START
variable {p : Program} {s : State} {m : MethodId} {meth : Method} {c : Code} {b L : Nat} {xs : Nat → Int32}
theorem st_D (C0 : lw_At p s m meth c b L xs) : ∃ D : va_G, ∀ (k : Nat) (q : vw_C), vwCl[k]? = some q → u_Kn s q.1 q.2.1 q.2.2 (D.1 k) (D.2 k) := by
  have hts := C0.2.2.2.2.2.1
  have ht : ∀ w ∈ ah_tb, w.before #[Value.ref b] s = true := fun w hw => hts w (st_tb w hw)
  have key : ∀ k : Nat, ∃ x : ClassId × (Nat → Nat), ∀ q : vw_C, vwCl[k]? = some q → u_Kn s q.1 q.2.1 q.2.2 x.1 x.2 := by
    intro k
    by_cases hk : k < 12
    · rcases (show k = 0 ∨ k = 1 ∨ k = 2 ∨ k = 3 ∨ k = 4 ∨ k = 5 ∨ k = 6 ∨ k = 7 ∨ k = 8 ∨ k = 9 ∨ k = 10 ∨ k = 11 by omega) with rfl | rfl | rfl | rfl | rfl | rfl | rfl | rfl | rfl | rfl | rfl | rfl
      · obtain ⟨x, y, h⟩ := u_known (C := RX0) (T := TX0) (N := 2) (n := 2) ht inX0 (ht _ q_296)
        exact ⟨(x, y), fun q hq => by cases hq; exact h⟩
      · obtain ⟨x, y, h⟩ := u_known (C := RX1) (T := TX1) (N := 2) (n := 2) ht inX1 (ht _ q_86)
        exact ⟨(x, y), fun q hq => by cases hq; exact h⟩
      · obtain ⟨x, y, h⟩ := u_known (C := RX2) (T := TX2) (N := 10) (n := 10) ht inX2 (ht _ q_79)
        exact ⟨(x, y), fun q hq => by cases hq; exact h⟩
      · obtain ⟨x, y, h⟩ := u_known (C := RX3) (T := TX3) (N := 2) (n := 2) ht inX3 (ht _ q_314)
        exact ⟨(x, y), fun q hq => by cases hq; exact h⟩
      · obtain ⟨x, y, h⟩ := u_known (C := RX4) (T := TX4) (N := 2) (n := 2) ht inX4 (ht _ q_260)
        exact ⟨(x, y), fun q hq => by cases hq; exact h⟩
      · obtain ⟨x, y, h⟩ := u_known (C := RX5) (T := TX5) (N := 2) (n := 2) ht inX5 (ht _ q_269)
        exact ⟨(x, y), fun q hq => by cases hq; exact h⟩
      · obtain ⟨x, y, h⟩ := u_known (C := RX6) (T := TX6) (N := 2) (n := 2) ht inX6 (ht _ q_278)
        exact ⟨(x, y), fun q hq => by cases hq; exact h⟩
      · obtain ⟨x, y, h⟩ := u_known (C := RX7) (T := TX7) (N := 4) (n := 4) ht inX7 (ht _ q_156)
        exact ⟨(x, y), fun q hq => by cases hq; exact h⟩
      · obtain ⟨x, y, h⟩ := u_known (C := RX8) (T := TX8) (N := 2) (n := 2) ht inX8 (ht _ q_305)
        exact ⟨(x, y), fun q hq => by cases hq; exact h⟩
      · obtain ⟨x, y, h⟩ := u_known (C := RX9) (T := TX9) (N := 2) (n := 2) ht inX9 (ht _ q_287)
        exact ⟨(x, y), fun q hq => by cases hq; exact h⟩
      · obtain ⟨x, y, h⟩ := u_known (C := RX10) (T := TX10) (N := 8) (n := 8) ht inX10 (ht _ q_71)
        exact ⟨(x, y), fun q hq => by cases hq; exact h⟩
      · obtain ⟨x, y, h⟩ := u_known (C := RX11) (T := TX11) (N := 24) (n := 24) ht inX11 (ht _ q_879)
        exact ⟨(x, y), fun q hq => by cases hq; exact h⟩
    · exact ⟨(0, fun _ => 0), fun q hq => by
        have := (List.getElem?_eq_some_iff.mp hq).1
        exact absurd this hk⟩
  obtain ⟨f, hf⟩ := Classical.axiomOfChoice key
  exact ⟨(fun k => (f k).1, fun k => (f k).2), hf⟩
theorem st_arr {ty : FieldType} {A : Array Value} (h : (Cond.arrayClass ty).before A s = true) : ∃ cA, ArrOfT s cA ty ∧ s.vm.findClass ("[" ++ ty.toString) = some cA := by
  obtain ⟨cA, k, comp, h1, h2, h3⟩ := Cond.arrayClass_spec h
  exact ⟨cA, fun n z => ⟨fun k h => (by cases h), k, h2, comp, h3⟩, h1⟩
theorem st_arO {C : String} {A : Array Value} (h : (Cond.arrayOver (.object C)).before A s = true) : ∃ cA, ArrOfT s cA (.object C) ∧ va_RA s cA (.object C) := by
  obtain ⟨comp, cA, k, h1, -, h3, h4, h5⟩ := Cond.arrayOver_spec h
  exact ⟨cA, fun n z => ⟨fun k h => (by cases h), k, h3, comp, h4⟩, k, comp, h3, h4, h1, h5⟩
theorem st_arA (h : ah_oA s) : ∃ cA, ArrOfT s cA (.array .int) ∧ s.vm.findClass ("[" ++ (FieldType.array .int).toString) = some cA := by
  obtain ⟨comp, cA, k, -, -, h3, ⟨q, h4⟩, h5⟩ := h.spec
  exact ⟨cA, fun n z => ⟨fun k h => (by cases h), k, h3, q, h4⟩, h5⟩
theorem st_k (C0 : lw_At p s m meth c b L xs) : ∃ (D : va_G) (ca : Nat → ClassId), ah_k D ca s := by
  have hts := C0.2.2.2.2.2.1
  have ht : ∀ w ∈ ah_tb, w.before #[Value.ref b] s = true := fun w hw => hts w (st_tb w hw)
  obtain ⟨D, hD⟩ := st_D C0
  obtain ⟨c0, e0, f0⟩ := st_arr (ht _ q_153)
  obtain ⟨c1, e1, f1⟩ := st_arr (ht _ q_205)
  obtain ⟨c2, e2, f2⟩ := st_arO (hts _ q_85)
  obtain ⟨c3, e3, f3⟩ := st_arO (hts _ q_155)
  have hoA : ah_oA s := hts _ q_179
  obtain ⟨c4, e4, f4⟩ := st_arA hoA
  refine ⟨D, fun t => if t = 0 then c0 else if t = 1 then c1 else if t = 2 then c2 else if t = 3 then c3 else c4, ⟨hD, fun k q hq => ?_⟩, fun q hq => ?_, fun q hq => ?_, va_AO.of (hts _ q_85), va_AO.of (hts _ q_155), hoA⟩
  · match k, hq with
    | 0, hq => cases hq; exact ⟨e0, f0⟩
    | 1, hq => cases hq; exact ⟨e1, f1⟩
    | 2, hq => cases hq; exact ⟨e2, f2⟩
    | 3, hq => cases hq; exact ⟨e3, f3⟩
    | 4, hq => cases hq; exact ⟨e4, f4⟩
    | k + 5, hq => cases hq
  · simp only [ah_nM, List.mem_cons, List.not_mem_nil, or_false] at hq
    rcases hq with rfl | rfl | rfl | rfl | rfl | rfl | rfl | rfl | rfl
    · exact va_Nw.of rfl (hts _ q_369)
    · exact va_Nw.of rfl (hts _ q_372)
    · exact va_Nw.of rfl (hts _ q_377)
    · exact va_Nw.of rfl (hts _ q_384)
    · exact va_Nw.of rfl (hts _ q_394)
    · exact va_Nw.of rfl (hts _ q_398)
    · exact va_Nw.of rfl (hts _ q_403)
    · exact va_Nw.of rfl (hts _ q_411)
    · exact va_Nw.of rfl (hts _ q_545)
  · simp only [ah_nC, List.mem_cons, List.not_mem_nil, or_false] at hq
    rcases hq with rfl | rfl | rfl | rfl | rfl | rfl | rfl
    · exact va_Nw.of rfl (hts _ qq_1281)
    · exact va_Nw.of rfl (hts _ qq_1282)
    · exact va_Nw.of rfl (hts _ qq_1283)
    · exact va_Nw.of rfl (hts _ qq_1284)
    · exact va_Nw.of rfl (hts _ qq_1285)
    · exact va_Nw.of rfl (hts _ qq_1286)
    · exact va_Nw.of rfl (hts _ qq_1287)
theorem st_x (C0 : lw_At p s m meth c b L xs) : xk s.heap s := by
  obtain ⟨-, -, -, -, -, hts, -, -, -, hgv⟩ := C0
  have hs := flat_of_before _ hgv
  refine ⟨vx_Zqof (hts _ qq_790) (hts _ qq_64) (hs _ (by decide +kernel)) (fun a h => Nat.not_le.mpr h), vx_Zqof (hts _ qq_792) (hts _ qq_64) (hs _ (by decide +kernel)) (fun a h => Nat.not_le.mpr h), fun q hq => ?_, fun d hd => ?_, fun C hC => ?_, va_Nc.of (hs (Cond.not (.castable xn_S xn_A)) (by decide +kernel))⟩
  · simp only [xk_s, List.mem_cons, List.not_mem_nil, or_false] at hq
    rcases hq with rfl | rfl | rfl | rfl
    · exact st_str (hts _ qq_803)
    · exact st_str (hts _ qq_868)
    · exact st_str (hts _ qq_875)
    · exact st_str (hts _ qq_877)
  · simp only [xk_d, List.mem_cons, List.not_mem_nil, or_false] at hd
    rcases hd with rfl | rfl | rfl
    · exact va_Nw.of rfl (hts _ qq_767)
    · exact va_Nw.of rfl (hts _ qq_769)
    · exact va_Nw.of rfl (hts _ qq_771)
  · simp only [List.mem_cons, List.not_mem_nil, or_false] at hC
    rcases hC with rfl | rfl
    · exact va_Nw.of rfl (hts _ qq_861)
    · exact va_Nw.of rfl (hts _ qq_765)
theorem st_K (C0 : lw_At p s m meth c b L xs) {D : va_G} {ca : Nat → ClassId} (hk : ah_k D ca s) : ah_K p s m #[Value.ref b] meth c D ca "ShipsThatMeetLaw" code 8 ret := by
  obtain ⟨hx, hb, hr, hml, hown, hts, -, -, hlocks, -⟩ := C0
  exact ⟨hx, hb, hml, hown, fun w hw => hts w (st_tb w hw), hk, hr, hlocks⟩
end START
/-- no stack traces -/
theorem st_nt {l : Launch} (h : l.flags = flags0) : l.stackTraces = false := by
  unfold Launch.stackTraces
  rw [h]
  decide +kernel
/-! the law's own loads -/
section LOADS
variable {p : Program} {l : Launch} {e : Env} {R : Room} {s : State} {m : MethodId} {args : Array Value} {below : List Frame} {meth : Method} {c : Code} {H : Heap} {locs : List Loc} {cells slots : Nat} {Q : State → Prop}
variable {D : va_G} {ca : Nat → ClassId} {M : ah_h} {z b L t : Nat} {xs : Nat → Int32} {ls : Array Slot} {rest : List Value} {pc : Nat} {lv : List (Nat × Value)}
theorem lw_S (hG : ah_g s.heap D ca M z H) (hL : ah_L s.heap locs) : va_S (fun q => s.heap.size ≤ q) s.heap H locs := ⟨by rw [hG.1]; exact hG.2.1, fun q hq _ => hG.2.2.1 q hq, hL⟩
theorem lw_ld (K : ah_K p s m args meth c D ca "ShipsThatMeetLaw" code 8 ret) (hX : va_X b L xs s s.heap) (hbl : b < s.heap.size) (hG : ah_g s.heap D ca M z H) (hL : ah_L s.heap locs) (hl : lv_has ls 8 lv) {i4 i0 : Nat} (h4 : lv[i4]? = some (4, .int (nI (6 * t)))) (h0 : lv[i0]? = some (0, .ref b)) {k : Nat} {n : Int} (hn : Int32.ofInt n = nI k) (hk : 6 * t + k < L) (hL9 : L ≤ 384) (d0 : decode code pc = .ok (.aload_n 0, 1)) (d1 : decode code (pc + 1) = .ok (.iload 4, 2)) (d3 : decode code (pc + 3) = .ok (.iconst n, 1)) (d4 : decode code (pc + 4) = .ok (.iadd, 1)) (d5 : decode code (pc + 5) = .ok (.iaload, 1))
    (kk : W p l e R s m args below meth c H locs cells slots Q (F0 m (pc + 6) ls (.int (xs (6 * t + k)) :: rest))) : W p l e R s m args below meth c H locs cells slots Q (F0 m pc ls rest) := by
  refine lv_aload_n K.1 K.2.1 d0 rfl (lv_at hl i0 h0) ?_
  refine lv_iload K.1 K.2.1 d1 (lv_at hl i4 h4) ?_
  refine lv_iconst (v := nI k) K.1 K.2.1 d3 hn ?_
  refine lv_iadd K.1 K.2.1 d4 ?_
  rw [nI_add]
  refine va_sld (A := fun q => s.heap.size ≤ q) K.1 K.2.1 hX hbl (Nat.not_le.mpr hbl) (lw_S hG hL) (nI_in hk (by omega)) d5 ?_
  rw [nI_clamp (by omega)]
  exact kk
end LOADS
theorem lw_cmp (v : Int64) : lg_cmp v v = 0 := by simp [lg_cmp]
