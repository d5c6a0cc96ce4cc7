/-! EXCEPTIONS, 2: contracts of methods that throw, of methods with a table of handlers; calls of them. Its first section is pasted from kit/laws/EXCEPTIONS.to-paste -/
/-! ===== BEGIN a method of a class above, found by the receiver, that may throw (follows va_callVU, va_runU of this kit) ===== -/
section
variable {p : Program} {l : Launch} {e : Env} {R : Room} {s : State} {m : MethodId} {args : Array Value} {below : List Frame} {meth : Method} {c : Code} {H : Heap} {locs : List Loc} {cells slots : Nat}
theorem vx_callVU {T : State} {locs : List Loc} {cells slots : Nat} (X : Stand p l e R s m args below meth c T locs cells slots) (hexec : p.tables.exec = Jvm.exec) {own C owner : String} {index : Nat} {x y : MethodName} {bytes : ByteArray} {maxL : Nat} {ret : Option FieldType}
    (hown : s.vm.findClass own = some m.cls) (hlink : (Cond.methodLink own index x).before args s = true) (hsame : (Cond.sameMethod x.cls owner x.name x.desc).before args s = true)
    (hd0 : va_Decl s ⟨owner, x.name, x.desc⟩) (howner : owner ≠ "java/lang/invoke/MethodHandle" ∧ owner ≠ "java/lang/invoke/VarHandle")
    (hsel : (Cond.selects C x y).before args s = true) (hinst : (Cond.instanceMethod y).before args s = true) (hcode : (Cond.code y bytes maxL ret).before args s = true)
    {W : Nat} {Pre : Pt → Array Value → Prop} {Post : Pt → Array Value → Option Value → Pt → Prop} {PostX : Pt → Array Value → Addr → Pt → Prop} (hK : vx_Back l R p e below s args y 3 W Pre Post PostX)
    {b : Addr} {cellB : Cell} (hcell : T.heap[b]? = some cellB) (hobj : cellB.vm.isStatics = false) (hcls : s.vm.findClass C = some cellB.cls)
    {g : JFrame} (hg : g.method = m) (hsize : g.locals.size = c.maxLocals) {argsL rest : List Value} (hlen : ∀ sig, parseMethodDescriptor x.desc = some sig → argsL.length = sig.parameters.length)
    (hstack : g.stack = argsL.reverse ++ .ref b :: rest) (hW : 2 * g.monitorRoom + (rest.map fun v => v.category).sum ≤ W) (hdg : decode c.code g.pc = .ok (.invokevirtual index, 3))
    (hpre : ∀ vm₁, s.WarmedH vm₁ → Pre ⟨T.setVm vm₁, locs, cells, slots⟩ (Value.ref b :: argsL).toArray) :
    (∃ (v : Option Value) (vm₁ : Vm) (B : Pt), s.WarmedH vm₁ ∧ Stand p l e R s m args below meth c B.U B.locs B.cells B.slots ∧ Post ⟨T.setVm vm₁, locs, cells, slots⟩ (Value.ref b :: argsL).toArray v B ∧
      ∀ target, Steps p.tables e below (B.U.setTop { g with pc := g.pc + 3, stack := v.toList ++ rest }) target → Steps p.tables e below (T.setTop g) target) ∨
    (∃ (q : Addr) (vm₁ : Vm) (B : Pt), s.WarmedH vm₁ ∧ Stand p l e R s m args below meth c B.U B.locs B.cells B.slots ∧ PostX ⟨T.setVm vm₁, locs, cells, slots⟩ (Value.ref b :: argsL).toArray q B ∧
      Steps p.tables e below (T.setTop g) ((B.U.setTop { g with stack := rest }).pushFrame (.throwing q))) := by
  obtain ⟨r0, r, hn, hrm, hstR, hsigR⟩ := hd0
  obtain ⟨cn, ck, r1, hcn, hck, hni, hf, hn1⟩ := Cond.sameMethod_found hsame
  cases hn.symm.trans hn1
  obtain ⟨mk, methM, hnamed, hmethM, -, habM⟩ := Cond.instanceMethod_spec hinst
  obtain ⟨c2, r2, m2, q1, q2, q3, q4, kP, hkP, hkPi⟩ := Cond.selects_spec hsel
  cases hcls.symm.trans q1
  cases hf.symm.trans q2
  cases hnamed.symm.trans q3
  have hselP : selectMethod e.platform s.vm cellB.cls r0 = .method mk := by rw [Launch.admits_selectMethod X.admits]; exact q4
  obtain ⟨vm₁, X₁, hstep₁⟩ := X.invokevirtualUp hexec hown hlink hsame howner hn hrm hstR (a := b) (cell := cellB) hcell
    (fun z h => by rw [h] at hobj; cases hobj) hselP hmethM habM hkP hkPi (g := g) hg (argsL := argsL) (rest := rest) (hlen _ hsigR) hstack hdg
  rcases hK m meth c ⟨T.setVm vm₁, locs, cells, slots⟩ { g with stack := rest } (.invokevirtual index) mk (Value.ref b :: argsL).toArray X₁ hg hsize hdg hW (X₁.named hnamed) (hpre vm₁ X₁.warmed) with ⟨v, B, X', hpost, hsteps⟩ | ⟨q, B, X', hpost, hsteps⟩
  · exact Or.inl ⟨v, vm₁, B, X₁.warmed, X', hpost, fun target h => hstep₁ _ fun acts => by rw [doInvoke_state]; exact hsteps.trans h⟩
  · exact Or.inr ⟨q, vm₁, B, X₁.warmed, X', hpost, hstep₁ _ fun acts => by rw [doInvoke_state]; exact hsteps⟩
theorem vx_runU {x y : MethodName} {bytes cc : ByteArray} {maxL nL mc ms n index : Nat} {ret : Option FieldType} {ws : List Cond} {rm : Room} {Pc : Array Value → State → Prop} {Qc : Array Value → State → Outcome → State → Prop} {XC : String → State → State → Prop} {free : Addr → Prop} {Ts : List Cond} {own C owner : String} {b : Addr} {As rest : List Value} {g : JFrame}
    (S : CallFix p m c cc nL s args Ts own) (hM : vx_Met l y ws rm Pc Qc XC mc ms free) (cw : va_CU R s args own C owner index x y bytes maxL ret ws rm mc ms n) (hp : PreV s H C b Pc As)
    (hg : g.method = m) (hn : As.length = n) (hsize : g.locals.size = nL) (hstack : g.stack = As.reverse ++ .ref b :: rest) (hW : 2 * g.monitorRoom + (rest.map fun v => v.category).sum ≤ 8) (hdg : decode cc g.pc = .ok (.invokevirtual index, 3)) (hf : cells + mc ≤ R.cells ∧ slots + ms ≤ R.slots) :
    vx_Run p l e R s m args below meth c H locs cells slots mc ms g rest (Qc (Value.ref b :: As).toArray) XC free := by
  obtain ⟨hrc, hrs, hfr, hlo, hws, hcw⟩ := cw.back
  have hini := cw.init
  have hK : vx_Back l R p e below s args y 3 8 (PreOf R mc ms Pc) (PostOf Qc mc ms free) (vx_Post XC mc ms free) := vx_back (bytes := bytes) (maxL := maxL) (ret := ret) hM hp.1 hrc hrs hfr hlo hws hcw (fun a' U hW => word_at hW (Or.inl (by first | rfl | simp [Cond.onTables, Cond.keeps, Cond.steady])) hini)
  obtain ⟨hx, hb, hml, ho, -⟩ := S
  obtain ⟨-, ⟨cellB, hcB, hoB, hclB⟩, hPc⟩ := hp
  intro T hT X
  rcases vx_callVU X hx (C := C) (owner := owner) (bytes := bytes) (maxL := maxL) (ret := ret) ho cw.link cw.same cw.decl cw.notMH cw.sel cw.inst cw.code hK (by rw [hT]; exact hcB) hoB hclB hg (hsize.trans hml.symm) (argsL := As) (rest := rest) (fun sig h => hn.trans (cw.len sig h)) hstack hW (by rw [hb]; exact hdg)
    (fun vm₁ hW₁ => ⟨hf.1, hf.2, hPc (T.setVm vm₁) hT hW₁⟩) with ⟨v, vm₁, ⟨U', l2, c2, s2⟩, hW₁, X', ⟨g', mk, t, L, e1, e2, hq, h1, hL, h2, h3⟩, st⟩ | ⟨q, vm₁, ⟨U', l2, c2, s2⟩, hW₁, X', ⟨g', mk, t, L, E, ce, e1, e2, hq, hce, hcv, hcl, h1, hL, h2, h3⟩, st⟩
  · dsimp only [Pt.U, Pt.locs, Pt.cells, Pt.slots] at X' e1 e2 h1 h2 h3 st
    subst h1; subst h2; subst h3
    exact Or.inl ⟨v, (T.setVm vm₁).calling g' mk (Value.ref b :: As).toArray, t, U', L, hT, X', hL, e1, e2, hq, st⟩
  · dsimp only [Pt.U, Pt.locs, Pt.cells, Pt.slots] at X' e1 e2 h1 h2 h3 st hcl
    subst h1; subst h2; subst h3
    exact Or.inr ⟨q, (T.setVm vm₁).calling g' mk (Value.ref b :: As).toArray, t, U', L, E, ce, hT, X', hL, e1, e2, hq, hce, hcv, vx_cls hW₁ hcl, st⟩
end
/-! ===== END ===== -/
/-- the strings of the throws -/
def xk_s : List (String × Nat × String) := [("ShipsThatMeet$Captain", 24, "a captain's failure"), ("ShipsThatMeet", 256, "no such shelf"), ("ShipsThatMeet", 267, "no row"), ("ShipsThatMeet", 270, "no such place")]
/-- what the throws stand on, beside ah_k -/
def xk (H0 : Heap) (U : State) : Prop := vx_Zq Bundle.tN "UNASSIGNED_STACK" Bundle.steD (fun q => H0.size ≤ q) U H0 ∧ vx_Zq Bundle.tN "SUPPRESSED_SENTINEL" Bundle.listD (fun q => H0.size ≤ q) U H0 ∧ (∀ q ∈ xk_s, ∃ a, vk_R q.1 q.2.1 q.2.2 a U) ∧ (∀ d ∈ xk_d, va_Nw (.declares d) U) ∧ (∀ C ∈ [xn_A, xn_S], va_Nw (.castable C C) U) ∧ va_Nc xn_S xn_A U
theorem xk.warm {H0 : Heap} {s U : State} (hW : s.WarmedH U.vm) (h : xk H0 s) : xk H0 U :=
  ⟨vx_Zq.moved hW.alike h.1, vx_Zq.moved hW.alike h.2.1, fun q hq => (h.2.2.1 q hq).elim fun a ha => ⟨a, vk_R.warm hW ha⟩, fun d hd => va_Nw.warmD hW (h.2.2.2.1 d hd), fun C hC => va_Nw.warmC hW (h.2.2.2.2.1 C hC), va_Nc.moved hW.alike h.2.2.2.2.2⟩
theorem xk.calling {H0 : Heap} {U : State} (g : JFrame) (mk : MethodId) (a : Array Value) (h : xk H0 U) : xk H0 (U.calling g mk a) :=
  ⟨vx_Zq.moved (u := U) (U := U.calling g mk a) (Vm.Alike.refl U.vm) h.1, vx_Zq.moved (u := U) (U := U.calling g mk a) (Vm.Alike.refl U.vm) h.2.1, fun q hq => (h.2.2.1 q hq).elim fun b hb => ⟨b, vk_R.same (u := U) (U := U.calling g mk a) rfl hb⟩, fun d hd => va_Nw.same rfl (rfl : U.vm = (U.calling g mk a).vm) (h.2.2.2.1 d hd), fun C hC => va_Nw.same rfl (rfl : U.vm = (U.calling g mk a).vm) (h.2.2.2.2.1 C hC), va_Nc.moved (u := U) (U := U.calling g mk a) (Vm.Alike.refl U.vm) h.2.2.2.2.2⟩
/-- the start of a contract that may throw -/
abbrev ax_P (H0 : Heap) (D : va_G) (ca : Nat → ClassId) (As : List Value) (M : ah_h) (z : Nat) : Array Value → State → Prop := va_Pc As (fun U => ah_g H0 D ca M z U.heap ∧ ah_k D ca U ∧ xk H0 U)
/-- how a throw leaves: of class E, the heap holds M still -/
abbrev ax_X (H0 : Heap) (D : va_G) (ca : Nat → ClassId) (M : ah_h) (z : Nat) (E : String) : String → State → State → Prop := fun E' _ t => E' = E ∧ ∃ z', z ≤ z' ∧ ah_g H0 D ca M z' t.heap
abbrev ax_N : Array Value → State → Outcome → State → Prop := fun _ _ _ _ => False
/-- it throws E -/
def ax_T (l : Launch) (H0 : Heap) (D : va_G) (ca : Nat → ClassId) (y : MethodName) (cc : ByteArray) (nL : Nat) (ret : Option FieldType) (fr lo mc ms : Nat) (As : List Value) (M : ah_h) (z : Nat) (E : String) : Prop :=
  vx_Met l y (ah_w y cc nL ret) { frames := fr, cells := mc, slots := ms, locals := lo } (ax_P H0 D ca As M z) ax_N (ax_X H0 D ca M z E) mc ms (fun q => H0.size ≤ q)
/-- how a method with handlers ends -/
abbrev ax_R (H0 : Heap) (D : va_G) (ca : Nat → ClassId) (r : Option Value) (M : ah_h) (z : Nat) : Array Value → State → Outcome → State → Prop := fun _ _ o t => o = .returned r ∧ ∃ z', z ≤ z' ∧ ah_g H0 D ca M z' t.heap
abbrev ax_F : String → State → State → Prop := fun _ _ _ => False
/-- a method with handlers: it returns r -/
def ax_H (l : Launch) (H0 : Heap) (D : va_G) (ca : Nat → ClassId) (y : MethodName) (cc : ByteArray) (nL : Nat) (ret : Option FieldType) (hh : List (Nat × Nat × Nat × Nat)) (fr lo mc ms : Nat) (As : List Value) (M : ah_h) (z : Nat) (r : Option Value) (M' : ah_h) : Prop :=
  vx_Met l y (Cond.codeWith y cc nL ret hh :: ah_tb) { frames := fr, cells := mc, slots := ms, locals := lo } (ax_P H0 D ca As M z) (ax_R H0 D ca r M' z) ax_F mc ms (fun q => H0.size ≤ q)
theorem ax_ofT {l : Launch} {H0 : Heap} {D : va_G} {ca : Nat → ClassId} {own nm ds : String} {cc : ByteArray} {nL : Nat} {ret : Option FieldType} {fr lo mc ms : Nat} {As : List Value} {M : ah_h} {z : Nat} {E : String} (hy : plainName own = true) (hA : (lg_sl As).length ≤ nL)
    (body : ∀ (p : Program) (e : Env) (s : State) (m : MethodId) (below : List Frame) (meth : Method) (c : Code) (ls : Array Slot), (∀ x ∈ c.exceptionTable.toList, False) → ah_K p s m As.toArray meth c D ca own cc nL ret → ah_g H0 D ca M z s.heap → xk H0 s → lv_has ls nL (lv_args 0 As) →
      W p l e { frames := fr, cells := mc, slots := ms, locals := lo } s m As.toArray below meth c s.heap [] 0 0 (vx_MQ below ax_N (ax_X H0 D ca M z E) As.toArray s mc ms (fun q => H0.size ≤ q)) (F0 m 0 ls [])) : ax_T l H0 D ca ⟨own, nm, ds⟩ cc nL ret fr lo mc ms As M z E := by
  refine vx_ofW (cc := cc) (maxL := nL) (ret := ret) hy rfl ?_
  intro p e s m args below meth c s₁ B hml ht hv
  obtain ⟨rfl, hg, hk, hx⟩ := hv
  have hts := atoms_spec (ws := ah_w ⟨own, nm, ds⟩ cc nL ret) B.pre
  have hl := lv_entry As (n := nL) hA
  rw [lg_entry_eq]
  exact body p e s m below meth c _ ht ⟨B.exec, B.bytes, hml, findClass_of_methodNamed B.named, fun w hw => hts w (List.mem_cons_of_mem _ hw), hk, B.returns, B.notSynchronized⟩ hg hx hl
theorem ax_ofH {l : Launch} {H0 : Heap} {D : va_G} {ca : Nat → ClassId} {own nm ds : String} {cc : ByteArray} {nL : Nat} {ret : Option FieldType} {hh : List (Nat × Nat × Nat × Nat)} {fr lo mc ms : Nat} {As : List Value} {M : ah_h} {z : Nat} {r : Option Value} {M' : ah_h} (hy : plainName own = true) (hA : (lg_sl As).length ≤ nL)
    (body : ∀ (p : Program) (e : Env) (s : State) (m : MethodId) (below : List Frame) (meth : Method) (c : Code) (ls : Array Slot), c.exceptionTable.toList = tableOf hh → ah_K p s m As.toArray meth c D ca own cc nL ret → ah_g H0 D ca M z s.heap → xk H0 s → lv_has ls nL (lv_args 0 As) →
      W p l e { frames := fr, cells := mc, slots := ms, locals := lo } s m As.toArray below meth c s.heap [] 0 0 (vx_MQ below (ax_R H0 D ca r M' z) ax_F As.toArray s mc ms (fun q => H0.size ≤ q)) (F0 m 0 ls [])) : ax_H l H0 D ca ⟨own, nm, ds⟩ cc nL ret hh fr lo mc ms As M z r M' := by
  refine vx_ofWH (cc := cc) (maxL := nL) (ret := ret) (hh := hh) hy rfl ?_
  intro p e s m args below meth c s₁ B hml hv
  obtain ⟨rfl, hg, hk, hx⟩ := hv
  have hts := atoms_spec (ws := Cond.codeWith ⟨own, nm, ds⟩ cc nL ret hh :: ah_tb) B.pre
  have ht := vx_table (x := ⟨own, nm, ds⟩) (y := ⟨own, nm, ds⟩) B (hts _ List.mem_cons_self)
  have hl := lv_entry As (n := nL) hA
  rw [lg_entry_eq]
  exact body p e s m below meth c _ ht ⟨B.exec, B.bytes, hml, findClass_of_methodNamed B.named, fun w hw => hts w (List.mem_cons_of_mem _ hw), hk, B.returns, B.notSynchronized⟩ hg hx hl
theorem ax_sub {vm : Vm} {c p : ClassId} {k : Class} (hk : vm.classes[c]? = some k) (hs : k.super = some p) : vm.isSubclass c p = true := by
  unfold Vm.isSubclass
  obtain ⟨n, hn⟩ : ∃ n, vm.classes.size = n + 1 := ⟨vm.classes.size - 1, by have := (Array.getElem?_eq_some_iff.mp hk).1; omega⟩
  rw [hn]
  simp [Vm.isSubclassAux, hk, hs]
section AX
variable {p : Program} {l : Launch} {e : Env} {R : Room} {s : State} {m : MethodId} {args : Array Value} {below : List Frame} {meth : Method} {c : Code} {H : Heap} {locs : List Loc} {cells slots : Nat} {Q : State → Prop}
variable {cc : ByteArray} {pc : Nat} {ls : Array Slot} {rest : List Value} {D : va_G} {ca : Nat → ClassId} {a : Nat} {H0 : Heap} {own : String} {nL : Nat} {ret : Option FieldType} {M : ah_h} {z : Nat}
/-- the words of a throw hold -/
theorem ax_hat (K : ah_K p s m args meth c D ca own cc nL ret) (hX : xk H0 s) {o cls : String} {ic : Nat} (xa : GoodIn lw_tbl ((vx_atS o ic cls xn_N).filter goodWord)) (xb : (vx_atS o ic cls xn_N).filter (fun w => !goodWord w) = xk_d.map Cond.declares ++ [Cond.castable cls cls]) (hc : cls ∈ [xn_A, xn_S]) : ∀ w ∈ vx_atS o ic cls xn_N, w.before args s = true := by
  refine vx_hat (B := xk_d.map Cond.declares ++ [Cond.castable cls cls]) (fun w hw => K.2.2.2.2.1 w (List.mem_filter.mpr ⟨(xa w hw).1, (List.mem_filter.mp hw).2⟩)) (fun w hw => by rw [xb] at hw; exact hw) (fun w hw => ?_)
  rcases List.mem_append.mp hw with h | h
  · obtain ⟨d, hd, rfl⟩ := List.mem_map.mp h
    exact va_Nw.use rfl (hX.2.2.2.1 d hd)
  · rw [List.mem_singleton.mp h]
    exact va_Nw.use rfl (hX.2.2.2.2.1 cls hc)
theorem ax_zq (hG0 : ah_g H0 D ca M z s.heap) {n d : String} (h : vx_Zq Bundle.tN n d (fun q => H0.size ≤ q) s H0) : vx_Zq Bundle.tN n d (fun q => H0.size ≤ q) s s.heap := h.kept (fun a ha _ => hG0.2.2.1 a ha)
theorem ax_S (hG0 : ah_g H0 D ca M z s.heap) (hG : ah_g H0 D ca M z H) (hL : ah_L H0 locs) : va_S (fun q => H0.size ≤ q) s.heap H locs :=
  ⟨by rw [hG0.1, hG.1]; exact Nat.le_refl _, fun q _ h2 => (hG.2.2.1 q (by omega)).trans (hG0.2.2.1 q (by omega)).symm, hL⟩
theorem ax_left (hG : ah_g H0 D ca M z H) {E : String} (t : State) (h1 : H.size ≤ t.heap.size) (h2 : ∀ q : Nat, q < H.size → t.heap[q]? = H[q]?) : ax_X H0 D ca M z E E s t :=
  ⟨rfl, t.heap.size, by rw [← hG.1]; exact h1, rfl, by have := hG.2.1; rw [← hG.1] at this; omega, fun q hq => (h2 q (by have := hG.2.1; rw [← hG.1] at this; omega)).trans (hG.2.2.1 q hq), fun q e he => ⟨(hG.2.2.2 q e he).1, (hG.2.2.2 q e he).2.kept (h2 q (hG.2.2.2 q e he).2.lt)⟩⟩
theorem ax_throwS (K : ah_K p s m args meth c D ca own cc nL ret) (hl : l.stackTraces = false) (ht : ∀ x ∈ c.exceptionTable.toList, False) (hX : xk H0 s) (hG0 : ah_g H0 D ca M z s.heap) (hG : ah_g H0 D ca M z H) (hL : ah_L H0 locs) (hls : ls.size = nL) {cls text : String} {ik is ic mc ms : Nat} (xa : GoodIn lw_tbl ((vx_atS own ic cls xn_N).filter goodWord)) (xb : (vx_atS own ic cls xn_N).filter (fun w => !goodWord w) = xk_d.map Cond.declares ++ [Cond.castable cls cls]) (xg : ∀ w ∈ Cond.classLink own ik cls :: Cond.initialized cls :: vx_atS own ic cls xn_N, vx_ot w = true) (hc : cls ∈ [xn_A, xn_S]) (hfit : Bundle.fit cls = true) (hnm : ∀ n ∈ xn_N, Bundle.fit n = true) (w1 : Cond.classLink own ik cls ∈ ah_tb) (w2 : Cond.initialized cls ∈ ah_tb) (hs : (own, is, text) ∈ xk_s)
    (d0 : decode cc pc = .ok (.new ik, 3)) (d3 : decode cc (pc + 3) = .ok (.dup, 1)) (d4 : decode cc (pc + 4) = .ok (.ldc is, 2)) (d6 : decode cc (pc + 6) = .ok (.invokespecial ic, 3)) (d9 : decode cc (pc + 9) = .ok (.athrow, 1))
    (hR1 : 6 ≤ R.frames) (hR2 : (rest.map fun v => v.category).sum + 82 ≤ R.locals) (hR3 : cells + 1 ≤ R.cells) (hR4 : slots + 6 ≤ R.slots) (hmc : cells + 1 ≤ mc) (hms : slots + 6 ≤ ms) :
    W p l e R s m args below meth c H locs cells slots (vx_MQ below ax_N (ax_X H0 D ca M z cls) args s mc ms (fun q => H0.size ≤ q)) (F0 m pc ls rest) := by
  obtain ⟨sa, hsa⟩ := hX.2.2.1 _ hs
  exact vx_throwS (names := xn_N) (ik := ik) (is := is) (ic := ic) (sa := sa) (text := text) (A := fun q => H0.size ≤ q) K.1 K.2.1 hl K.2.2.2.1 hfit hnm (K.2.2.2.2.1 _ w1) (K.2.2.2.2.1 _ w2) hsa (ax_hat K hX xa xb hc) xg (ax_zq hG0 hX.1) (ax_zq hG0 hX.2.1) (ax_S hG0 hG hL) (hls.trans K.2.2.1.symm) d0 d3 d4 d6 d9 (fun x hx => (ht x hx).elim) (by show 2 + 3 < R.frames; omega) (by show _ + (13 * (2 + 1) + 43) ≤ _; omega) hR3 hR4 K.2.2.2.2.2.2.2 (fun t _ h1 h2 => ax_left hG t h1 h2) hL hmc hms
theorem ax_throwSW (K : ah_K p s m args meth c D ca own cc nL ret) (hl : l.stackTraces = false) (ht : ∀ x ∈ c.exceptionTable.toList, False) (hX : xk H0 s) (hG0 : ah_g H0 D ca M z s.heap) (hG : ah_g H0 D ca M z H) (hL : ah_L H0 locs) (hls : ls.size = nL) {cls text : String} {ik is ic mc ms : Nat} (xa : GoodIn lw_tbl ((vx_atS own ic cls xn_N).filter goodWord)) (xb : (vx_atS own ic cls xn_N).filter (fun w => !goodWord w) = xk_d.map Cond.declares ++ [Cond.castable cls cls]) (xg : ∀ w ∈ Cond.classLink own ik cls :: Cond.initialized cls :: vx_atS own ic cls xn_N, vx_ot w = true) (hc : cls ∈ [xn_A, xn_S]) (hfit : Bundle.fit cls = true) (hnm : ∀ n ∈ xn_N, Bundle.fit n = true) (w1 : Cond.classLink own ik cls ∈ ah_tb) (w2 : Cond.initialized cls ∈ ah_tb) (hs : (own, is, text) ∈ xk_s)
    (d0 : decode cc pc = .ok (.new ik, 3)) (d3 : decode cc (pc + 3) = .ok (.dup, 1)) (d4 : decode cc (pc + 4) = .ok (.ldc_w is, 3)) (d7 : decode cc (pc + 7) = .ok (.invokespecial ic, 3)) (d10 : decode cc (pc + 10) = .ok (.athrow, 1))
    (hR1 : 6 ≤ R.frames) (hR2 : (rest.map fun v => v.category).sum + 82 ≤ R.locals) (hR3 : cells + 1 ≤ R.cells) (hR4 : slots + 6 ≤ R.slots) (hmc : cells + 1 ≤ mc) (hms : slots + 6 ≤ ms) :
    W p l e R s m args below meth c H locs cells slots (vx_MQ below ax_N (ax_X H0 D ca M z cls) args s mc ms (fun q => H0.size ≤ q)) (F0 m pc ls rest) := by
  obtain ⟨sa, hsa⟩ := hX.2.2.1 _ hs
  exact vx_throwSW (names := xn_N) (ik := ik) (is := is) (ic := ic) (sa := sa) (text := text) (A := fun q => H0.size ≤ q) K.1 K.2.1 hl K.2.2.2.1 hfit hnm (K.2.2.2.2.1 _ w1) (K.2.2.2.2.1 _ w2) hsa (ax_hat K hX xa xb hc) xg (ax_zq hG0 hX.1) (ax_zq hG0 hX.2.1) (ax_S hG0 hG hL) (hls.trans K.2.2.1.symm) d0 d3 d4 d7 d10 (fun x hx => (ht x hx).elim) (by show 2 + 3 < R.frames; omega) (by show _ + (13 * (2 + 1) + 43) ≤ _; omega) hR3 hR4 K.2.2.2.2.2.2.2 (fun t _ h1 h2 => ax_left hG t h1 h2) hL hmc hms
/-- the end of a method with handlers -/
theorem ax_iret {z0 : Nat} {M' : ah_h} (K : ah_K p s m args meth c D ca own cc nL (some .int)) (hG : ah_g H0 D ca M' z H) (hz : z0 ≤ z) (hL : ah_L H0 locs) {mc ms : Nat} {v : Int32} (hc : cells ≤ mc) (hs : slots ≤ ms) (hdg : decode cc pc = .ok (.ireturn, 1)) : W p l e R s m args below meth c H locs cells slots (vx_MQ below (ax_R H0 D ca (some (.int v)) M' z0) ax_F args s mc ms (fun q => H0.size ≤ q)) (F0 m pc ls [.int v]) := by
  have hlocks := K.2.2.2.2.2.2.2
  exact vx_ret (W.widen hc hs (W.iret (v := v) K.1 K.2.1 K.2.2.2.2.2.2.1 (fun t ht _ => ⟨rfl, z, hz, by rw [ht]; exact hG⟩) hL hdg))
/-- a call that throws -/
theorem ax_go {mc ms : Nat} {st0 : List Value} {E : String} (hL : ah_L H0 locs) (hr : vx_Run p l e R s m args below meth c H locs cells slots mc ms (F0 m pc ls st0) rest (fun _ _ _ => False) (ax_X H0 D ca M z E) (fun q => H0.size ≤ q))
    (kk : ∀ (q9 : Addr) (ce : Cell) (z' : Nat) (H1 : Heap) (locs1 : List Loc), z ≤ z' → ah_g H0 D ca M z' H1 → ah_L H0 locs1 → H1[q9]? = some ce → ce.vm = .none → s.vm.findClass E = some ce.cls → vx_W p l e R s m args below meth c H1 locs1 (cells + mc) (slots + ms) Q (F0 m pc ls rest) q9) : W p l e R s m args below meth c H locs cells slots Q (F0 m pc ls st0) := by
  intro T hT X
  rcases hr T hT X with ⟨v, st₀, t, T', L, h0, X', hLL, e1, e2, hf, st⟩ | ⟨q, st₀, t, T', L, E', ce, h0, X', hLL, e1, e2, ⟨rfl, z', hz, hg⟩, hce, hcv, hcl, st⟩
  · exact hf.elim
  · obtain ⟨t2, a1, b1⟩ := kk q ce z' T'.heap (locs ++ L) hz (by rw [e1]; exact hg) (fun q hq => by
      rcases List.mem_append.mp hq with h | h
      · exact hL q h
      · exact hLL q h) (by rw [e1]; exact hce) hcv hcl T' rfl X'
    exact ⟨t2, st.trans a1, b1⟩
/-- a call of a method with handlers -/
theorem ax_goH {mc ms : Nat} {st0 : List Value} {r : Option Value} {M' : ah_h} (hL : ah_L H0 locs) (hr : vx_Run p l e R s m args below meth c H locs cells slots mc ms (F0 m pc ls st0) rest (fun _ o t => o = .returned r ∧ ∃ z', z ≤ z' ∧ ah_g H0 D ca M' z' t.heap) ax_F (fun q => H0.size ≤ q))
    (kk : ∀ (z' : Nat) (H1 : Heap) (locs1 : List Loc), z ≤ z' → ah_g H0 D ca M' z' H1 → ah_L H0 locs1 → W p l e R s m args below meth c H1 locs1 (cells + mc) (slots + ms) Q (F0 m (pc + 3) ls (r.toList ++ rest))) : W p l e R s m args below meth c H locs cells slots Q (F0 m pc ls st0) := by
  intro T hT X
  rcases hr T hT X with ⟨v, st₀, t, T', L, h0, X', hLL, e1, e2, ⟨hv, z', hz, hg⟩, st⟩ | ⟨q, st₀, t, T', L, E', ce, h0, X', hLL, e1, e2, hf, -⟩
  · cases hv
    obtain ⟨t2, a1, b1⟩ := kk z' T'.heap (locs ++ L) hz (by rw [e1]; exact hg) (fun q hq => by
      rcases List.mem_append.mp hq with h | h
      · exact hL q h
      · exact hLL q h) T' rfl X'
    exact ⟨t2, st t2 a1, b1⟩
  · exact hf.elim
theorem ax_pre (K : ah_K p s m args meth c D ca own cc nL ret) (hX : xk H0 s) (hG : ah_g H0 D ca M z H) (As : List Value) : FrameBlind (ax_P H0 D ca As M z) ∧ ∀ U : State, U.heap = H → s.WarmedH U.vm → ax_P H0 D ca As M z As.toArray U :=
  ⟨fun a U g mk q => ⟨q.1, q.2.1, q.2.2.1.calling g mk a, q.2.2.2.calling g mk a⟩, fun U hU hW => ⟨rfl, by rw [hU]; exact hG, K.2.2.2.2.2.1.warm hW, hX.warm hW⟩⟩
variable {y : MethodName} {c9 : ByteArray} {n9 index fr lo mc ms n : Nat} {r9 : Option FieldType} {As : List Value} {E : String}
theorem ax_callV (K : ah_K p s m args meth c D ca own cc nL ret) (hX : xk H0 s) (hG : ah_g H0 D ca M z H) (hL : ah_L H0 locs) (hls : ls.size = nL) {ci : Nat} {fs : List Value} {C : String} {T : u_T} {N : Nat} (hO : M a = some (ah_O ci fs)) (hc : vwCl[ci]? = some (C, T, N)) (hM : ax_T l H0 D ca y c9 n9 r9 fr lo mc ms (.ref a :: As) M z E) (hd : ah_d y n) (w1 : Cond.methodLink own index y ∈ ah_tb) (w2 : Cond.instanceMethod y ∈ ah_tb) (w3 : Cond.initialized y.cls ∈ ah_tb) (w4 : Cond.code y c9 n9 r9 ∈ ah_tb) (w5 : Cond.selects C y y ∈ ah_tb)
    (hR : fr + 1 ≤ R.frames ∧ 8 + (n9 + 11) + lo ≤ R.locals) {st : List Value} (hn : As.length = n) (hst : st = As.reverse ++ .ref a :: rest) (hW : (rest.map fun v => v.category).sum ≤ 8) (hf : cells + mc ≤ R.cells ∧ slots + ms ≤ R.slots) (hdg : decode cc pc = .ok (.invokevirtual index, 3))
    (kk : ∀ (q9 : Addr) (ce : Cell) (z' : Nat) (H1 : Heap) (locs1 : List Loc), z ≤ z' → ah_g H0 D ca M z' H1 → ah_L H0 locs1 → H1[q9]? = some ce → ce.vm = .none → s.vm.findClass E = some ce.cls → vx_W p l e R s m args below meth c H1 locs1 (cells + mc) (slots + ms) Q (F0 m pc ls rest) q9) : W p l e R s m args below meth c H locs cells slots Q (F0 m pc ls st) := by
  obtain ⟨hx, hb, hml, hown, hts, -⟩ := id K
  refine ax_go hL ?_ kk
  have hp := ax_pre K hX hG (.ref a :: As)
  exact vx_runV ⟨hx, hb, hml, hown, hts⟩ hM ⟨callB_of n hts (ah_goodc w4) rfl rfl rfl (hts _ w3) (hts _ w1) hd hR, hts _ w2, hts _ w5⟩ ⟨hp.1, ah_recv K hG hO hc, hp.2⟩ rfl hn hls hst (lv_room hW) hdg hf
theorem ax_callO (K : ah_K p s m args meth c D ca own cc nL ret) (hX : xk H0 s) (hG : ah_g H0 D ca M z H) (hL : ah_L H0 locs) (hls : ls.size = nL) {ci : Nat} {fs : List Value} {C owner : String} {T : u_T} {N : Nat} (hO : M a = some (ah_O ci fs)) (hc : vwCl[ci]? = some (C, T, N)) (hM : ax_T l H0 D ca y c9 n9 r9 fr lo mc ms (.ref a :: As) M z E) {x : MethodName} (hd : owner ≠ "java/lang/invoke/MethodHandle" ∧ owner ≠ "java/lang/invoke/VarHandle" ∧ (parseMethodDescriptor x.desc).map (fun d => d.parameters.length) = some n) (w1 : Cond.methodLink own index x ∈ ah_tb) (w2 : Cond.instanceMethod y ∈ ah_tb) (w3 : Cond.initialized y.cls ∈ ah_tb) (w4 : Cond.code y c9 n9 r9 ∈ ah_tb) (w5 : Cond.sameMethod x.cls owner x.name x.desc ∈ ah_tb) (w6 : Cond.selects C x y ∈ ah_tb)
    (w7 : Cond.instanceMethod ⟨owner, x.name, x.desc⟩ ∈ ah_tb) {b0 : ByteArray} {m0 : Nat} {r0 : Option FieldType} (w8 : Cond.code ⟨owner, x.name, x.desc⟩ b0 m0 r0 ∈ ah_tb)
    (hR : fr + 1 ≤ R.frames ∧ 8 + (n9 + 11) + lo ≤ R.locals) {st : List Value} (hn : As.length = n) (hst : st = As.reverse ++ .ref a :: rest) (hW : (rest.map fun v => v.category).sum ≤ 8) (hf : cells + mc ≤ R.cells ∧ slots + ms ≤ R.slots) (hdg : decode cc pc = .ok (.invokevirtual index, 3))
    (kk : ∀ (q9 : Addr) (ce : Cell) (z' : Nat) (H1 : Heap) (locs1 : List Loc), z ≤ z' → ah_g H0 D ca M z' H1 → ah_L H0 locs1 → H1[q9]? = some ce → ce.vm = .none → s.vm.findClass E = some ce.cls → vx_W p l e R s m args below meth c H1 locs1 (cells + mc) (slots + ms) Q (F0 m pc ls rest) q9) : W p l e R s m args below meth c H locs cells slots Q (F0 m pc ls st) := by
  obtain ⟨hx, hb, hml, hown, hts, hk, -⟩ := id K
  refine ax_go hL ?_ kk
  have hp := ax_pre K hX hG (.ref a :: As)
  have hG9 : GoodIn ah_tb (va_wsO own index C owner x y (ah_w y c9 n9 r9)) := ah_good (fun w hw => by
    rcases List.mem_append.mp hw with h | h
    · simp only [List.mem_cons, List.not_mem_nil, or_false] at h
      rcases h with rfl | rfl | rfl | rfl | rfl | rfl
      · exact w1
      · exact w5
      · exact w7
      · exact w6
      · exact w2
      · exact w3
    · exact (ah_goodc w4 w h).1)
  exact vx_runU ⟨hx, hb, hml, hown, hts⟩ hM (va_cwO n hts hG9 rfl rfl rfl w8 hd hR) ⟨hp.1, ah_recv K hG hO hc, hp.2⟩ rfl hn hls hst (lv_room hW) hdg hf
variable {hh : List (Nat × Nat × Nat × Nat)} {r : Option Value} {M' : ah_h}
theorem ax_goodH (h : Cond.codeWith y c9 n9 r9 hh ∈ ah_tb) : GoodIn ah_tb (Cond.codeWith y c9 n9 r9 hh :: ah_tb) := ah_good (fun w hw => by
  rcases List.mem_cons.mp hw with rfl | hw
  · exact h
  · exact hw)
theorem ax_callHV (K : ah_K p s m args meth c D ca own cc nL ret) (hX : xk H0 s) (hG : ah_g H0 D ca M z H) (hL : ah_L H0 locs) (hls : ls.size = nL) {ci : Nat} {fs : List Value} {C : String} {T : u_T} {N : Nat} (hO : M a = some (ah_O ci fs)) (hc : vwCl[ci]? = some (C, T, N)) (hM : ax_H l H0 D ca y c9 n9 r9 hh fr lo mc ms (.ref a :: As) M z r M') (hd : ah_d y n) (w1 : Cond.methodLink own index y ∈ ah_tb) (w2 : Cond.instanceMethod y ∈ ah_tb) (w3 : Cond.initialized y.cls ∈ ah_tb) (w4 : Cond.codeWith y c9 n9 r9 hh ∈ ah_tb) (w5 : Cond.selects C y y ∈ ah_tb)
    (hR : fr + 1 ≤ R.frames ∧ 8 + (n9 + 11) + lo ≤ R.locals) {st : List Value} (hn : As.length = n) (hst : st = As.reverse ++ .ref a :: rest) (hW : (rest.map fun v => v.category).sum ≤ 8) (hf : cells + mc ≤ R.cells ∧ slots + ms ≤ R.slots) (hdg : decode cc pc = .ok (.invokevirtual index, 3))
    (kk : ∀ (z' : Nat) (H1 : Heap) (locs1 : List Loc), z ≤ z' → ah_g H0 D ca M' z' H1 → ah_L H0 locs1 → W p l e R s m args below meth c H1 locs1 (cells + mc) (slots + ms) Q (F0 m (pc + 3) ls (r.toList ++ rest))) : W p l e R s m args below meth c H locs cells slots Q (F0 m pc ls st) := by
  obtain ⟨hx, hb, hml, hown, hts, -⟩ := id K
  refine ax_goH hL ?_ kk
  have hp := ax_pre K hX hG (.ref a :: As)
  have hlen : ∀ sig, parseMethodDescriptor y.desc = some sig → n = sig.parameters.length := fun sig h => by
    have h2 := hd.2.2
    rw [h] at h2
    exact (Option.some.inj h2).symm
  exact vx_runVX (hh := hh) ⟨hx, hb, hml, hown, hts⟩ hM ⟨⟨rfl, rfl, hR.1, hR.2, pay_in hts (ax_goodH w4), List.mem_cons_self⟩, hts _ w4, hts _ w3, ⟨hd.1, hd.2.1⟩, hlen, hts _ w1, hts _ w2, hts _ w5⟩ ⟨hp.1, ah_recv K hG hO hc, hp.2⟩ rfl hn hls hst (lv_room hW) hdg hf
theorem ax_callHS (K : ah_K p s m args meth c D ca own cc nL ret) (hX : xk H0 s) (hG : ah_g H0 D ca M z H) (hL : ah_L H0 locs) (hls : ls.size = nL) (hM : ax_H l H0 D ca y c9 n9 r9 hh fr lo mc ms As M z r M') (hd : ah_d y n) (w1 : Cond.methodLink own index y ∈ ah_tb) (w2 : Cond.static y ∈ ah_tb) (w3 : Cond.initialized y.cls ∈ ah_tb) (w4 : Cond.codeWith y c9 n9 r9 hh ∈ ah_tb)
    (hR : fr + 1 ≤ R.frames ∧ 8 + (n9 + 11) + lo ≤ R.locals) {st : List Value} (hn : As.length = n) (hst : st = As.reverse ++ rest) (hW : (rest.map fun v => v.category).sum ≤ 8) (hf : cells + mc ≤ R.cells ∧ slots + ms ≤ R.slots) (hdg : decode cc pc = .ok (.invokestatic index, 3))
    (kk : ∀ (z' : Nat) (H1 : Heap) (locs1 : List Loc), z ≤ z' → ah_g H0 D ca M' z' H1 → ah_L H0 locs1 → W p l e R s m args below meth c H1 locs1 (cells + mc) (slots + ms) Q (F0 m (pc + 3) ls (r.toList ++ rest))) : W p l e R s m args below meth c H locs cells slots Q (F0 m pc ls st) := by
  obtain ⟨hx, hb, hml, hown, hts, -⟩ := id K
  refine ax_goH hL ?_ kk
  have hlen : ∀ sig, parseMethodDescriptor y.desc = some sig → n = sig.parameters.length := fun sig h => by
    have h2 := hd.2.2
    rw [h] at h2
    exact (Option.some.inj h2).symm
  exact vx_runSX (hh := hh) ⟨hx, hb, hml, hown, hts⟩ hM ⟨⟨rfl, rfl, hR.1, hR.2, pay_in hts (ax_goodH w4), List.mem_cons_self⟩, hts _ w4, hts _ w3, ⟨hd.1, hd.2.1⟩, hlen, hts _ w1, hts _ w2⟩ (ax_pre K hX hG As) rfl hn hls hst (lv_room hW) hdg hf
/-- super.m(..) of a method that the superclass inherits from its own superclass: x is named, y is run -/
theorem ah_callUU {z' : Nat} (K : ah_K p s m args meth c D ca own cc nL ret) (hG : ah_g H0 D ca M z H) (hL : ah_L H0 locs) (hls : ls.size = nL) {ci : Nat} {fs : List Value} {C : String} {T : u_T} {N : Nat} (hO : M a = some (ah_O ci fs)) (hc : vwCl[ci]? = some (C, T, N)) (hM : ah_ct l H0 D ca y c9 n9 r9 fr lo mc ms (.ref a :: As) M z r M' z') {x : MethodName} (hxy : (⟨y.cls, x.name, x.desc⟩ : MethodName) = y) (hno : x.name ≠ "<init>") (hd : (parseMethodDescriptor y.desc).map (fun d => d.parameters.length) = some n) (w1 : Cond.methodLink own index x ∈ ah_tb) (w2 : Cond.instanceMethod y ∈ ah_tb) (w3 : Cond.initialized y.cls ∈ ah_tb) (w4 : Cond.code y c9 n9 r9 ∈ ah_tb) (w5 : Cond.sameMethod x.cls y.cls x.name x.desc ∈ ah_tb) (w6 : Cond.superclass own x.cls ∈ ah_tb) (w7 : Cond.superclass x.cls y.cls ∈ ah_tb)
    (hR : fr + 1 ≤ R.frames ∧ 8 + (n9 + 11) + lo ≤ R.locals) {st : List Value} (hn : As.length = n) (hst : st = As.reverse ++ .ref a :: rest) (hW : (rest.map fun v => v.category).sum ≤ 8) (hf : cells + mc ≤ R.cells ∧ slots + ms ≤ R.slots) (hdg : decode cc pc = .ok (.invokespecial index, 3))
    (kk : ∀ (H1 : Heap) (locs1 : List Loc), ah_g H0 D ca M' z' H1 → ah_L H0 locs1 → W p l e R s m args below meth c H1 locs1 (cells + mc) (slots + ms) Q (F0 m (pc + 3) ls (r.toList ++ rest))) : W p l e R s m args below meth c H locs cells slots Q (F0 m pc ls st) := by
  obtain ⟨hx, hb, hml, hown, hts, hk, -⟩ := id K
  refine ah_go hL ?_ kk
  have hp := ah_pre K hG (.ref a :: As)
  obtain ⟨cellB, hcB, hoB, hclB⟩ := ah_recv K hG hO hc
  obtain ⟨hfc, kB, hkB0, -⟩ := (hk.1.1 ci _ hc).2
  have hkB : s.vm.classes[cellB.cls]? = some kB := by
    rw [Option.some.inj (hclB.symm.trans hfc)]
    exact hkB0
  have hK : Back l R p e below s args y 3 8 (PreOf R mc ms (va_Pc (.ref a :: As) (fun U => ah_g H0 D ca M z U.heap ∧ ah_k D ca U))) (PostOf (ah_q H0 D ca r M' z') mc ms (fun q => H0.size ≤ q)) := back_of (bytes := c9) (maxL := n9) (ret := r9) hM hp.1 rfl rfl hR.1 hR.2 (pay_in hts (ah_goodc w4)) List.mem_cons_self (fun a' U hW => word_at hW (Or.inl (by first | rfl | simp [Cond.onTables, Cond.keeps, Cond.steady])) (hts _ w3))
  obtain ⟨mk, methM, hnamed, hmethM, hstM, habM⟩ := Cond.instanceMethod_spec (hts _ w2)
  obtain ⟨methM', cM, hmethM', -, -, -, -, -, -, hsigM⟩ := Cond.code_spec hnamed (hts _ w4)
  cases hmethM.symm.trans hmethM'
  obtain ⟨ps, dk, kp, hps, hdk, hkp, hsuper, -, -, hnid⟩ := Cond.superclass_spec hown (hts _ w6)
  obtain ⟨ps2, dk2, kp2, hps2, hdk2, hkp2, hsuper2, -, -, -⟩ := Cond.superclass_spec hps (hts _ w7)
  have hnm : s.methodNamed? ⟨y.cls, x.name, x.desc⟩ = some mk := by rw [hxy]; exact hnamed
  have hpm : ps2 = mk.cls := Option.some.inj (hps2.symm.trans (findClass_of_methodNamed hnamed))
  have hsub : s.vm.isSubclass ps mk.cls = true := by rw [← hpm]; exact ax_sub hdk2 hsuper2
  have hlen : As.length = methM.sig.parameters.length := by
    rw [hsigM] at hd
    rw [hn]
    exact (Option.some.inj hd).symm
  intro T hT X
  obtain ⟨vm₁, X₁, hstep₁⟩ := X.invokespecialUp hx hown (hts _ w1) (hts _ w5) hnm hmethM hstM habM hno hdk hnid hps hsuper hsub (a := a) (cell := cellB) (by rw [hT]; exact hcB)
    (fun z h => by rw [h] at hoB; cases hoB) hkB (g := F0 m pc ls st) rfl (argsL := As) (rest := rest) hlen hst (by rw [hb]; exact hdg)
  obtain ⟨v, B, X', hpost, hsteps⟩ := hK m meth c ⟨T.setVm vm₁, locs, cells, slots⟩ { F0 m pc ls st with stack := rest } (.invokespecial index) mk (Value.ref a :: As).toArray X₁ rfl (hls.trans hml.symm) (by rw [hb]; exact hdg) (lv_room hW) (X₁.named hnamed) ⟨hf.1, hf.2, hp.2 (T.setVm vm₁) hT X₁.warmed⟩
  obtain ⟨U', l2, c2, s2⟩ := B
  obtain ⟨g', mk', t, L, e1, e2, hq, h1, hLL, h2, h3⟩ := hpost
  dsimp only [Pt.U, Pt.locs, Pt.cells, Pt.slots] at X' e1 e2 h1 h2 h3 hsteps
  subst h1; subst h2; subst h3
  exact ⟨v, (T.setVm vm₁).calling g' mk' (Value.ref a :: As).toArray, t, U', L, hT, X', hLL, e1, e2, hq, fun target h => hstep₁ _ (by rw [doInvoke_state]; exact hsteps.trans h)⟩
end AX
