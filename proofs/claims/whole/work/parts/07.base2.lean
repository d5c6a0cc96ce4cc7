/-! making cells; copying; captains -/
def ah_pc (M : ah_h) (a k : Nat) (v : Value) : Option ah_h := (ah_oc M a).bind fun x => if k < x.2.length then some (ah_up M a (ah_O x.1 (x.2.set k v))) else none
theorem ah_pc_some {M M' : ah_h} {a k : Nat} {v : Value} (h : ah_pc M a k v = some M') : ∃ ci, ah_cap ci = true ∧ ah_pf M a ci k v = some M' := by
  obtain ⟨x, h1, h2⟩ := Option.bind_eq_some_iff.mp h
  obtain ⟨h3, h4⟩ := ah_oc_some h1
  refine ⟨x.1, h4, ?_⟩
  unfold ah_pf ah_ob
  rw [h3]
  simp only [if_true, Option.bind_some]
  exact h2
def ah_cpy (M : ah_h) (a0 : Nat) (sp : Int32) (a : Nat) (dp n : Int32) : Option ah_h := match M a0, M a with
  | some (.inl x), some (.inl y) => if ¬ sp < 0 ∧ ¬ dp < 0 ∧ ¬ n < 0 ∧ sp.toNatClampNeg + n.toNatClampNeg ≤ x.1 ∧ dp.toNatClampNeg + n.toNatClampNeg ≤ y.1 then some (ah_up M a (ah_I y.1 (va_cpy x.2 y.2 sp.toNatClampNeg dp.toNatClampNeg n.toNatClampNeg))) else none
  | _, _ => none
section AH2
variable {p : Program} {l : Launch} {e : Env} {R : Room} {s : State} {m : MethodId} {args : Array Value} {below : List Frame} {meth : Method} {c : Code} {H : Heap} {locs : List Loc} {cells slots : Nat} {Q : State → Prop}
variable {cc : ByteArray} {pc : Nat} {ls : Array Slot} {rest : List Value} {D : va_G} {ca : Nat → ClassId} {a : Nat} {H0 : Heap} {own : String} {nL : Nat} {ret : Option FieldType} {M : ah_h} {z : Nat}
theorem ah_putC (K : ah_K p s m args meth c D ca own cc nL ret) (hG : ah_g H0 D ca M z H) (hL : ah_L H0 locs) {k index : Nat} {v : Int32} {M' : ah_h} (hv : ah_pc M a k (.int v) = some M') (hF : ∀ ci, ah_cap ci = true → ah_W own index ci k .int true) (hin2 : meth.name = "<init>") (hdg : decode cc pc = .ok (.putfield index, 3))
    (kk : ∀ (H1 : Heap) (locs1 : List Loc), ah_g H0 D ca M' z H1 → ah_L H0 locs1 → W p l e R s m args below meth c H1 locs1 cells slots Q (F0 m (pc + 3) ls rest)) : W p l e R s m args below meth c H locs cells slots Q (F0 m pc ls (.int v :: .ref a :: rest)) := by
  obtain ⟨ci, h1, h2⟩ := ah_pc_some hv
  exact ah_putF K hG hL h2 (hF ci h1) hin2 rfl rfl hdg kk
theorem ah_new (K : ah_K p s m args meth c D ca own cc nL ret) (hG : ah_g H0 D ca M z H) {ci index N : Nat} {C : String} {T : u_T} (ty : Nat → FieldType) (hc : vwCl[ci]? = some (C, T, N)) (hty : ∀ k, k < N → parseFieldDescriptor (T k).2.2.1 = some (ty k)) (hin : ∀ w ∈ u_ws C T N, w ∈ ah_tb) (w1 : Cond.classLink own index C ∈ ah_tb) (w2 : Cond.instantiable C N ∈ ah_tb) (w3 : Cond.initialized C ∈ ah_tb) (fs : List Value) (hfs : ∀ j, j < N → defaultValue (ty j) = vp_V fs j) (hcells : cells + 1 ≤ R.cells) (hslots : slots + N ≤ R.slots) (hdg : decode cc pc = .ok (.new index, 3))
    (kk : ∀ H1 : Heap, ah_g H0 D ca (ah_up M z (ah_O ci fs)) (z + 1) H1 → W p l e R s m args below meth c H1 locs (cells + 1) (slots + N) Q (F0 m (pc + 3) ls (.ref z :: rest))) : W p l e R s m args below meth c H locs cells slots Q (F0 m pc ls rest) := by
  obtain ⟨hx, hb, -, hown, hts, hk, -, -⟩ := K
  have hKn := hk.1.1 ci _ hc
  refine W.newcK hx hb hown (hts _ w1) (hts _ w2) (hts _ w3) rfl hdg hcells hslots hKn.2.1 hG.1 fun H1 kC hkC e1 z1 o1 => ?_
  exact kk H1 (hG.push z1 ⟨_, hc, (u_born ty hts hin hKn hkC e1 hty).to hfs⟩ o1)
theorem ah_newi (K : ah_K p s m args meth c D ca own cc nL ret) (hG : ah_g H0 D ca M z H) (w1 : Cond.arrayClass .int ∈ ah_tb) {n : Int32} {N : Nat} (hn : ¬ n < 0) (hN : n.toNatClampNeg = N) (hbytes : N * componentBytes .int ≤ 536870912) (hcells : cells + 1 ≤ R.cells) (hslots : slots + N ≤ R.slots) (hdg : decode cc pc = .ok (.newarray .int, 2))
    (kk : ∀ H1 : Heap, ah_g H0 D ca (ah_up M z (ah_I N (fun _ => 0))) (z + 1) H1 → W p l e R s m args below meth c H1 locs (cells + 1) (slots + N) Q (F0 m (pc + 2) ls (.ref z :: rest))) : W p l e R s m args below meth c H locs cells slots Q (F0 m pc ls (.int n :: rest)) := by
  obtain ⟨hx, hb, -, hown, hts, hk, -, -⟩ := K
  refine va_newaK (atype := .int) hx hb (hts _ w1) rfl hdg rfl hn hN hbytes hcells hslots hG.1 fun H1 cA e1 z1 o1 hAr hNm => ?_
  have hcA : cA = ca 0 := Option.some.inj (hNm.symm.trans (hk.1.2 0 _ rfl).2)
  subst hcA
  exact kk H1 (hG.push z1 e1 o1)
theorem ah_newj (K : ah_K p s m args meth c D ca own cc nL ret) (hG : ah_g H0 D ca M z H) (w1 : Cond.arrayClass .long ∈ ah_tb) {n : Int32} {N : Nat} (hn : ¬ n < 0) (hN : n.toNatClampNeg = N) (hbytes : N * componentBytes .long ≤ 536870912) (hcells : cells + 1 ≤ R.cells) (hslots : slots + N ≤ R.slots) (hdg : decode cc pc = .ok (.newarray .long, 2))
    (kk : ∀ H1 : Heap, ah_g H0 D ca (ah_up M z (ah_J N (fun _ => 0))) (z + 1) H1 → W p l e R s m args below meth c H1 locs (cells + 1) (slots + N) Q (F0 m (pc + 2) ls (.ref z :: rest))) : W p l e R s m args below meth c H locs cells slots Q (F0 m pc ls (.int n :: rest)) := by
  obtain ⟨hx, hb, -, hown, hts, hk, -, -⟩ := K
  refine va_newaK (atype := .long) hx hb (hts _ w1) rfl hdg rfl hn hN hbytes hcells hslots hG.1 fun H1 cA e1 z1 o1 hAr hNm => ?_
  have hcA : cA = ca 1 := Option.some.inj (hNm.symm.trans (hk.1.2 1 _ rfl).2)
  subst hcA
  exact kk H1 (hG.push z1 e1 o1)
theorem ah_newr (K : ah_K p s m args meth c D ca own cc nL ret) (hG : ah_g H0 D ca M z H) {C : String} {t index : Nat} (hao : va_AO C s) (ht : (ah_ty ca)[t]? = some (ca t, .object C)) (w1 : Cond.classLink own index C ∈ ah_tb) {n : Int32} {N : Nat} (hn : ¬ n < 0) (hN : n.toNatClampNeg = N) (hbytes : N * 4 ≤ 536870912) (hcells : cells + 1 ≤ R.cells) (hslots : slots + N ≤ R.slots) (hdg : decode cc pc = .ok (.anewarray index, 3))
    (kk : ∀ H1 : Heap, ah_g H0 D ca (ah_up M z (ah_R t N (fun _ => none))) (z + 1) H1 → W p l e R s m args below meth c H1 locs (cells + 1) (slots + N) Q (F0 m (pc + 3) ls (.ref z :: rest))) : W p l e R s m args below meth c H locs cells slots Q (F0 m pc ls (.int n :: rest)) := by
  obtain ⟨hx, hb, -, hown, hts, hk, -, -⟩ := K
  subst hN
  obtain ⟨hz, -⟩ := id hG
  subst hz
  refine W.anew hx hb hown (hts _ w1) (va_AO.use hao) rfl hdg rfl hn hbytes hcells hslots fun cA kA comp f1 f2 f3 f4 => ?_
  have hcA : cA = ca t := by
    obtain ⟨_, _, -, -, -, g4⟩ := (hk.1.2 t _ ht).2
    exact Option.some.inj (f1.symm.trans g4)
  subst hcA
  refine kk _ (hG.push (by rw [Array.size_push]) ?_ (fun q hq => by rw [Array.getElem?_push, if_neg (Nat.ne_of_lt hq)]))
  show (Array.push H _)[H.size]? = some (vp_cell _ _)
  rw [Array.getElem?_push_size, vp_cell_q]
  exact congrArg some (arrV_new _ _ _)
theorem ah_copy (K : ah_K p s m args meth c D ca own cc nL ret) (hG : ah_g H0 D ca M z H) (hL : ah_L H0 locs) (hls : ls.size = nL) {a0 : Nat} {sp dp n : Int32} {index : Nat} {M' : ah_h} (hv : ah_cpy M a0 sp a dp n = some M') (w1 : Cond.methodLink own index arraycopyName ∈ ah_tb) (w2 : Cond.native arraycopyName ∈ ah_tb) (w3 : Cond.static arraycopyName ∈ ah_tb) (w4 : Cond.initialized "java/lang/System" ∈ ah_tb)
    (hframes : 1 ≤ R.frames) (hlocals : (rest.map fun v => v.category).sum + (nativeFrameWords "java/lang/System" "arraycopy" 5 + 11) ≤ R.locals) (hdg : decode cc pc = .ok (.invokestatic index, 3))
    (kk : ∀ (H1 : Heap) (locs1 : List Loc), ah_g H0 D ca M' z H1 → ah_L H0 locs1 → W p l e R s m args below meth c H1 locs1 cells slots Q (F0 m (pc + 3) ls rest)) : W p l e R s m args below meth c H locs cells slots Q (F0 m pc ls (.int n :: .int dp :: .ref a :: .int sp :: .ref a0 :: rest)) := by
  obtain ⟨hx, hb, hml, hown, hts, hk, -, -⟩ := K
  unfold ah_cpy at hv
  split at hv
  case h_2 => cases hv
  next x y hx0 hy0 =>
  split at hv
  case isFalse => cases hv
  next hc =>
  obtain ⟨h1, h2, h3, h4, h5⟩ := hc
  cases hv
  have hc0 : H[a0]? = some (vp_cell (ca 0) (x.1, .inl x.2)) := (hG.2.2.2 a0 _ hx0).2
  have hc1 : H[a]? = some (vp_cell (ca 0) (y.1, .inl y.2)) := (hG.2.2.2 a _ hy0).2
  have nn : ∀ z : Int32, ¬ z < 0 → z.toInt = (z.toNatClampNeg : Int) := by
    intro z hz
    have hz0 : (0 : Int) ≤ z.toInt := by
      have := Int32.not_lt.mp hz
      simpa using Int32.le_iff_toInt_le.mp this
    show z.toInt = ((z.toInt.toNat : Nat) : Int)
    omega
  intro T hT X
  obtain ⟨-, k0, hk0, cm0, hkk0⟩ := (hk.1.2 0 _ rfl).1 x.1 (fun j => .int (x.2 j))
  obtain ⟨-, k1, hk1, cm1, hkk1⟩ := (hk.1.2 0 _ rfl).1 y.1 (fun j => .int (y.2 j))
  obtain ⟨vm', X', step⟩ := X.arraycopy hx hown (hts _ w1) (hts _ w2) (hts _ w3) (hts _ w4) (src := a0) (dst := a) (cs := vp_cell (ca 0) (x.1, .inl x.2)) (cd := vp_cell (ca 0) (y.1, .inl y.2)) (srcPos := sp) (destPos := dp) (n := n) (by rw [hT]; exact hc0) (by rw [hT]; exact hc1)
    (fun _ h => by cases h) (fun _ h => by cases h) (fun h => by cases h) (fun h => by cases h) hk0 hk1 hkk0 hkk1 (by simp [refKind]) h1 h2 h3
    (by rw [nn sp h1, nn n h3]; show ¬ _ > ((arrV (ca 0) x.1 (fun j => .int (x.2 j))).slots.size : Int); rw [arrV_size]; omega)
    (by rw [nn dp h2, nn n h3]; show ¬ _ > ((arrV (ca 0) y.1 (fun j => .int (y.2 j))).slots.size : Int); rw [arrV_size]; omega)
    (fun vm₁ _ i hi => by
      have e : (vp_cell (ca 0) (x.1, .inl x.2)).slots.getD (sp.toNatClampNeg + i) .null = .int (x.2 (sp.toNatClampNeg + i)) := by
        show (arrV (ca 0) x.1 (fun j => .int (x.2 j))).slots.getD _ _ = _
        rw [Array.getD_eq_getD_getElem?, arrV_read _ _ (by omega)]
        rfl
      refine ⟨?_, ?_⟩
      · rw [e]
        rfl
      · rw [e]
        exact trivial)
    (g := F0 m pc ls (.int n :: .int dp :: .ref a :: .int sp :: .ref a0 :: rest)) rfl (by rw [hml]; exact hls) (rest := rest) rfl (by rw [hb]; exact hdg) hframes (by show 2 * 0 + _ + _ ≤ _; omega)
  have e1 : copied (vp_cell (ca 0) (x.1, .inl x.2)) (vp_cell (ca 0) (y.1, .inl y.2)) sp dp n = vp_cell (ca 0) (y.1, .inl (va_cpy x.2 y.2 sp.toNatClampNeg dp.toNatClampNeg n.toNatClampNeg)) := va_copied (fun z => .int z) (ca 0) (ca 0) x.2 y.2 h4
  rw [e1] at X' step
  have hl : a < H.size := (Array.getElem?_eq_some_iff.mp hc1).1
  have hheap : ((T.setVm vm').setCell a (vp_cell (ca 0) (y.1, .inl (va_cpy x.2 y.2 sp.toNatClampNeg dp.toNatClampNeg n.toNatClampNeg)))).heap = H.setIfInBounds a (vp_cell (ca 0) (y.1, .inl (va_cpy x.2 y.2 sp.toNatClampNeg dp.toNatClampNeg n.toNatClampNeg))) := by rw [← hT]; rfl
  have oq : ∀ q : Nat, q ≠ a → (H.setIfInBounds a (vp_cell (ca 0) (y.1, .inl (va_cpy x.2 y.2 sp.toNatClampNeg dp.toNatClampNeg n.toNatClampNeg))))[q]? = H[q]? := fun q hq => by simp [Array.getElem?_setIfInBounds, Ne.symm hq]
  obtain ⟨t, a1, b1⟩ := kk _ _ (hG.set hy0 (by simp) (show (H.setIfInBounds a _)[a]? = some _ by simp [Array.getElem?_setIfInBounds, hl]) oq) (fun q hq => by
      rcases List.mem_append.mp hq with h | h
      · exact hL q h
      · obtain ⟨z, -, hz⟩ := List.mem_map.mp h
        rw [← hz]
        exact (hG.2.2.2 a _ hy0).1) _ hheap X'
  exact ⟨t, step t a1, b1⟩
/-- new int[5][5] at z: the outer row at z, the inner ones behind it -/
def ah_mn (M : ah_h) (z : Nat) : ah_h := fun q => if q = z then some (ah_R 4 5 (fun i => if i < 5 then some (z + 1 + i) else none)) else if z < q ∧ q < z + 6 then some (ah_I 5 (fun _ => 0)) else M q
theorem ah_outer (c : ClassId) (N h0 : Nat) : ∀ i : Nat, Jvm.Free.Multi.outerC c N h0 i = arrV c N (fun j => va_rf (if j < i then some (h0 + 1 + j) else none))
  | 0 => by
    show ({ cls := c, slots := Array.replicate N .null, vm := .none } : Cell) = _
    rw [arrV_new]
    refine congrArg (arrV c N) (funext fun j => ?_)
    simp [va_rf]
  | i + 1 => by
    show (Jvm.Free.Multi.outerC c N h0 i).setSlot i (.ref (h0 + 1 + i)) = _
    rw [ah_outer c N h0 i, arrV_store]
    refine congrArg (arrV c N) (funext fun j => ?_)
    by_cases e : j = i
    · subst e
      simp [updV, va_rf]
    · by_cases h : j < i
      · simp [updV, e, h, Nat.lt_succ_of_lt h]
      · simp [updV, e, h, show ¬ j < i + 1 by omega]
theorem ah_mna (K : ah_K p s m args meth c D ca own cc nL ret) (hG : ah_g H0 D ca M z H) {index : Nat} (w1 : Cond.classLink own index "[[I" ∈ ah_tb) (w2 : Cond.arrayClass .int ∈ ah_tb) (hcells : cells + 6 ≤ R.cells) (hslots : slots + 30 ≤ R.slots) (hdg : decode cc pc = .ok (.multianewarray index 2, 4))
    (kk : ∀ H1 : Heap, ah_g H0 D ca (ah_mn M z) (z + 6) H1 → W p l e R s m args below meth c H1 locs (cells + 6) (slots + 30) Q (F0 m (pc + 4) ls (.ref z :: rest))) : W p l e R s m args below meth c H locs cells slots Q (F0 m pc ls (.int 5 :: .int 5 :: rest)) := by
  obtain ⟨hx, hb, -, hown, hts, hk, -, -⟩ := K
  intro T hT Xs
  obtain ⟨vm₁, cA, comp, -, fA, fC, hO, -, X', step⟩ := Xs.multianewarray2F hx hown (ty := .int) (hts _ w1) (show (Cond.arrayOver (.array .int)).before args s = true from hk.2.2.2.2.2) (hts _ w2) (g := F0 m pc ls (.int 5 :: .int 5 :: rest)) rfl (by rw [hb]; exact hdg) rfl (by decide) (by decide) (by decide) (by decide) (by decide) rfl rfl hcells hslots
  have e0 : comp = ca 0 := Option.some.inj (fC.symm.trans (hk.1.2 0 _ rfl).2)
  have e4 : cA = ca 4 := Option.some.inj (fA.symm.trans (hk.1.2 4 _ rfl).2)
  subst e0
  subst e4
  have e5 : (5 : Int32).toNatClampNeg = 5 := by decide
  rw [e5] at X' step
  have hTh : (T.setVm vm₁).heap = H := hT
  obtain ⟨f1, f2, -, -⟩ := Jvm.Free.Multi.fill_facts (T.setVm vm₁) (ca 4) (ca 0) 5 5 (defaultValue .int) 5
  have hold : ∀ x : Nat, x < H.size → (Jvm.Free.Multi.fill (T.setVm vm₁) (ca 4) (ca 0) 5 5 (defaultValue .int) 5).heap[x]? = H[x]? := fun x hx => by
    have := Jvm.Free.Multi.fill_old (T.setVm vm₁) (ca 4) (ca 0) 5 5 (defaultValue .int) (a := x) (by rw [hTh]; exact hx) 5
    rw [hTh] at this
    exact this
  have hrow : ∀ j : Nat, j < 5 → (Jvm.Free.Multi.fill (T.setVm vm₁) (ca 4) (ca 0) 5 5 (defaultValue .int) 5).heap[H.size + 1 + j]? = some (vp_cell (ca 0) (5, .inl (fun _ => 0))) := fun j hj => by
    have := Jvm.Free.Multi.fill_inner (T.setVm vm₁) (ca 4) (ca 0) 5 5 (defaultValue .int) 5 j hj
    rw [hTh] at this
    rw [this]
    rfl
  rw [hTh] at f1 f2
  generalize Jvm.Free.Multi.fill (T.setVm vm₁) (ca 4) (ca 0) 5 5 (defaultValue .int) 5 = F at X' step f1 f2 hold hrow
  obtain ⟨hz, hg2, hg3, hg4⟩ := id hG
  subst hz
  have hg : ah_g H0 D ca (ah_mn M H.size) (H.size + 6) F.heap := by
    refine ⟨f1, by omega, fun q hq => (hold q (by omega)).trans (hg3 q hq), fun q e1 h1 => ?_⟩
    unfold ah_mn at h1
    split at h1
    · next hq =>
      cases h1
      subst hq
      refine ⟨hg2, ?_⟩
      show F.heap[H.size]? = some (vp_cell _ _)
      rw [f2, vp_cell_q, ah_outer]
    · split at h1
      · next hq =>
        cases h1
        refine ⟨by omega, ?_⟩
        show F.heap[q]? = some (vp_cell _ _)
        have := hrow (q - H.size - 1) (by omega)
        rw [show H.size + 1 + (q - H.size - 1) = q by omega] at this
        exact this
      · have hl : q < H.size := (hg4 q e1 h1).2.lt
        exact ⟨(hg4 q e1 h1).1, (hg4 q e1 h1).2.kept (hold q hl)⟩
  obtain ⟨t, a1, b1⟩ := kk F.heap hg F rfl X'
  rw [hT] at step
  exact ⟨t, step t a1, b1⟩
variable {y : MethodName} {c9 : ByteArray} {n9 index fr lo mc ms n : Nat} {r9 : Option FieldType} {As : List Value} {r : Option Value} {M' : ah_h} {z' : Nat}
/-- super.m(..) of a captain -/
theorem ah_callUC (K : ah_K p s m args meth c D ca own cc nL ret) (hG : ah_g H0 D ca M z H) (hL : ah_L H0 locs) (hls : ls.size = nL) {x : Nat × List Value} (hO : ah_oc M a = some x) (hM : ah_ct l H0 D ca y c9 n9 r9 fr lo mc ms (.ref a :: As) M z r M' z') (hd : y.name ≠ "<init>" ∧ (parseMethodDescriptor y.desc).map (fun d => d.parameters.length) = some n) (w1 : Cond.methodLink own index y ∈ ah_tb) (w2 : Cond.instanceMethod y ∈ ah_tb) (w3 : Cond.initialized y.cls ∈ ah_tb) (w4 : Cond.code y c9 n9 r9 ∈ ah_tb) (w5 : Cond.sameMethod y.cls y.cls y.name y.desc ∈ ah_tb) (w6 : Cond.superclass own y.cls ∈ ah_tb)
    (hR : fr + 1 ≤ R.frames ∧ 8 + (n9 + 11) + lo ≤ R.locals) {st : List Value} (hn : As.length = n) (hst : st = As.reverse ++ .ref a :: rest) (hW : (rest.map fun v => v.category).sum ≤ 8) (hf : cells + mc ≤ R.cells ∧ slots + ms ≤ R.slots) (hdg : decode cc pc = .ok (.invokespecial index, 3))
    (kk : ∀ (H1 : Heap) (locs1 : List Loc), ah_g H0 D ca M' z' H1 → ah_L H0 locs1 → W p l e R s m args below meth c H1 locs1 (cells + mc) (slots + ms) Q (F0 m (pc + 3) ls (r.toList ++ rest))) : W p l e R s m args below meth c H locs cells slots Q (F0 m pc ls st) := by
  obtain ⟨ci, fs⟩ := x
  obtain ⟨h1, h2⟩ := ah_oc_some hO
  rcases ah_caps h2 with h | h | h | h | h | h | h | h <;> (dsimp only at h; subst h; exact ah_callU K hG hL hls h1 rfl hM hd w1 w2 w3 w4 w5 w6 hR hn hst hW hf hdg kk)
end AH2
