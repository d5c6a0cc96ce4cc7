/-! THE BASE: an abstract heap as a function of the address; a row for each instruction that reads or writes it; a contract form; calls by it. -/
/-- an abstract cell: an int array, a long array, an array of references (kind, length), an object (class number, fields) -/
abbrev ah_c : Type := (Nat × (Nat → Int32)) ⊕ (Nat × (Nat → Int64)) ⊕ (Nat × Nat × (Nat → Option Nat)) ⊕ (Nat × List Value)
abbrev ah_h : Type := Nat → Option ah_c
abbrev ah_I (n : Nat) (f : Nat → Int32) : ah_c := .inl (n, f)
abbrev ah_J (n : Nat) (f : Nat → Int64) : ah_c := .inr (.inl (n, f))
abbrev ah_R (t n : Nat) (f : Nat → Option Nat) : ah_c := .inr (.inr (.inl (t, n, f)))
abbrev ah_O (c : Nat) (fs : List Value) : ah_c := .inr (.inr (.inr (c, fs)))
def ah_e (ca : Nat → ClassId) : ah_c → va_E
  | .inl x => .inl (ca 0, x.1, .inl x.2)
  | .inr (.inl x) => .inl (ca 1, x.1, .inr (.inl x.2))
  | .inr (.inr (.inl x)) => .inl (ca x.1, x.2.1, .inr (.inr (.inr (.inr x.2.2))))
  | .inr (.inr (.inr x)) => .inr (x.1, x.2)
def ah_up (M : ah_h) (a : Nat) (e : ah_c) : ah_h := fun q => if q = a then some e else M q
theorem ah_up_self (M : ah_h) (a : Nat) (e : ah_c) : ah_up M a e a = some e := if_pos rfl
theorem ah_up_ne (M : ah_h) {a q : Nat} (e : ah_c) (h : q ≠ a) : ah_up M a e q = M q := if_neg h
def ah_ob (M : ah_h) (a ci : Nat) : Option (List Value) := match M a with
  | some (.inr (.inr (.inr x))) => if x.1 = ci then some x.2 else none
  | _ => none
def ah_vi : Option Value → Option Int32
  | some (.int x) => some x
  | _ => none
def ah_vr : Option Value → Option Nat
  | some (.ref x) => some x
  | _ => none
def ah_vq : Option Value → Option (Option Nat)
  | some (.ref x) => some (some x)
  | some .null => some none
  | _ => none
def ah_gi (M : ah_h) (a ci k : Nat) : Option Int32 := (ah_ob M a ci).bind fun fs => ah_vi fs[k]?
def ah_gr (M : ah_h) (a ci k : Nat) : Option Nat := (ah_ob M a ci).bind fun fs => ah_vr fs[k]?
def ah_gq (M : ah_h) (a ci k : Nat) : Option (Option Nat) := (ah_ob M a ci).bind fun fs => ah_vq fs[k]?
def ah_in (i : Int32) (n : Nat) : Bool := !(decide (i < 0) || decide (n ≤ i.toNatClampNeg))
theorem ah_in_vp {i : Int32} {n : Nat} (h : ah_in i n = true) : vp_in i n := by
  unfold ah_in at h
  simp only [Bool.not_eq_true', Bool.or_eq_false_iff, decide_eq_false_iff_not] at h
  exact fun z => z.elim h.1 h.2
def ah_ai (M : ah_h) (a : Nat) (i : Int32) : Option Int32 := match M a with
  | some (.inl x) => if ah_in i x.1 = true then some (x.2 i.toNatClampNeg) else none
  | _ => none
def ah_aj (M : ah_h) (a : Nat) (i : Int32) : Option Int64 := match M a with
  | some (.inr (.inl x)) => if ah_in i x.1 = true then some (x.2 i.toNatClampNeg) else none
  | _ => none
def ah_ar (M : ah_h) (a t : Nat) (i : Int32) : Option Nat := match M a with
  | some (.inr (.inr (.inl x))) => if x.1 = t ∧ ah_in i x.2.1 = true then x.2.2 i.toNatClampNeg else none
  | _ => none
def ah_al (M : ah_h) (a : Nat) : Option Int32 := match M a with
  | some (.inl x) => some (Int32.ofNat x.1)
  | some (.inr (.inl x)) => some (Int32.ofNat x.1)
  | _ => none
def ah_alr (M : ah_h) (a t : Nat) : Option Int32 := match M a with
  | some (.inr (.inr (.inl x))) => if x.1 = t then some (Int32.ofNat x.2.1) else none
  | _ => none
def ah_pf (M : ah_h) (a ci k : Nat) (v : Value) : Option ah_h := (ah_ob M a ci).bind fun fs => if k < fs.length then some (ah_up M a (ah_O ci (fs.set k v))) else none
def ah_si (M : ah_h) (a : Nat) (i : Int32) (v : Int32) : Option ah_h := match M a with
  | some (.inl x) => if ah_in i x.1 = true then some (ah_up M a (ah_I x.1 (upd x.2 i.toNatClampNeg v))) else none
  | _ => none
def ah_sj (M : ah_h) (a : Nat) (i : Int32) (v : Int64) : Option ah_h := match M a with
  | some (.inr (.inl x)) => if ah_in i x.1 = true then some (ah_up M a (ah_J x.1 (vp_updL x.2 i.toNatClampNeg v))) else none
  | _ => none
def ah_sr (M : ah_h) (a t : Nat) (i : Int32) (v : Nat) : Option ah_h := match M a with
  | some (.inr (.inr (.inl x))) => if x.1 = t ∧ ah_in i x.2.1 = true then some (ah_up M a (ah_R t x.2.1 (va_up x.2.2 i.toNatClampNeg (some v)))) else none
  | _ => none
/-- the captains' classes -/
def ah_cap (c : Nat) : Bool := c == 0 || c == 1 || c == 3 || c == 4 || c == 5 || c == 6 || c == 8 || c == 9
def ah_oc (M : ah_h) (a : Nat) : Option (Nat × List Value) := match M a with
  | some (.inr (.inr (.inr x))) => if ah_cap x.1 = true then some x else none
  | _ => none
def ah_gc (M : ah_h) (a k : Nat) : Option Int32 := (ah_oc M a).bind fun x => ah_vi x.2[k]?
theorem ah_ob_some {M : ah_h} {a ci : Nat} {fs : List Value} (h : ah_ob M a ci = some fs) : M a = some (ah_O ci fs) := by
  unfold ah_ob at h
  split at h
  · next x hx =>
    split at h
    · next hc =>
      cases h
      obtain ⟨c, fs⟩ := x
      cases hc
      exact hx
    · cases h
  · cases h
theorem ah_oc_some {M : ah_h} {a : Nat} {x : Nat × List Value} (h : ah_oc M a = some x) : M a = some (ah_O x.1 x.2) ∧ ah_cap x.1 = true := by
  unfold ah_oc at h
  split at h
  · next y hy =>
    split at h
    · next hc =>
      cases h
      exact ⟨hy, hc⟩
    · cases h
  · cases h
theorem ah_vi_some {o : Option Value} {x : Int32} (h : ah_vi o = some x) : o = some (.int x) := by
  unfold ah_vi at h
  split at h
  · cases h; rfl
  · cases h
theorem ah_vr_some {o : Option Value} {x : Nat} (h : ah_vr o = some x) : o = some (.ref x) := by
  unfold ah_vr at h
  split at h
  · cases h; rfl
  · cases h
theorem ah_vq_some {o : Option Value} {x : Option Nat} (h : ah_vq o = some x) : o = some (va_rf x) := by
  unfold ah_vq at h
  split at h
  · cases h; rfl
  · cases h; rfl
  · cases h
theorem ah_gi_some {M : ah_h} {a ci k : Nat} {x : Int32} (h : ah_gi M a ci k = some x) : ∃ fs, M a = some (ah_O ci fs) ∧ fs[k]? = some (.int x) := by
  obtain ⟨fs, h1, h2⟩ := Option.bind_eq_some_iff.mp h
  exact ⟨fs, ah_ob_some h1, ah_vi_some h2⟩
theorem ah_gr_some {M : ah_h} {a ci k : Nat} {x : Nat} (h : ah_gr M a ci k = some x) : ∃ fs, M a = some (ah_O ci fs) ∧ fs[k]? = some (.ref x) := by
  obtain ⟨fs, h1, h2⟩ := Option.bind_eq_some_iff.mp h
  exact ⟨fs, ah_ob_some h1, ah_vr_some h2⟩
theorem ah_gq_some {M : ah_h} {a ci k : Nat} {x : Option Nat} (h : ah_gq M a ci k = some x) : ∃ fs, M a = some (ah_O ci fs) ∧ fs[k]? = some (va_rf x) := by
  obtain ⟨fs, h1, h2⟩ := Option.bind_eq_some_iff.mp h
  exact ⟨fs, ah_ob_some h1, ah_vq_some h2⟩
theorem ah_gc_some {M : ah_h} {a k : Nat} {x : Int32} (h : ah_gc M a k = some x) : ∃ c fs, M a = some (ah_O c fs) ∧ ah_cap c = true ∧ fs[k]? = some (.int x) := by
  obtain ⟨y, h1, h2⟩ := Option.bind_eq_some_iff.mp h
  obtain ⟨h3, h4⟩ := ah_oc_some h1
  exact ⟨y.1, y.2, h3, h4, ah_vi_some h2⟩
theorem ah_ai_some {M : ah_h} {a : Nat} {i x : Int32} (h : ah_ai M a i = some x) : ∃ n f, M a = some (ah_I n f) ∧ vp_in i n ∧ x = f i.toNatClampNeg := by
  unfold ah_ai at h
  split at h
  · next y hy =>
    split at h
    · next hc => cases h; exact ⟨y.1, y.2, hy, ah_in_vp hc, rfl⟩
    · cases h
  · cases h
theorem ah_aj_some {M : ah_h} {a : Nat} {i : Int32} {x : Int64} (h : ah_aj M a i = some x) : ∃ n f, M a = some (ah_J n f) ∧ vp_in i n ∧ x = f i.toNatClampNeg := by
  unfold ah_aj at h
  split at h
  · next y hy =>
    split at h
    · next hc => cases h; exact ⟨y.1, y.2, hy, ah_in_vp hc, rfl⟩
    · cases h
  · cases h
theorem ah_ar_some {M : ah_h} {a t : Nat} {i : Int32} {x : Nat} (h : ah_ar M a t i = some x) : ∃ n f, M a = some (ah_R t n f) ∧ vp_in i n ∧ f i.toNatClampNeg = some x := by
  unfold ah_ar at h
  split at h
  · next y hy =>
    split at h
    · next hc => obtain ⟨rfl, hc⟩ := hc; exact ⟨y.2.1, y.2.2, hy, ah_in_vp hc, h⟩
    · cases h
  · cases h
theorem ah_pf_some {M M' : ah_h} {a ci k : Nat} {v : Value} (h : ah_pf M a ci k v = some M') : ∃ fs, M a = some (ah_O ci fs) ∧ k < fs.length ∧ M' = ah_up M a (ah_O ci (fs.set k v)) := by
  obtain ⟨fs, h1, h2⟩ := Option.bind_eq_some_iff.mp h
  split at h2
  · next hk => cases h2; exact ⟨fs, ah_ob_some h1, hk, rfl⟩
  · cases h2
theorem ah_si_some {M M' : ah_h} {a : Nat} {i v : Int32} (h : ah_si M a i v = some M') : ∃ n f, M a = some (ah_I n f) ∧ vp_in i n ∧ M' = ah_up M a (ah_I n (upd f i.toNatClampNeg v)) := by
  unfold ah_si at h
  split at h
  · next y hy =>
    split at h
    · next hc => cases h; exact ⟨y.1, y.2, hy, ah_in_vp hc, rfl⟩
    · cases h
  · cases h
theorem ah_sj_some {M M' : ah_h} {a : Nat} {i : Int32} {v : Int64} (h : ah_sj M a i v = some M') : ∃ n f, M a = some (ah_J n f) ∧ vp_in i n ∧ M' = ah_up M a (ah_J n (vp_updL f i.toNatClampNeg v)) := by
  unfold ah_sj at h
  split at h
  · next y hy =>
    split at h
    · next hc => cases h; exact ⟨y.1, y.2, hy, ah_in_vp hc, rfl⟩
    · cases h
  · cases h
theorem ah_sr_some {M M' : ah_h} {a t : Nat} {i : Int32} {v : Nat} (h : ah_sr M a t i v = some M') : ∃ n f, M a = some (ah_R t n f) ∧ vp_in i n ∧ M' = ah_up M a (ah_R t n (va_up f i.toNatClampNeg (some v))) := by
  unfold ah_sr at h
  split at h
  · next y hy =>
    split at h
    · next hc => obtain ⟨rfl, hc⟩ := hc; cases h; exact ⟨y.2.1, y.2.2, hy, ah_in_vp hc, rfl⟩
    · cases h
  · cases h
/-! the state of the machine that an abstract heap speaks of -/
abbrev ah_ty (ca : Nat → ClassId) : List (ClassId × FieldType) := [(ca 0, .int), (ca 1, .long), (ca 2, .object "ShipsThatMeet$Captain"), (ca 3, .object "ShipsThatMeet$Shelf"), (ca 4, .array .int)]
abbrev ah_nM : List (String × Nat × MethodName × String) := [("ShipsThatMeet$Want", 9, ⟨"ShipsThatMeet", "has", "(II)Z"⟩, "ShipsThatMeet"), ("ShipsThatMeet$Best", 15, ⟨"ShipsThatMeet", "has", "(II)Z"⟩, "ShipsThatMeet"), ("ShipsThatMeet$Fleet", 99, ⟨"ShipsThatMeet", "has", "(II)Z"⟩, "ShipsThatMeet"), ("ShipsThatMeet$Old", 9, ⟨"ShipsThatMeet", "has", "(II)Z"⟩, "ShipsThatMeet"), ("ShipsThatMeet$Lot", 21, ⟨"ShipsThatMeet", "has", "(II)Z"⟩, "ShipsThatMeet"), ("ShipsThatMeet$New", 9, ⟨"ShipsThatMeet", "has", "(II)Z"⟩, "ShipsThatMeet"), ("ShipsThatMeet$Told", 13, ⟨"ShipsThatMeet", "has", "(II)Z"⟩, "ShipsThatMeet"), ("ShipsThatMeet$Captain", 18, ⟨"ShipsThatMeet", "has", "(II)Z"⟩, "ShipsThatMeet"), ("ShipsThatMeet$Fleet", 114, ⟨"ShipsThatMeet", "nameOfMeeting", "(II)I"⟩, "ShipsThatMeet")]
abbrev ah_nC : List String := ["ShipsThatMeet$Lot", "ShipsThatMeet$New", "ShipsThatMeet$Old", "ShipsThatMeet$Want", "ShipsThatMeet$Best", "ShipsThatMeet$Told", "ShipsThatMeet$Keep"]
def ah_oA (U : State) : Prop := (Cond.arrayOver (.array .int)).before #[] U = true
theorem ah_idx (vm : Vm) (comp : ClassId) : (vm.bare.classes.findIdx? fun (x : Class) => match x.kind with | .array component _ => component == comp | _ => false) = (vm.classes.findIdx? fun (x : Class) => match x.kind with | .array component _ => component == comp | _ => false) := by
  simp only [Vm.bare, Array.findIdx?_map]
  rfl
theorem ah_oA.spec {u : State} (h : ah_oA u) : ∃ comp c k, u.vm.findClass (FieldType.array .int).toString = some comp ∧ (u.vm.classes.findIdx? fun (x : Class) => match x.kind with | .array component _ => component == comp | _ => false) = some c ∧ u.vm.classes[c]? = some k ∧ (∃ q, k.kind = .array q (.array .int)) ∧ u.vm.findClass ("[" ++ (FieldType.array .int).toString) = some c := by
  have h0 : (Cond.arrayOver (.array .int)).before #[] u = true := h
  simp only [Cond.before, Cond.holds, Cond.value, beq_iff_eq] at h0
  cases hc : u.vm.findClass (FieldType.array .int).toString with
  | none => simp [hc] at h0
  | some comp =>
    simp only [hc, Option.bind_some, Option.bind_eq_some_iff, Option.map_eq_some_iff] at h0
    obtain ⟨c, hi, k, hk, hb⟩ := h0
    cases hkind : k.kind with
    | array component ty =>
      rw [hkind] at hb
      simp at hb
      exact ⟨comp, c, k, rfl, hi, hk, ⟨component, by rw [hkind, hb.1]⟩, hb.2⟩
    | _ => rw [hkind] at hb; simp at hb
theorem ah_oA.moved {u U : State} (hvm : u.vm.Alike U.vm) (h : ah_oA u) : ah_oA U := by
  obtain ⟨comp, c, k, h1, h2, h3, ⟨q, h4⟩, h5⟩ := h.spec
  obtain ⟨k', hk', he⟩ := hvm.2.2 _ _ h3
  have hi : (U.vm.classes.findIdx? fun (x : Class) => match x.kind with | .array component _ => component == comp | _ => false) = some c := by
    rw [← ah_idx]
    first | rw [hvm.bare_eq] | rw [← hvm.bare_eq]
    rw [ah_idx]
    exact h2
  have hkind : k'.kind = .array q (.array .int) := by rw [he]; exact h4
  have f1 : U.vm.findClass (FieldType.array .int).toString = some comp := by rw [hvm.findClass]; exact h1
  have f2 : U.vm.findClass ("[" ++ (FieldType.array .int).toString) = some c := by rw [hvm.findClass]; exact h5
  unfold ah_oA Cond.before Cond.holds
  simp only [Cond.value]
  rw [f1, Option.bind_some]
  refine (congrArg (fun o : Option Nat => (o.bind (fun c => (U.vm.classes[c]?).map fun (k : Class) => match k.kind with | .array _ ty => decide (ty = FieldType.array .int) && decide (U.vm.findClass ("[" ++ (FieldType.array .int).toString) = some c) | _ => false) == some true)) hi).trans ?_
  simp [hk', hkind, f2]
/-- what holds of the tables all along -/
def ah_k (D : va_G) (ca : Nat → ClassId) (U : State) : Prop := va_K D vwCl (ah_ty ca) U ∧ (∀ q ∈ ah_nM, va_Nw (.methodLinkNest q.1 q.2.1 q.2.2.1 q.2.2.2) U) ∧ (∀ q ∈ ah_nC, va_Nw (.castable q "ShipsThatMeet$Captain") U) ∧ va_AO "ShipsThatMeet$Captain" U ∧ va_AO "ShipsThatMeet$Shelf" U ∧ ah_oA U
theorem ah_k.warm {D : va_G} {ca : Nat → ClassId} {s U : State} (hW : s.WarmedH U.vm) (h : ah_k D ca s) : ah_k D ca U :=
  ⟨va_K.moved hW.alike h.1, fun q hq => va_Nw.warmM hW (h.2.1 q hq), fun q hq => va_Nw.warmC hW (h.2.2.1 q hq), va_AO.moved hW.alike h.2.2.2.1, va_AO.moved hW.alike h.2.2.2.2.1, ah_oA.moved hW.alike h.2.2.2.2.2⟩
theorem ah_k.calling {D : va_G} {ca : Nat → ClassId} {U : State} (g : JFrame) (mk : MethodId) (a : Array Value) (h : ah_k D ca U) : ah_k D ca (U.calling g mk a) :=
  ⟨va_K.moved (u := U) (U := U.calling g mk a) (Vm.Alike.refl U.vm) h.1, fun q hq => va_Nw.same rfl (rfl : U.vm = (U.calling g mk a).vm) (h.2.1 q hq), fun q hq => va_Nw.same rfl (rfl : U.vm = (U.calling g mk a).vm) (h.2.2.1 q hq), va_AO.moved (u := U) (U := U.calling g mk a) (Vm.Alike.refl U.vm) h.2.2.2.1, va_AO.moved (u := U) (U := U.calling g mk a) (Vm.Alike.refl U.vm) h.2.2.2.2.1, ah_oA.moved (u := U) (U := U.calling g mk a) (Vm.Alike.refl U.vm) h.2.2.2.2.2⟩
/-- the heap H holds M; its size is z; below the start's size it is the start's -/
def ah_g (H0 : Heap) (D : va_G) (ca : Nat → ClassId) (M : ah_h) (z : Nat) (H : Heap) : Prop := H.size = z ∧ H0.size ≤ z ∧ (∀ q, q < H0.size → H[q]? = H0[q]?) ∧ ∀ q e, M q = some e → H0.size ≤ q ∧ va_at D vwCl (q, ah_e ca e) H
def ah_L (H0 : Heap) (locs : List Loc) : Prop := ∀ q ∈ locs, H0.size ≤ q.base
theorem ah_L.nil {H0 : Heap} : ah_L H0 [] := fun q h => by cases h
theorem ah_L.add {H0 : Heap} {locs : List Loc} {a k : Nat} (h : ah_L H0 locs) (ha : H0.size ≤ a) : ah_L H0 (locs ++ [⟨a, k⟩]) := fun q hq => by
  rcases List.mem_append.mp hq with h1 | h1
  · exact h q h1
  · rw [List.mem_singleton.mp h1]; exact ha
theorem ah_g.one {H0 : Heap} {D : va_G} {ca : Nat → ClassId} {M : ah_h} {z : Nat} {H : Heap} (h : ah_g H0 D ca M z H) {a : Nat} {e : ah_c} (ha : M a = some e) : va_P D vwCl [(a, ah_e ca e)] H := fun k q hk => by
  have hz : k < 1 := (List.getElem?_eq_some_iff.mp hk).1
  have h0 : k = 0 := by omega
  subst h0
  cases hk
  exact (h.2.2.2 a e ha).2
/-- a cell that was there is another -/
theorem ah_g.set {H0 : Heap} {D : va_G} {ca : Nat → ClassId} {M : ah_h} {z : Nat} {H H1 : Heap} (h : ah_g H0 D ca M z H) {a : Nat} {e0 e : ah_c} (ha : M a = some e0) (hz : H1.size = H.size) (he : va_at D vwCl (a, ah_e ca e) H1) (ho : ∀ q, q ≠ a → H1[q]? = H[q]?) : ah_g H0 D ca (ah_up M a e) z H1 := by
  have hb := (h.2.2.2 a e0 ha).1
  refine ⟨hz.trans h.1, h.2.1, fun q hq => (ho q (by omega)).trans (h.2.2.1 q hq), fun q e1 h1 => ?_⟩
  by_cases hqa : q = a
  · subst hqa
    rw [ah_up_self] at h1
    cases h1
    exact ⟨hb, he⟩
  · rw [ah_up_ne _ _ hqa] at h1
    exact ⟨(h.2.2.2 q e1 h1).1, (h.2.2.2 q e1 h1).2.kept (ho q hqa)⟩
/-- a cell came -/
theorem ah_g.push {H0 : Heap} {D : va_G} {ca : Nat → ClassId} {M : ah_h} {z : Nat} {H H1 : Heap} (h : ah_g H0 D ca M z H) {e : ah_c} (hz : H1.size = z + 1) (he : va_at D vwCl (z, ah_e ca e) H1) (ho : ∀ q, q < z → H1[q]? = H[q]?) : ah_g H0 D ca (ah_up M z e) (z + 1) H1 := by
  refine ⟨hz, by have := h.2.1; omega, fun q hq => (ho q (by have := h.2.1; omega)).trans (h.2.2.1 q hq), fun q e1 h1 => ?_⟩
  by_cases hqa : q = z
  · subst hqa
    rw [ah_up_self] at h1
    cases h1
    exact ⟨h.2.1, he⟩
  · rw [ah_up_ne _ _ hqa] at h1
    have hl : q < z := by have := (h.2.2.2 q e1 h1).2.lt; rw [h.1] at this; exact this
    exact ⟨(h.2.2.2 q e1 h1).1, (h.2.2.2 q e1 h1).2.kept (ho q hl)⟩
/-- what a method's walk stands on -/
def ah_K (p : Program) (s : State) (m : MethodId) (args : Array Value) (meth : Method) (c : Code) (D : va_G) (ca : Nat → ClassId) (own : String) (cc : ByteArray) (nL : Nat) (ret : Option FieldType) : Prop :=
  p.tables.exec = Jvm.exec ∧ c.code = cc ∧ c.maxLocals = nL ∧ s.vm.findClass own = some m.cls ∧ (∀ w ∈ ah_tb, w.before args s = true) ∧ ah_k D ca s ∧ meth.sig.returnType = ret ∧ meth.locks = false
/-- the end of a method: its answer, and the heap behind it -/
abbrev ah_q (H0 : Heap) (D : va_G) (ca : Nat → ClassId) (r : Option Value) (M : ah_h) (z : Nat) : Array Value → State → Outcome → State → Prop := fun _ _ o t => o = .returned r ∧ ah_g H0 D ca M z t.heap
abbrev ah_Q (below : List Frame) (args : Array Value) (s : State) (H0 : Heap) (D : va_G) (ca : Nat → ClassId) (mc ms : Nat) (r : Option Value) (M : ah_h) (z : Nat) : State → Prop := MQ below (ah_q H0 D ca r M z) args s mc ms (fun q => H0.size ≤ q)
abbrev ah_w (y : MethodName) (cc : ByteArray) (nL : Nat) (ret : Option FieldType) : List Cond := Cond.code y cc nL ret :: ah_tb
/-- a contract: from M at size z with these arguments the method answers r and leaves M' at size z' -/
def ah_ct (l : Launch) (H0 : Heap) (D : va_G) (ca : Nat → ClassId) (y : MethodName) (cc : ByteArray) (nL : Nat) (ret : Option FieldType) (fr lo mc ms : Nat) (As : List Value) (M : ah_h) (z : Nat) (r : Option Value) (M' : ah_h) (z' : Nat) : Prop :=
  Met l y (ah_w y cc nL ret) { frames := fr, cells := mc, slots := ms, locals := lo } (va_Pc As (fun U => ah_g H0 D ca M z U.heap ∧ ah_k D ca U)) (ah_q H0 D ca r M' z') mc ms (fun q => H0.size ≤ q)
/-- a contract out of a walk -/
theorem ah_of {l : Launch} {H0 : Heap} {D : va_G} {ca : Nat → ClassId} {own nm ds : String} {cc : ByteArray} {nL : Nat} {ret : Option FieldType} {fr lo mc ms : Nat} {As : List Value} {M : ah_h} {z : Nat} {r : Option Value} {M' : ah_h} {z' : Nat} (hy : plainName own = true) (hA : (lg_sl As).length ≤ nL)
    (body : ∀ (p : Program) (e : Env) (s : State) (m : MethodId) (below : List Frame) (meth : Method) (c : Code) (ls : Array Slot), (nm = "<init>" → meth.name = "<init>") → ah_K p s m As.toArray meth c D ca own cc nL ret → ah_g H0 D ca M z s.heap → lv_has ls nL (lv_args 0 As) →
      W p l e { frames := fr, cells := mc, slots := ms, locals := lo } s m As.toArray below meth c s.heap [] 0 0 (ah_Q below As.toArray s H0 D ca mc ms r M' z') (F0 m 0 ls [])) : ah_ct l H0 D ca ⟨own, nm, ds⟩ cc nL ret fr lo mc ms As M z r M' z' := by
  refine Met.ofW (cc := cc) (maxL := nL) (ret := ret) hy rfl ?_
  intro p e s m args below meth c s₁ B hml hv
  obtain ⟨rfl, hg, hk⟩ := hv
  have hts := atoms_spec (ws := ah_w ⟨own, nm, ds⟩ cc nL ret) B.pre
  have hl := lv_entry As (n := nL) hA
  rw [lg_entry_eq]
  exact body p e s m below meth c _ (fun h => by rw [← h]; exact (name_of_methodNamed B.named B.method).1) ⟨B.exec, B.bytes, hml, findClass_of_methodNamed B.named, fun w hw => hts w (List.mem_cons_of_mem _ hw), hk, B.returns, B.notSynchronized⟩ hg hl
/-- a field of an object, by the pool entry that names it -/
def ah_F (own : String) (index ci k : Nat) : Prop := ∃ (C : String) (T : u_T) (N : Nat) (ref : String), vwCl[ci]? = some (C, T, N) ∧ k < N ∧ (∀ w ∈ u_ws C T N, w ∈ ah_tb) ∧ Cond.fieldLink own index ref (T k).2.1 (T k).2.2.1 ∈ ah_tb ∧ (ref = (T k).1 ∨ Cond.sameField ref (T k).1 (T k).2.1 (T k).2.2.1 ∈ ah_tb)
/-- .. that may be written -/
def ah_W (own : String) (index ci k : Nat) (ty : FieldType) (fin : Bool) : Prop := ∃ (C : String) (T : u_T) (N : Nat) (t0 : Nat → FieldType), vwCl[ci]? = some (C, T, N) ∧ k < N ∧ (∀ w ∈ u_ws C T N, w ∈ ah_tb) ∧ Cond.fieldLink own index (T k).1 (T k).2.1 (T k).2.2.1 ∈ ah_tb ∧ (∀ k, k < N → parseFieldDescriptor (T k).2.2.1 = some (t0 k)) ∧ (∀ a, a < N → ∀ b, b < N → a ≠ b → (T a).2.1 ≠ (T b).2.1) ∧ (T k).2.2.2 = fin ∧ (fin = true → (T k).1 = own) ∧ parseFieldDescriptor (T k).2.2.1 = some ty
section AH
variable {p : Program} {l : Launch} {e : Env} {R : Room} {s : State} {m : MethodId} {args : Array Value} {below : List Frame} {meth : Method} {c : Code} {H : Heap} {locs : List Loc} {cells slots : Nat} {Q : State → Prop}
variable {cc : ByteArray} {pc : Nat} {ls : Array Slot} {rest : List Value} {D : va_G} {ca : Nat → ClassId} {a : Nat} {H0 : Heap} {own : String} {nL : Nat} {ret : Option FieldType} {M : ah_h} {z : Nat}
theorem ah_get (K : ah_K p s m args meth c D ca own cc nL ret) (hG : ah_g H0 D ca M z H) {ci k index : Nat} {fs : List Value} {v : Value} (hM : M a = some (ah_O ci fs)) (hv : fs[k]? = some v) (hF : ah_F own index ci k) (hdg : decode cc pc = .ok (.getfield index, 3))
    (kk : W p l e R s m args below meth c H locs cells slots Q (F0 m (pc + 3) ls (v :: rest))) : W p l e R s m args below meth c H locs cells slots Q (F0 m pc ls (.ref a :: rest)) := by
  obtain ⟨hx, hb, -, hown, hts, hk, -, -⟩ := K
  obtain ⟨C, T, N, ref, hc, hkN, hin, hlink, hsame⟩ := hF
  refine va_get (D := D) (cl := vwCl) (ci := ci) (C := C) (T := T) (N := N) hx hb hts hin hown hk.1 (hG.one hM) 0 rfl hc k hkN (hts _ hlink) (fun x h9 => ?_) hv hdg kk
  rcases hsame with rfl | h
  · exact h9
  · exact u_same (hts _ h) x h9
theorem ah_geti (K : ah_K p s m args meth c D ca own cc nL ret) (hG : ah_g H0 D ca M z H) {ci k index : Nat} {v : Int32} (hv : ah_gi M a ci k = some v) (hF : ah_F own index ci k) (hdg : decode cc pc = .ok (.getfield index, 3))
    (kk : W p l e R s m args below meth c H locs cells slots Q (F0 m (pc + 3) ls (.int v :: rest))) : W p l e R s m args below meth c H locs cells slots Q (F0 m pc ls (.ref a :: rest)) := by
  obtain ⟨fs, h1, h2⟩ := ah_gi_some hv
  exact ah_get K hG h1 h2 hF hdg kk
theorem ah_getr (K : ah_K p s m args meth c D ca own cc nL ret) (hG : ah_g H0 D ca M z H) {ci k index : Nat} {v : Nat} (hv : ah_gr M a ci k = some v) (hF : ah_F own index ci k) (hdg : decode cc pc = .ok (.getfield index, 3))
    (kk : W p l e R s m args below meth c H locs cells slots Q (F0 m (pc + 3) ls (.ref v :: rest))) : W p l e R s m args below meth c H locs cells slots Q (F0 m pc ls (.ref a :: rest)) := by
  obtain ⟨fs, h1, h2⟩ := ah_gr_some hv
  exact ah_get K hG h1 h2 hF hdg kk
theorem ah_getq (K : ah_K p s m args meth c D ca own cc nL ret) (hG : ah_g H0 D ca M z H) {ci k index : Nat} {v : Option Nat} (hv : ah_gq M a ci k = some v) (hF : ah_F own index ci k) (hdg : decode cc pc = .ok (.getfield index, 3))
    (kk : W p l e R s m args below meth c H locs cells slots Q (F0 m (pc + 3) ls (va_rf v :: rest))) : W p l e R s m args below meth c H locs cells slots Q (F0 m pc ls (.ref a :: rest)) := by
  obtain ⟨fs, h1, h2⟩ := ah_gq_some hv
  exact ah_get K hG h1 h2 hF hdg kk
theorem ah_getc (K : ah_K p s m args meth c D ca own cc nL ret) (hG : ah_g H0 D ca M z H) {k index : Nat} {v : Int32} (hv : ah_gc M a k = some v) (hF : ∀ ci, ah_cap ci = true → ah_F own index ci k) (hdg : decode cc pc = .ok (.getfield index, 3))
    (kk : W p l e R s m args below meth c H locs cells slots Q (F0 m (pc + 3) ls (.int v :: rest))) : W p l e R s m args below meth c H locs cells slots Q (F0 m pc ls (.ref a :: rest)) := by
  obtain ⟨ci, fs, h1, h2, h3⟩ := ah_gc_some hv
  exact ah_get K hG h1 h3 (hF ci h2) hdg kk
theorem ah_put (K : ah_K p s m args meth c D ca own cc nL ret) (hG : ah_g H0 D ca M z H) (hL : ah_L H0 locs) {ci k index : Nat} {v : Value} {ty : FieldType} {M' : ah_h} (hv : ah_pf M a ci k v = some M') (hF : ah_W own index ci k ty false) (hn : narrow ty v = v) (hfit : fits ty v = true) (hdg : decode cc pc = .ok (.putfield index, 3))
    (kk : ∀ (H1 : Heap) (locs1 : List Loc), ah_g H0 D ca M' z H1 → ah_L H0 locs1 → W p l e R s m args below meth c H1 locs1 cells slots Q (F0 m (pc + 3) ls rest)) : W p l e R s m args below meth c H locs cells slots Q (F0 m pc ls (v :: .ref a :: rest)) := by
  obtain ⟨hx, hb, -, hown, hts, hk, -, -⟩ := K
  obtain ⟨fs, hM, hkl, rfl⟩ := ah_pf_some hv
  obtain ⟨C, T, N, t0, hc, hkN, hin, hlink, hty, hnm, hfin, -, hd⟩ := hF
  have hP := hG.one hM
  have hap := va_apart (own := own) hts hin t0 hty hnm hk.1 hc
  obtain ⟨r, h1, cell, q1, q2, q3, q4⟩ := hP 0 _ rfl
  have hr : r = (C, T, N) := Option.some.inj (h1.symm.trans hc)
  subst hr
  obtain ⟨hS, hfc, kC, hkC, hkind⟩ := hk.1.1 ci _ hc
  obtain ⟨cf, kf, fi, f, hi, hsl⟩ := hS k hkN
  have hlay := hts _ (hin _ (u_in_lay hkN))
  unfold u_lay at hlay
  rw [if_neg (by rw [hfin]; decide)] at hlay
  have hst := (u_facts hfc hkC (u_lays hts hin hkN) hi).1
  have h6 := u_store hfc hkC hkind hlay hi hd hn hfit
  refine W.putK hx hb (f := f) ⟨hown, hts _ hlink, ⟨_, _, _, hi⟩, hst⟩ (by rw [q2]; exact h6) q1 q3 (by rw [hsl]; exact k2_hasslot (q4 k hkN)) rfl rfl hdg fun H' e1 e2 e3 => ?_
  rw [hsl] at e1 ⊢
  exact kk H' _ (hG.set hM e2 ⟨_, hc, t_OB.to (V := updV (vp_V fs) k v) ⟨_, e1, q2, q3, t_set q4 hap hkN v⟩ (fun j _ => vp_updV_set hkl v j)⟩ e3) (hL.add (hG.2.2.2 a _ hM).1)
theorem ah_putF (K : ah_K p s m args meth c D ca own cc nL ret) (hG : ah_g H0 D ca M z H) (hL : ah_L H0 locs) {ci k index : Nat} {v : Value} {ty : FieldType} {M' : ah_h} (hv : ah_pf M a ci k v = some M') (hF : ah_W own index ci k ty true) (hin2 : meth.name = "<init>") (hn : narrow ty v = v) (hfit : fits ty v = true) (hdg : decode cc pc = .ok (.putfield index, 3))
    (kk : ∀ (H1 : Heap) (locs1 : List Loc), ah_g H0 D ca M' z H1 → ah_L H0 locs1 → W p l e R s m args below meth c H1 locs1 cells slots Q (F0 m (pc + 3) ls rest)) : W p l e R s m args below meth c H locs cells slots Q (F0 m pc ls (v :: .ref a :: rest)) := by
  obtain ⟨hx, hb, -, hown, hts, hk, -, -⟩ := K
  obtain ⟨fs, hM, hkl, rfl⟩ := ah_pf_some hv
  obtain ⟨C, T, N, t0, hc, hkN, hin, hlink, hty, hnm, hfin, hdecl, hd⟩ := hF
  have hdecl := hdecl rfl
  have hP := hG.one hM
  have hap := va_apart (own := own) hts hin t0 hty hnm hk.1 hc
  obtain ⟨r, h1, cell, q1, q2, q3, q4⟩ := hP 0 _ rfl
  have hr : r = (C, T, N) := Option.some.inj (h1.symm.trans hc)
  subst hr
  obtain ⟨hS, hfc, kC, hkC, hkind⟩ := hk.1.1 ci _ hc
  obtain ⟨cf, kf, fi, f, hi, hsl⟩ := hS k hkN
  have hlay := hts _ (hin _ (u_in_lay hkN))
  unfold u_lay at hlay
  rw [if_pos hfin] at hlay
  have hst := (u_facts hfc hkC (u_lays hts hin hkN) hi).1
  have hcf : m.cls = cf := by
    obtain ⟨_, _, c', _, _, _, -, -, hf', -, -, -, hown2, -⟩ := Cond.laysFinal_spec hlay
    have e1 : c' = cf := by have := hi.symm.trans hf'; simp at this; exact this.1.symm
    rw [hdecl] at hown2
    rw [← e1]; exact Option.some.inj (hown.symm.trans hown2)
  have h6 := u_fits hfc hkC hkind (Or.inr hlay) hi hd hn hfit
  refine W.putFinK hx hb hown (hts _ hlink) hi hst hcf hin2 (by rw [q2]; exact h6) q1 q3 (by rw [hsl]; exact k2_hasslot (q4 k hkN)) rfl rfl hdg fun H' e1 e2 e3 => ?_
  rw [hsl] at e1 ⊢
  exact kk H' _ (hG.set hM e2 ⟨_, hc, t_OB.to (V := updV (vp_V fs) k v) ⟨_, e1, q2, q3, t_set q4 hap hkN v⟩ (fun j _ => vp_updV_set hkl v j)⟩ e3) (hL.add (hG.2.2.2 a _ hM).1)
theorem ah_iald (K : ah_K p s m args meth c D ca own cc nL ret) (hG : ah_g H0 D ca M z H) {i v : Int32} (hv : ah_ai M a i = some v) (hdg : decode cc pc = .ok (.iaload, 1))
    (kk : W p l e R s m args below meth c H locs cells slots Q (F0 m (pc + 1) ls (.int v :: rest))) : W p l e R s m args below meth c H locs cells slots Q (F0 m pc ls (.int i :: .ref a :: rest)) := by
  obtain ⟨n, f, hM, hin, rfl⟩ := ah_ai_some hv
  exact va_iald K.1 K.2.1 K.2.2.2.2.2.1.1 (hG.one hM) 0 0 rfl rfl hin hdg kk
theorem ah_lald (K : ah_K p s m args meth c D ca own cc nL ret) (hG : ah_g H0 D ca M z H) {i : Int32} {v : Int64} (hv : ah_aj M a i = some v) (hdg : decode cc pc = .ok (.laload, 1))
    (kk : W p l e R s m args below meth c H locs cells slots Q (F0 m (pc + 1) ls (.long v :: rest))) : W p l e R s m args below meth c H locs cells slots Q (F0 m pc ls (.int i :: .ref a :: rest)) := by
  obtain ⟨n, f, hM, hin, rfl⟩ := ah_aj_some hv
  exact va_lald K.1 K.2.1 K.2.2.2.2.2.1.1 (hG.one hM) 0 1 rfl rfl hin hdg kk
theorem ah_aald (K : ah_K p s m args meth c D ca own cc nL ret) (hG : ah_g H0 D ca M z H) {t : Nat} {ty : FieldType} {i : Int32} {v : Nat} (hv : ah_ar M a t i = some v) (ht : (ah_ty ca)[t]? = some (ca t, ty)) (hty : ty.isReference = true) (hdg : decode cc pc = .ok (.aaload, 1))
    (kk : W p l e R s m args below meth c H locs cells slots Q (F0 m (pc + 1) ls (.ref v :: rest))) : W p l e R s m args below meth c H locs cells slots Q (F0 m pc ls (.int i :: .ref a :: rest)) := by
  obtain ⟨n, f, hM, hin, hf⟩ := ah_ar_some hv
  have hlt : i.toNatClampNeg < n := Nat.not_le.mp fun q => hin (Or.inr q)
  have hc : H[a]? = some (vp_cell (ca t) (n, .inr (.inr (.inr (.inr f))))) := (hG.2.2.2 a _ hM).2
  exact W.aald (v := .ref v) (ty := ty) K.1 K.2.1 hc ((K.2.2.2.2.2.1.1.2 t _ ht).1 n (fun j => va_rf (f j))) hty (fun q => by cases q) (by show ¬ (i < 0 ∨ (arrV _ _ _).slots.size ≤ _); rw [arrV_size]; exact hin) (by show (arrV _ _ _).slots[_]? = _; rw [arrV_read _ _ hlt, hf]; rfl) rfl rfl hdg kk
theorem ah_ale (K : ah_K p s m args meth c D ca own cc nL ret) (hG : ah_g H0 D ca M z H) {v : Int32} (hv : ah_al M a = some v) (hdg : decode cc pc = .ok (.arraylength, 1))
    (kk : W p l e R s m args below meth c H locs cells slots Q (F0 m (pc + 1) ls (.int v :: rest))) : W p l e R s m args below meth c H locs cells slots Q (F0 m pc ls (.ref a :: rest)) := by
  unfold ah_al at hv
  split at hv
  · next x hx => cases hv; exact va_alen K.1 K.2.1 K.2.2.2.2.2.1.1 (hG.one hx) 0 0 rfl rfl rfl hdg kk
  · next x hx => cases hv; exact va_alen K.1 K.2.1 K.2.2.2.2.2.1.1 (hG.one hx) 0 1 rfl rfl rfl hdg kk
  · cases hv
theorem ah_aler (K : ah_K p s m args meth c D ca own cc nL ret) (hG : ah_g H0 D ca M z H) {t : Nat} {ty : FieldType} {v : Int32} (hv : ah_alr M a t = some v) (ht : (ah_ty ca)[t]? = some (ca t, ty)) (hdg : decode cc pc = .ok (.arraylength, 1))
    (kk : W p l e R s m args below meth c H locs cells slots Q (F0 m (pc + 1) ls (.int v :: rest))) : W p l e R s m args below meth c H locs cells slots Q (F0 m pc ls (.ref a :: rest)) := by
  unfold ah_alr at hv
  split at hv
  · next x hx =>
    split at hv
    · next h => cases hv; subst h; exact va_alen K.1 K.2.1 K.2.2.2.2.2.1.1 (hG.one hx) 0 x.1 rfl ht rfl hdg kk
    · cases hv
  · cases hv
theorem ah_iast (K : ah_K p s m args meth c D ca own cc nL ret) (hG : ah_g H0 D ca M z H) (hL : ah_L H0 locs) {i v : Int32} {M' : ah_h} (hv : ah_si M a i v = some M') (hdg : decode cc pc = .ok (.iastore, 1))
    (kk : ∀ (H1 : Heap) (locs1 : List Loc), ah_g H0 D ca M' z H1 → ah_L H0 locs1 → W p l e R s m args below meth c H1 locs1 cells slots Q (F0 m (pc + 1) ls rest)) : W p l e R s m args below meth c H locs cells slots Q (F0 m pc ls (.int v :: .int i :: .ref a :: rest)) := by
  obtain ⟨n, f, hM, hin, rfl⟩ := ah_si_some hv
  have hc : H[a]? = some (vp_cell (ca 0) (n, .inl f)) := (hG.2.2.2 a _ hM).2
  refine W.iast K.1 K.2.1 hc ((K.2.2.2.2.2.1.1.2 0 _ rfl).1 n (fun j => .int (f j))) (fun q => by cases q) (by show ¬ (i < 0 ∨ (arrV _ _ _).slots.size ≤ _); rw [arrV_size]; exact hin) rfl rfl hdg fun H1 e z oq => ?_
  refine kk H1 _ (hG.set hM z ?_ oq) (hL.add (hG.2.2.2 a _ hM).1)
  show H1[a]? = some (vp_cell _ _)
  rw [e]
  rw [vp_cell_i, vp_cell_i, arrV_store]
  congr 2
  funext q
  by_cases hq : q = i.toNatClampNeg
  · subst hq
    simp [updV, upd]
  · simp [updV, upd, hq]
theorem ah_last (K : ah_K p s m args meth c D ca own cc nL ret) (hG : ah_g H0 D ca M z H) (hL : ah_L H0 locs) {i : Int32} {v : Int64} {M' : ah_h} (hv : ah_sj M a i v = some M') (hdg : decode cc pc = .ok (.lastore, 1))
    (kk : ∀ (H1 : Heap) (locs1 : List Loc), ah_g H0 D ca M' z H1 → ah_L H0 locs1 → W p l e R s m args below meth c H1 locs1 cells slots Q (F0 m (pc + 1) ls rest)) : W p l e R s m args below meth c H locs cells slots Q (F0 m pc ls (.long v :: .int i :: .ref a :: rest)) := by
  obtain ⟨n, f, hM, hin, rfl⟩ := ah_sj_some hv
  have hc : H[a]? = some (vp_cell (ca 1) (n, .inr (.inl f))) := (hG.2.2.2 a _ hM).2
  refine W.last K.1 K.2.1 hc ((K.2.2.2.2.2.1.1.2 1 _ rfl).1 n (fun j => .long (f j))) (fun q => by cases q) (by show ¬ (i < 0 ∨ (arrV _ _ _).slots.size ≤ _); rw [arrV_size]; exact hin) rfl rfl hdg fun H1 e z oq => ?_
  refine kk H1 _ (hG.set hM z ?_ oq) (hL.add (hG.2.2.2 a _ hM).1)
  show H1[a]? = some (vp_cell _ _)
  rw [e]
  rw [vp_cell_l, vp_cell_l, arrV_store]
  congr 2
  funext q
  by_cases hq : q = i.toNatClampNeg
  · subst hq
    simp [updV, vp_updL]
  · simp [updV, vp_updL, hq]
/-- a reference into an array of references: the class of what is stored fits -/
theorem ah_aast (K : ah_K p s m args meth c D ca own cc nL ret) (hG : ah_g H0 D ca M z H) (hL : ah_L H0 locs) {t : Nat} {E : String} {i : Int32} {v : Nat} {M' : ah_h} (hv : ah_sr M a t i v = some M') (ht : (ah_ty ca)[t]? = some (ca t, .object E)) (hr : va_Any E s H v) (hdg : decode cc pc = .ok (.aastore, 1))
    (kk : ∀ (H1 : Heap) (locs1 : List Loc), ah_g H0 D ca M' z H1 → ah_L H0 locs1 → W p l e R s m args below meth c H1 locs1 cells slots Q (F0 m (pc + 1) ls rest)) : W p l e R s m args below meth c H locs cells slots Q (F0 m pc ls (.ref v :: .int i :: .ref a :: rest)) := by
  obtain ⟨n, f, hM, hin, rfl⟩ := ah_sr_some hv
  have hlt : i.toNatClampNeg < n := Nat.not_le.mp fun q => hin (Or.inr q)
  have h0 : ¬ i < 0 := fun q => hin (Or.inl q)
  have hc : H[a]? = some (vp_cell (ca t) (n, .inr (.inr (.inr (.inr f))))) := (hG.2.2.2 a _ hM).2
  obtain ⟨cellV, g1, g3, ⟨kC, hkC⟩, hasg⟩ := hr
  obtain ⟨kA, comp, k1, k2, k3, -⟩ := (K.2.2.2.2.2.1.1.2 t _ ht).2
  obtain ⟨kE, hkE, -⟩ := Vm.findClass_spec k3
  refine W.aast K.1 K.2.1 hc (fun q h => by cases h) (fun h => by cases h) k1 k2 rfl hkE ⟨h0, by show _ < (arrV _ _ _).slots.size; rw [arrV_size]; exact hlt⟩ g1 (fun q h => by rw [h] at g3; cases g3) hkC (hasg _ k3) rfl rfl hdg fun H1 e z oq => ?_
  refine kk H1 _ (hG.set hM z ?_ oq) (hL.add (hG.2.2.2 a _ hM).1)
  show H1[a]? = some (vp_cell _ _)
  rw [e]
  rw [vp_cell_q, vp_cell_q, arrV_store]
  congr 2
  funext q
  by_cases hq : q = i.toNatClampNeg
  · subst hq
    simp [updV, va_up, va_rf]
  · simp [updV, va_up, hq]
/-! ends -/
theorem ah_iret (K : ah_K p s m args meth c D ca own cc nL (some .int)) (hG : ah_g H0 D ca M z H) (hL : ah_L H0 locs) {mc ms : Nat} {v : Int32} (hc : cells ≤ mc) (hs : slots ≤ ms) (hdg : decode cc pc = .ok (.ireturn, 1)) : W p l e R s m args below meth c H locs cells slots (ah_Q below args s H0 D ca mc ms (some (.int v)) M z) (F0 m pc ls [.int v]) := by
  have hlocks := K.2.2.2.2.2.2.2
  exact W.widen hc hs (W.iret (v := v) K.1 K.2.1 K.2.2.2.2.2.2.1 (fun t ht _ => ⟨rfl, by rw [ht]; exact hG⟩) hL hdg)
theorem ah_zret (K : ah_K p s m args meth c D ca own cc nL (some .boolean)) (hG : ah_g H0 D ca M z H) (hL : ah_L H0 locs) {mc ms : Nat} {v : Int32} (hv : v = 0 ∨ v = 1) (hc : cells ≤ mc) (hs : slots ≤ ms) (hdg : decode cc pc = .ok (.ireturn, 1)) : W p l e R s m args below meth c H locs cells slots (ah_Q below args s H0 D ca mc ms (some (.int v)) M z) (F0 m pc ls [.int v]) := by
  have hlocks := K.2.2.2.2.2.2.2
  exact W.widen hc hs (W.zret (v := v) K.1 K.2.1 K.2.2.2.2.2.2.1 (by rcases hv with rfl | rfl <;> rfl) (fun t ht _ => ⟨rfl, by rw [ht]; exact hG⟩) hL hdg)
theorem ah_lret (K : ah_K p s m args meth c D ca own cc nL (some .long)) (hG : ah_g H0 D ca M z H) (hL : ah_L H0 locs) {mc ms : Nat} {v : Int64} (hc : cells ≤ mc) (hs : slots ≤ ms) (hdg : decode cc pc = .ok (.lreturn, 1)) : W p l e R s m args below meth c H locs cells slots (ah_Q below args s H0 D ca mc ms (some (.long v)) M z) (F0 m pc ls [.long v]) := by
  have hlocks := K.2.2.2.2.2.2.2
  exact W.widen hc hs (W.lret (v := v) K.1 K.2.1 K.2.2.2.2.2.2.1 (fun t ht _ => ⟨rfl, by rw [ht]; exact hG⟩) hL hdg)
theorem ah_vret (K : ah_K p s m args meth c D ca own cc nL none) (hG : ah_g H0 D ca M z H) (hL : ah_L H0 locs) {mc ms : Nat} (hc : cells ≤ mc) (hs : slots ≤ ms) (hdg : decode cc pc = .ok (.return_, 1)) : W p l e R s m args below meth c H locs cells slots (ah_Q below args s H0 D ca mc ms none M z) (F0 m pc ls []) := by
  have hlocks := K.2.2.2.2.2.2.2
  exact W.widen hc hs (W.vret K.1 K.2.1 K.2.2.2.2.2.2.1 (fun t ht _ => ⟨rfl, by rw [ht]; exact hG⟩) hL hdg)
theorem ah_aret {C : String} (K : ah_K p s m args meth c D ca own cc nL (some (.object C))) (hG : ah_g H0 D ca M z H) (hL : ah_L H0 locs) {mc ms : Nat} {v : Nat} (hc : cells ≤ mc) (hs : slots ≤ ms) (hdg : decode cc pc = .ok (.areturn, 1)) : W p l e R s m args below meth c H locs cells slots (ah_Q below args s H0 D ca mc ms (some (.ref v)) M z) (F0 m pc ls [.ref v]) := by
  have hlocks := K.2.2.2.2.2.2.2
  exact W.widen hc hs (W.aret (v := .ref v) K.1 K.2.1 K.2.2.2.2.2.2.1 (Or.inl ⟨_, rfl⟩) (Or.inr ⟨_, rfl⟩) (fun t ht _ => ⟨rfl, by rw [ht]; exact hG⟩) hL hdg)
/-! calls -/
theorem ah_go {mc ms : Nat} {st0 : List Value} {r : Option Value} {M' : ah_h} {z' : Nat} (hL : ah_L H0 locs) (hr : va_Run p l e R s m args below meth c H locs cells slots mc ms (F0 m pc ls st0) rest (fun _ o t => o = .returned r ∧ ah_g H0 D ca M' z' t.heap) (fun q => H0.size ≤ q))
    (kk : ∀ (H1 : Heap) (locs1 : List Loc), ah_g H0 D ca M' z' H1 → ah_L H0 locs1 → W p l e R s m args below meth c H1 locs1 (cells + mc) (slots + ms) Q (F0 m (pc + 3) ls (r.toList ++ rest))) : W p l e R s m args below meth c H locs cells slots Q (F0 m pc ls st0) := by
  intro T hT X
  obtain ⟨v, st₀, t, T', L, h0, X', hLL, e1, e2, ⟨hv, hg⟩, st⟩ := hr T hT X
  cases hv
  obtain ⟨t2, a1, b1⟩ := kk T'.heap (locs ++ L) (by rw [e1]; exact hg) (fun q hq => by
      rcases List.mem_append.mp hq with h | h
      · exact hL q h
      · exact hLL q h) T' rfl X'
  exact ⟨t2, st t2 a1, b1⟩
theorem ah_good {ws : List Cond} (h : ∀ w ∈ ws, w ∈ ah_tb) : GoodIn ah_tb ws := fun w hw => ⟨h w hw, good_of_word (List.mem_filter.mp (h w hw)).2⟩
theorem ah_goodc {y : MethodName} {c9 : ByteArray} {n9 : Nat} {r9 : Option FieldType} (h : Cond.code y c9 n9 r9 ∈ ah_tb) : GoodIn ah_tb (ah_w y c9 n9 r9) := ah_good (fun w hw => by
  rcases List.mem_cons.mp hw with rfl | hw
  · exact h
  · exact hw)
theorem ah_pre (K : ah_K p s m args meth c D ca own cc nL ret) (hG : ah_g H0 D ca M z H) (As : List Value) : FrameBlind (va_Pc As (fun U => ah_g H0 D ca M z U.heap ∧ ah_k D ca U)) ∧ ∀ U : State, U.heap = H → s.WarmedH U.vm → va_Pc As (fun U => ah_g H0 D ca M z U.heap ∧ ah_k D ca U) As.toArray U :=
  ⟨fun a U g mk q => ⟨q.1, q.2.1, q.2.2.calling g mk a⟩, fun U hU hW => ⟨rfl, by rw [hU]; exact hG, K.2.2.2.2.2.1.warm hW⟩⟩
theorem ah_recv (K : ah_K p s m args meth c D ca own cc nL ret) (hG : ah_g H0 D ca M z H) {ci : Nat} {fs : List Value} (hM : M a = some (ah_O ci fs)) {C : String} {T : u_T} {N : Nat} (hc : vwCl[ci]? = some (C, T, N)) : ∃ cell : Cell, H[a]? = some cell ∧ cell.vm.isStatics = false ∧ s.vm.findClass C = some cell.cls :=
  va_recv K.2.2.2.2.2.1.1 (hG.one hM) (q0 := 0) hc rfl
/-- what a call's rows ask of the callee's name -/
abbrev ah_d (y : MethodName) (n : Nat) : Prop := y.cls ≠ "java/lang/invoke/MethodHandle" ∧ y.cls ≠ "java/lang/invoke/VarHandle" ∧ (parseMethodDescriptor y.desc).map (fun d => d.parameters.length) = some n
variable {y : MethodName} {c9 : ByteArray} {n9 index fr lo mc ms n : Nat} {r9 : Option FieldType} {As : List Value} {r : Option Value} {M' : ah_h} {z' : Nat}
theorem ah_callS (K : ah_K p s m args meth c D ca own cc nL ret) (hG : ah_g H0 D ca M z H) (hL : ah_L H0 locs) (hls : ls.size = nL) (hM : ah_ct l H0 D ca y c9 n9 r9 fr lo mc ms As M z r M' z') (hd : ah_d y n) (w1 : Cond.methodLink own index y ∈ ah_tb) (w2 : Cond.static y ∈ ah_tb) (w3 : Cond.initialized y.cls ∈ ah_tb) (w4 : Cond.code y c9 n9 r9 ∈ ah_tb)
    (hR : fr + 1 ≤ R.frames ∧ 8 + (n9 + 11) + lo ≤ R.locals) {st : List Value} (hn : As.length = n) (hst : st = As.reverse ++ rest) (hW : (rest.map fun v => v.category).sum ≤ 8) (hf : cells + mc ≤ R.cells ∧ slots + ms ≤ R.slots) (hdg : decode cc pc = .ok (.invokestatic index, 3))
    (kk : ∀ (H1 : Heap) (locs1 : List Loc), ah_g H0 D ca M' z' H1 → ah_L H0 locs1 → W p l e R s m args below meth c H1 locs1 (cells + mc) (slots + ms) Q (F0 m (pc + 3) ls (r.toList ++ rest))) : W p l e R s m args below meth c H locs cells slots Q (F0 m pc ls st) := by
  obtain ⟨hx, hb, hml, hown, hts, -⟩ := id K
  refine ah_go hL ?_ kk
  exact va_runS ⟨hx, hb, hml, hown, hts⟩ hM ⟨callB_of n hts (ah_goodc w4) rfl rfl rfl (hts _ w3) (hts _ w1) hd hR, hts _ w2⟩ (ah_pre K hG As) rfl hn hls hst (lv_room hW) hdg hf
theorem ah_callSN (K : ah_K p s m args meth c D ca own cc nL ret) (hG : ah_g H0 D ca M z H) (hL : ah_L H0 locs) (hls : ls.size = nL) (hM : ah_ct l H0 D ca y c9 n9 r9 fr lo mc ms As M z r M' z') (hd : ah_d y n) {host : String} (w1 : (own, index, y, host) ∈ ah_nM) (w2 : Cond.static y ∈ ah_tb) (w3 : Cond.initialized y.cls ∈ ah_tb) (w4 : Cond.code y c9 n9 r9 ∈ ah_tb)
    (hR : fr + 1 ≤ R.frames ∧ 8 + (n9 + 11) + lo ≤ R.locals) {st : List Value} (hn : As.length = n) (hst : st = As.reverse ++ rest) (hW : (rest.map fun v => v.category).sum ≤ 8) (hf : cells + mc ≤ R.cells ∧ slots + ms ≤ R.slots) (hdg : decode cc pc = .ok (.invokestatic index, 3))
    (kk : ∀ (H1 : Heap) (locs1 : List Loc), ah_g H0 D ca M' z' H1 → ah_L H0 locs1 → W p l e R s m args below meth c H1 locs1 (cells + mc) (slots + ms) Q (F0 m (pc + 3) ls (r.toList ++ rest))) : W p l e R s m args below meth c H locs cells slots Q (F0 m pc ls st) := by
  obtain ⟨hx, hb, hml, hown, hts, hk, -⟩ := id K
  refine ah_go hL ?_ kk
  exact va_runSN ⟨hx, hb, hml, hown, hts⟩ hM ⟨va_cnB n hts (ah_goodc w4) rfl rfl rfl (hk.2.1 _ w1) (hts _ w3) hd hR, hts _ w2, trivial⟩ (ah_pre K hG As) rfl hn hls hst (lv_room hW) hdg hf
theorem ah_callV (K : ah_K p s m args meth c D ca own cc nL ret) (hG : ah_g H0 D ca M z H) (hL : ah_L H0 locs) (hls : ls.size = nL) {ci : Nat} {fs : List Value} {C : String} {T : u_T} {N : Nat} (hO : M a = some (ah_O ci fs)) (hc : vwCl[ci]? = some (C, T, N)) (hM : ah_ct l H0 D ca y c9 n9 r9 fr lo mc ms (.ref a :: As) M z r M' z') (hd : ah_d y n) (w1 : Cond.methodLink own index y ∈ ah_tb) (w2 : Cond.instanceMethod y ∈ ah_tb) (w3 : Cond.initialized y.cls ∈ ah_tb) (w4 : Cond.code y c9 n9 r9 ∈ ah_tb) (w5 : Cond.selects C y y ∈ ah_tb)
    (hR : fr + 1 ≤ R.frames ∧ 8 + (n9 + 11) + lo ≤ R.locals) {st : List Value} (hn : As.length = n) (hst : st = As.reverse ++ .ref a :: rest) (hW : (rest.map fun v => v.category).sum ≤ 8) (hf : cells + mc ≤ R.cells ∧ slots + ms ≤ R.slots) (hdg : decode cc pc = .ok (.invokevirtual index, 3))
    (kk : ∀ (H1 : Heap) (locs1 : List Loc), ah_g H0 D ca M' z' H1 → ah_L H0 locs1 → W p l e R s m args below meth c H1 locs1 (cells + mc) (slots + ms) Q (F0 m (pc + 3) ls (r.toList ++ rest))) : W p l e R s m args below meth c H locs cells slots Q (F0 m pc ls st) := by
  obtain ⟨hx, hb, hml, hown, hts, -⟩ := id K
  refine ah_go hL ?_ kk
  have hp := ah_pre K hG (.ref a :: As)
  exact va_runV ⟨hx, hb, hml, hown, hts⟩ hM ⟨callB_of n hts (ah_goodc w4) rfl rfl rfl (hts _ w3) (hts _ w1) hd hR, hts _ w2, hts _ w5⟩ ⟨hp.1, ah_recv K hG hO hc, hp.2⟩ rfl hn hls hst (lv_room hW) hdg hf
theorem ah_callI (K : ah_K p s m args meth c D ca own cc nL ret) (hG : ah_g H0 D ca M z H) (hL : ah_L H0 locs) (hls : ls.size = nL) (hM : ah_ct l H0 D ca y c9 n9 none fr lo mc ms (.ref a :: As) M z r M' z') (hy : y.name = "<init>") (hd : ah_d y n) (w1 : Cond.methodLink own index y ∈ ah_tb) (w2 : Cond.instanceMethod y ∈ ah_tb) (w3 : Cond.initialized y.cls ∈ ah_tb) (w4 : Cond.code y c9 n9 none ∈ ah_tb)
    (hR : fr + 1 ≤ R.frames ∧ 8 + (n9 + 11) + lo ≤ R.locals) {st : List Value} (hn : As.length = n) (hst : st = As.reverse ++ .ref a :: rest) (hW : (rest.map fun v => v.category).sum ≤ 8) (hf : cells + mc ≤ R.cells ∧ slots + ms ≤ R.slots) (hdg : decode cc pc = .ok (.invokespecial index, 3))
    (kk : ∀ (H1 : Heap) (locs1 : List Loc), ah_g H0 D ca M' z' H1 → ah_L H0 locs1 → W p l e R s m args below meth c H1 locs1 (cells + mc) (slots + ms) Q (F0 m (pc + 3) ls (r.toList ++ rest))) : W p l e R s m args below meth c H locs cells slots Q (F0 m pc ls st) := by
  obtain ⟨hx, hb, hml, hown, hts, -⟩ := id K
  refine ah_go hL ?_ kk
  exact va_runI ⟨hx, hb, hml, hown, hts⟩ hM ⟨callB_of n hts (ah_goodc w4) rfl rfl rfl (hts _ w3) (hts _ w1) hd hR, hy, hts _ w2⟩ (ah_pre K hG (.ref a :: As)) rfl hn hls hst (lv_room hW) hdg hf
/-- super.m(..) -/
theorem ah_callU (K : ah_K p s m args meth c D ca own cc nL ret) (hG : ah_g H0 D ca M z H) (hL : ah_L H0 locs) (hls : ls.size = nL) {ci : Nat} {fs : List Value} {C : String} {T : u_T} {N : Nat} (hO : M a = some (ah_O ci fs)) (hc : vwCl[ci]? = some (C, T, N)) (hM : ah_ct l H0 D ca y c9 n9 r9 fr lo mc ms (.ref a :: As) M z r M' z') (hd : y.name ≠ "<init>" ∧ (parseMethodDescriptor y.desc).map (fun d => d.parameters.length) = some n) (w1 : Cond.methodLink own index y ∈ ah_tb) (w2 : Cond.instanceMethod y ∈ ah_tb) (w3 : Cond.initialized y.cls ∈ ah_tb) (w4 : Cond.code y c9 n9 r9 ∈ ah_tb) (w5 : Cond.sameMethod y.cls y.cls y.name y.desc ∈ ah_tb) (w6 : Cond.superclass own y.cls ∈ ah_tb)
    (hR : fr + 1 ≤ R.frames ∧ 8 + (n9 + 11) + lo ≤ R.locals) {st : List Value} (hn : As.length = n) (hst : st = As.reverse ++ .ref a :: rest) (hW : (rest.map fun v => v.category).sum ≤ 8) (hf : cells + mc ≤ R.cells ∧ slots + ms ≤ R.slots) (hdg : decode cc pc = .ok (.invokespecial index, 3))
    (kk : ∀ (H1 : Heap) (locs1 : List Loc), ah_g H0 D ca M' z' H1 → ah_L H0 locs1 → W p l e R s m args below meth c H1 locs1 (cells + mc) (slots + ms) Q (F0 m (pc + 3) ls (r.toList ++ rest))) : W p l e R s m args below meth c H locs cells slots Q (F0 m pc ls st) := by
  obtain ⟨hx, hb, hml, hown, hts, hk, -⟩ := id K
  refine ah_go hL ?_ kk
  have hp := ah_pre K hG (.ref a :: As)
  have hG9 : GoodIn ah_tb (va_wsSU own index y (ah_w y c9 n9 r9)) := ah_good (fun w hw => by
    rcases List.mem_append.mp hw with h | h
    · simp only [List.mem_cons, List.not_mem_nil, or_false] at h
      rcases h with rfl | rfl | rfl | rfl | rfl
      · exact w1
      · exact w5
      · exact w6
      · exact w2
      · exact w3
    · exact (ah_goodc w4 w h).1)
  exact va_runSU (hk.1.1 ci _ hc).2 ⟨hx, hb, hml, hown, hts⟩ hM (va_cwSU n hts hG9 rfl rfl rfl hd hR) ⟨hp.1, ah_recv K hG hO hc, hp.2⟩ rfl hn hls hst (lv_room hW) hdg hf
/-- a call of a method that the receiver's class, C, overrides or inherits: x is named, y is run -/
theorem ah_callO (K : ah_K p s m args meth c D ca own cc nL ret) (hG : ah_g H0 D ca M z H) (hL : ah_L H0 locs) (hls : ls.size = nL) {ci : Nat} {fs : List Value} {C owner : String} {T : u_T} {N : Nat} (hO : M a = some (ah_O ci fs)) (hc : vwCl[ci]? = some (C, T, N)) (hM : ah_ct l H0 D ca y c9 n9 r9 fr lo mc ms (.ref a :: As) M z r M' z') {x : MethodName} (hd : owner ≠ "java/lang/invoke/MethodHandle" ∧ owner ≠ "java/lang/invoke/VarHandle" ∧ (parseMethodDescriptor x.desc).map (fun d => d.parameters.length) = some n) (w1 : Cond.methodLink own index x ∈ ah_tb) (w2 : Cond.instanceMethod y ∈ ah_tb) (w3 : Cond.initialized y.cls ∈ ah_tb) (w4 : Cond.code y c9 n9 r9 ∈ ah_tb) (w5 : Cond.sameMethod x.cls owner x.name x.desc ∈ ah_tb) (w6 : Cond.selects C x y ∈ ah_tb)
    (w7 : Cond.instanceMethod ⟨owner, x.name, x.desc⟩ ∈ ah_tb) {b0 : ByteArray} {m0 : Nat} {r0 : Option FieldType} (w8 : Cond.code ⟨owner, x.name, x.desc⟩ b0 m0 r0 ∈ ah_tb)
    (hR : fr + 1 ≤ R.frames ∧ 8 + (n9 + 11) + lo ≤ R.locals) {st : List Value} (hn : As.length = n) (hst : st = As.reverse ++ .ref a :: rest) (hW : (rest.map fun v => v.category).sum ≤ 8) (hf : cells + mc ≤ R.cells ∧ slots + ms ≤ R.slots) (hdg : decode cc pc = .ok (.invokevirtual index, 3))
    (kk : ∀ (H1 : Heap) (locs1 : List Loc), ah_g H0 D ca M' z' H1 → ah_L H0 locs1 → W p l e R s m args below meth c H1 locs1 (cells + mc) (slots + ms) Q (F0 m (pc + 3) ls (r.toList ++ rest))) : W p l e R s m args below meth c H locs cells slots Q (F0 m pc ls st) := by
  obtain ⟨hx, hb, hml, hown, hts, hk, -⟩ := id K
  refine ah_go hL ?_ kk
  have hp := ah_pre K hG (.ref a :: As)
  have hG9 : GoodIn ah_tb (va_wsO own index C owner x y (ah_w y c9 n9 r9)) := ah_good (fun w hw => by
    rcases List.mem_append.mp hw with h | h
    · simp only [List.mem_cons, List.not_mem_nil, or_false] at h
      rcases h with rfl | rfl | rfl | rfl | rfl | rfl
      · exact w1
      · exact w5
      · exact w7
      · exact w6
      · exact w2
      · exact w3
    · exact (ah_goodc w4 w h).1)
  exact va_runU ⟨hx, hb, hml, hown, hts⟩ hM (va_cwO n hts hG9 rfl rfl rfl w8 hd hR) ⟨hp.1, ah_recv K hG hO hc, hp.2⟩ rfl hn hls hst (lv_room hW) hdg hf
end AH
