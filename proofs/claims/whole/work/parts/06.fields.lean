/-! fields, receivers, and small rows for the walks (printed by gen/drive.py) -/
theorem inX0 : ∀ w ∈ u_ws RX0 TX0 2, w ∈ ah_tb := by
  intro w hw
  obtain ⟨k, hk, rfl⟩ := List.mem_map.mp hw
  have hk := List.mem_range.mp hk
  rcases (show k = 0 ∨ k = 1 by omega) with rfl | rfl
  · exact q_301
  · exact q_302
theorem inX1 : ∀ w ∈ u_ws RX1 TX1 2, w ∈ ah_tb := by
  intro w hw
  obtain ⟨k, hk, rfl⟩ := List.mem_map.mp hw
  have hk := List.mem_range.mp hk
  rcases (show k = 0 ∨ k = 1 by omega) with rfl | rfl
  · exact q_103
  · exact q_105
theorem inX2 : ∀ w ∈ u_ws RX2 TX2 10, w ∈ ah_tb := by
  intro w hw
  obtain ⟨k, hk, rfl⟩ := List.mem_map.mp hw
  have hk := List.mem_range.mp hk
  rcases (show k = 0 ∨ k = 1 ∨ k = 2 ∨ k = 3 ∨ k = 4 ∨ k = 5 ∨ k = 6 ∨ k = 7 ∨ k = 8 ∨ k = 9 by omega) with rfl | rfl | rfl | rfl | rfl | rfl | rfl | rfl | rfl | rfl
  · exact q_132
  · exact q_134
  · exact q_136
  · exact q_138
  · exact q_140
  · exact q_142
  · exact q_144
  · exact q_146
  · exact q_148
  · exact q_150
theorem inX3 : ∀ w ∈ u_ws RX3 TX3 2, w ∈ ah_tb := by
  intro w hw
  obtain ⟨k, hk, rfl⟩ := List.mem_map.mp hw
  have hk := List.mem_range.mp hk
  rcases (show k = 0 ∨ k = 1 by omega) with rfl | rfl
  · exact q_319
  · exact q_320
theorem inX4 : ∀ w ∈ u_ws RX4 TX4 2, w ∈ ah_tb := by
  intro w hw
  obtain ⟨k, hk, rfl⟩ := List.mem_map.mp hw
  have hk := List.mem_range.mp hk
  rcases (show k = 0 ∨ k = 1 by omega) with rfl | rfl
  · exact q_265
  · exact q_266
theorem inX5 : ∀ w ∈ u_ws RX5 TX5 2, w ∈ ah_tb := by
  intro w hw
  obtain ⟨k, hk, rfl⟩ := List.mem_map.mp hw
  have hk := List.mem_range.mp hk
  rcases (show k = 0 ∨ k = 1 by omega) with rfl | rfl
  · exact q_274
  · exact q_275
theorem inX6 : ∀ w ∈ u_ws RX6 TX6 2, w ∈ ah_tb := by
  intro w hw
  obtain ⟨k, hk, rfl⟩ := List.mem_map.mp hw
  have hk := List.mem_range.mp hk
  rcases (show k = 0 ∨ k = 1 by omega) with rfl | rfl
  · exact q_283
  · exact q_284
theorem inX7 : ∀ w ∈ u_ws RX7 TX7 4, w ∈ ah_tb := by
  intro w hw
  obtain ⟨k, hk, rfl⟩ := List.mem_map.mp hw
  have hk := List.mem_range.mp hk
  rcases (show k = 0 ∨ k = 1 ∨ k = 2 ∨ k = 3 by omega) with rfl | rfl | rfl | rfl
  · exact q_169
  · exact q_171
  · exact q_173
  · exact q_175
theorem inX8 : ∀ w ∈ u_ws RX8 TX8 2, w ∈ ah_tb := by
  intro w hw
  obtain ⟨k, hk, rfl⟩ := List.mem_map.mp hw
  have hk := List.mem_range.mp hk
  rcases (show k = 0 ∨ k = 1 by omega) with rfl | rfl
  · exact q_310
  · exact q_311
theorem inX9 : ∀ w ∈ u_ws RX9 TX9 2, w ∈ ah_tb := by
  intro w hw
  obtain ⟨k, hk, rfl⟩ := List.mem_map.mp hw
  have hk := List.mem_range.mp hk
  rcases (show k = 0 ∨ k = 1 by omega) with rfl | rfl
  · exact q_292
  · exact q_293
theorem inX10 : ∀ w ∈ u_ws RX10 TX10 8, w ∈ ah_tb := by
  intro w hw
  obtain ⟨k, hk, rfl⟩ := List.mem_map.mp hw
  have hk := List.mem_range.mp hk
  rcases (show k = 0 ∨ k = 1 ∨ k = 2 ∨ k = 3 ∨ k = 4 ∨ k = 5 ∨ k = 6 ∨ k = 7 by omega) with rfl | rfl | rfl | rfl | rfl | rfl | rfl | rfl
  · exact q_188
  · exact q_190
  · exact q_192
  · exact q_194
  · exact q_196
  · exact q_198
  · exact q_200
  · exact q_202
theorem inX11 : ∀ w ∈ u_ws RX11 TX11 24, w ∈ ah_tb := by
  intro w hw
  obtain ⟨k, hk, rfl⟩ := List.mem_map.mp hw
  have hk := List.mem_range.mp hk
  rcases (show k = 0 ∨ k = 1 ∨ k = 2 ∨ k = 3 ∨ k = 4 ∨ k = 5 ∨ k = 6 ∨ k = 7 ∨ k = 8 ∨ k = 9 ∨ k = 10 ∨ k = 11 ∨ k = 12 ∨ k = 13 ∨ k = 14 ∨ k = 15 ∨ k = 16 ∨ k = 17 ∨ k = 18 ∨ k = 19 ∨ k = 20 ∨ k = 21 ∨ k = 22 ∨ k = 23 by omega) with rfl | rfl | rfl | rfl | rfl | rfl | rfl | rfl | rfl | rfl | rfl | rfl | rfl | rfl | rfl | rfl | rfl | rfl | rfl | rfl | rfl | rfl | rfl | rfl
  · exact q_907
  · exact q_909
  · exact q_911
  · exact q_913
  · exact q_915
  · exact q_917
  · exact q_919
  · exact q_921
  · exact q_923
  · exact q_925
  · exact q_927
  · exact q_929
  · exact q_931
  · exact q_933
  · exact q_935
  · exact q_937
  · exact q_939
  · exact q_941
  · exact q_943
  · exact q_945
  · exact q_947
  · exact q_949
  · exact q_951
  · exact q_953
theorem ah_caps {c : Nat} (h : ah_cap c = true) : c = 0 ∨ c = 1 ∨ c = 3 ∨ c = 4 ∨ c = 5 ∨ c = 6 ∨ c = 8 ∨ c = 9 := by
  unfold ah_cap at h
  simp only [Bool.or_eq_true, beq_iff_eq] at h
  omega
theorem ah_this {β : Type} {M : ah_h} {a ci : Nat} {f : List Value → Option β} {r : β} (h : (ah_ob M a ci).bind f = some r) : ∃ fs, M a = some (ah_O ci fs) := by
  obtain ⟨fs, h1, -⟩ := Option.bind_eq_some_iff.mp h
  exact ⟨fs, ah_ob_some h1⟩
/-- more rounds than any loop of the class or the reference takes -/
def ah_fu : Nat := 300
section AHY
variable {p : Program} {s : State} {m : MethodId} {args : Array Value} {meth : Method} {c : Code} {H : Heap} {cc : ByteArray} {D : va_G} {ca : Nat → ClassId} {a : Nat} {H0 : Heap} {own : String} {nL : Nat} {ret : Option FieldType} {M : ah_h} {z : Nat}
theorem ah_any (K : ah_K p s m args meth c D ca own cc nL ret) (hG : ah_g H0 D ca M z H) {ci : Nat} {fs : List Value} {C E : String} {T : u_T} {N : Nat} (hM : M a = some (ah_O ci fs)) (hc : vwCl[ci]? = some (C, T, N)) (hasg : ∀ comp c0 : ClassId, s.vm.findClass E = some comp → s.vm.findClass C = some c0 → s.vm.assignable c0 comp = true) : va_Any E s H a :=
  va_rAny (q0 := 0) K.2.2.2.2.2.1.1 (hG.one hM) rfl hc hasg
theorem ah_cast {E C : String} (h : va_Nw (.castable C E) s) : ∀ comp c0 : ClassId, s.vm.findClass E = some comp → s.vm.findClass C = some c0 → s.vm.assignable c0 comp = true := by
  intro comp c0 h1 h2
  obtain ⟨c1, t1, g1, g2, g3⟩ := Cond.castable_spec h
  cases h2.symm.trans g1
  cases h1.symm.trans g2
  exact g3
theorem ah_anyC (K : ah_K p s m args meth c D ca own cc nL ret) (hG : ah_g H0 D ca M z H) {x : Nat × List Value} (h : ah_oc M a = some x) : va_Any "ShipsThatMeet$Captain" s H a := by
  obtain ⟨h1, h2⟩ := ah_oc_some h
  obtain ⟨ci, fs⟩ := x
  have hk := K.2.2.2.2.2.1
  rcases ah_caps h2 with h | h | h | h | h | h | h | h <;> (dsimp only at h; subst h)
  · exact ah_any K hG h1 rfl (ah_cast (hk.2.2.1 _ (by simp [ah_nC])))
  · exact ah_any K hG h1 rfl (fun comp c0 e1 e2 => by
      cases e1.symm.trans e2
      have h3 := (hk.1.1 1 _ rfl).2
      cases h3.1.symm.trans e1
      exact va_assign h3)
  · exact ah_any K hG h1 rfl (ah_cast (hk.2.2.1 _ (by simp [ah_nC])))
  · exact ah_any K hG h1 rfl (ah_cast (hk.2.2.1 _ (by simp [ah_nC])))
  · exact ah_any K hG h1 rfl (ah_cast (hk.2.2.1 _ (by simp [ah_nC])))
  · exact ah_any K hG h1 rfl (ah_cast (hk.2.2.1 _ (by simp [ah_nC])))
  · exact ah_any K hG h1 rfl (ah_cast (hk.2.2.1 _ (by simp [ah_nC])))
  · exact ah_any K hG h1 rfl (ah_cast (hk.2.2.1 _ (by simp [ah_nC])))
theorem ah_anyS (K : ah_K p s m args meth c D ca own cc nL ret) (hG : ah_g H0 D ca M z H) {fs : List Value} (h : ah_ob M a 7 = some fs) : va_Any "ShipsThatMeet$Shelf" s H a :=
  ah_any K hG (ah_ob_some h) rfl (fun comp c0 e1 e2 => by
      cases e1.symm.trans e2
      have h3 := (K.2.2.2.2.2.1.1.1 7 _ rfl).2
      cases h3.1.symm.trans e1
      exact va_assign h3)
end AHY
