/-! things made -/
section
variable {γ : jγ} {l : Launch} {x : jE} {ws : va_W} {lv : List (Option Value)} {st : List Value} {cs sl pc : Nat}
variable {rm : Room} {cc : ByteArray} {own : String} {ret : Option FieldType}
theorem J.new (g : jG γ x rm cc own ret) {C : String} {T : u_T} {N ci index : Nat} (ty : Nat → FieldType) (hd : decode cc pc = .ok (.new index, 3)) (hc : vwCl[ci]? = some (C, T, N)) (hin : ∀ w ∈ u_ws C T N, w ∈ jTT) (hty : ∀ k, k < N → parseFieldDescriptor (T k).2.2.1 = some (ty k)) (hcl : Cond.classLink own index C ∈ jTT) (hinst : Cond.instantiable C N ∈ jTT) (hini : Cond.initialized C ∈ jTT) {fs : List Value} (hfs : ∀ j, j < N → defaultValue (ty j) = vp_V fs j) (hcells : cs + 1 ≤ rm.cells) (hslots : sl + N ≤ rm.slots) (k : ∀ q : Nat, J γ l x (ws ++ [(q, .inr (ci, fs))]) lv (.ref q :: st) (cs + 1) (sl + N) (pc + 3)) : J γ l x ws lv st cs sl pc := by
  obtain ⟨g1, g2, g3, g4, g5, g6, g7, g8, g9, g10, g11⟩ := g
  intro H locs ls hP hD hS hl
  refine va_new (Ts := jTT) g1 g2 g5 hin ty hty g4 (g5 _ hcl) (g5 _ hinst) (g5 _ hini) g6 hP hD hS g9 hc hfs (by rw [g10]; exact hcells) (by rw [g10]; exact hslots) hd fun q H1 h1 h2 h3 => ?_
  exact k q H1 locs ls h1 h2 h3 hl
end
theorem va_RA_uq {U : State} {a b : ClassId} {ty : FieldType} (h1 : va_RA U a ty) (h2 : va_RA U b ty) : a = b := by
  cases ty <;> first
    | (obtain ⟨_, _, _, _, _, p⟩ := h1; obtain ⟨_, _, _, _, _, q⟩ := h2; exact Option.some.inj (p.symm.trans q))
    | exact Option.some.inj (Eq.trans (Eq.symm h1) h2)
section
variable {γ : jγ} {l : Launch} {x : jE} {ws : va_W} {lv : List (Option Value)} {st : List Value} {cs sl pc : Nat}
variable {rm : Room} {cc : ByteArray} {own : String} {ret : Option FieldType}
theorem J.newa (g : jG γ x rm cc own ret) {atype : ArrayType} {ty : FieldType} {n : Int32} {N i : Nat} {cA0 : ClassId} {a0 : vp_A} (hd : decode cc pc = .ok (.newarray atype, 2)) (harr : Cond.arrayClass (newarray.typeOf atype) ∈ jTT) (hty : newarray.typeOf atype = ty) (hi : (jT γ)[i]? = some (cA0, ty)) (ha : ∀ cA : ClassId, vp_cell cA a0 = arrV cA N (fun _ => defaultValue ty)) (hn : ¬ n < 0) (hN : n.toNatClampNeg = N) (hbytes : N * componentBytes ty ≤ 536870912) (hcells : cs + 1 ≤ rm.cells) (hslots : sl + N ≤ rm.slots) (k : ∀ q : Nat, J γ l x (ws ++ [(q, .inl (cA0, a0))]) lv (.ref q :: st) (cs + 1) (sl + N) (pc + 2)) : J γ l x ws lv (.int n :: st) cs sl pc := by
  obtain ⟨g1, g2, g3, g4, g5, g6, g7, g8, g9, g10, g11⟩ := g
  intro H locs ls hP hD hS hl
  refine va_newa g1 g2 (g5 _ harr) hty g6 hP hD hS g9 ha hn hN hbytes (by rw [g10]; exact hcells) (by rw [g10]; exact hslots) hd fun q cA H1 h0 h1 h2 h3 => ?_
  have e1 := (h0.2 (jT γ).length (cA, ty) (by rw [List.getElem?_append_right (Nat.le_refl _), Nat.sub_self]; rfl)).2
  have e2 := (g6.2 i (cA0, ty) hi).2
  have e3 : cA = cA0 := va_RA_uq e1 e2
  subst e3
  exact k q H1 locs ls h1 h2 h3 hl
end
section
variable {γ : jγ} {l : Launch} {x : jE} {ws : va_W} {lv : List (Option Value)} {st : List Value} {cs sl pc : Nat}
variable {rm : Room} {cc : ByteArray} {own : String} {ret : Option FieldType}
theorem J.newq (g : jG γ x rm cc own ret) {C : String} {index : Nat} {n : Int32} {N i : Nat} {cA0 : ClassId} (hd : decode cc pc = .ok (.anewarray index, 3)) (hcl : Cond.classLink own index C ∈ jTT) (hov : Cond.arrayOver (.object C) ∈ jTT) (hi : (jT γ)[i]? = some (cA0, .object C)) (hn : ¬ n < 0) (hN : n.toNatClampNeg = N) (hbytes : N * 4 ≤ 536870912) (hcells : cs + 1 ≤ rm.cells) (hslots : sl + N ≤ rm.slots) (k : ∀ q : Nat, J γ l x (ws ++ [(q, .inl (cA0, N, .inr (.inr (.inr (.inr (fun _ => none))))))]) lv (.ref q :: st) (cs + 1) (sl + N) (pc + 3)) : J γ l x ws lv (.int n :: st) cs sl pc := by
  obtain ⟨g1, g2, g3, g4, g5, g6, g7, g8, g9, g10, g11⟩ := g
  intro H locs ls hP hD hS hl
  refine va_newq g1 g2 g4 (g5 _ hcl) (va_AO.of (g5 _ hov)) g6 hP hD hS g9 hn hN hbytes (by rw [g10]; exact hcells) (by rw [g10]; exact hslots) hd fun q cA H1 h0 h1 h2 h3 => ?_
  have e1 := (h0.2 (jT γ).length (cA, .object C) (by rw [List.getElem?_append_right (Nat.le_refl _), Nat.sub_self]; rfl)).2
  have e2 := (g6.2 i (cA0, .object C) hi).2
  have e3 : cA = cA0 := va_RA_uq e1 e2
  subst e3
  exact k q H1 locs ls h1 h2 h3 hl
end
section
variable {γ : jγ} {l : Launch} {x : jE} {ws : va_W} {lv : List (Option Value)} {st : List Value} {cs sl pc : Nat}
variable {rm : Room} {cc : ByteArray} {own : String} {ret : Option FieldType}
theorem J.objInit (g : jG γ x rm cc own ret) {ix a : Nat} (hd : decode cc pc = .ok (.invokespecial ix, 3)) (h1 : Cond.methodLink own ix Lib.objectInit ∈ jTT) (h2 : Cond.instanceMethod Lib.objectInit ∈ jTT) (h3 : Cond.code Lib.objectInit ⟨#[0xb1]⟩ 1 none ∈ jTT) (hst : (st.map fun v => v.category).sum ≤ 8) (hR : 1 ≤ rm.frames ∧ 20 ≤ rm.locals) (k : J γ l x ws lv st cs sl (pc + 3)) : J γ l x ws lv (.ref a :: st) cs sl pc := by
  obtain ⟨g1, g2, g3, g4, g5, g6, g7, g8, g9, g10, g11⟩ := g
  intro H locs ls hP hD hS hl
  have hr := lv_room (m := jm x) (pc := pc) (ls := ls) (rest := .ref a :: st) (st := st) hst
  refine W.objInit g1 g2 g4 (g5 _ h1) (g5 _ h2) (g5 _ h3) rfl (hl.2.1.trans g3.symm) rfl hd (by rw [g10]; exact hR.1) (by rw [g10]; omega) ?_
  exact k H locs ls hP hD hS hl
end
