/-! things made -/
section
variable {γ : jγ} {l : Launch} {x : jE} {ws : va_W} {lv : List (Option Value)} {st : List Value} {cs sl pc : Nat}
variable {rm : Room} {cc : ByteArray} {own : String} {ret : Option FieldType}
theorem J.new (g : jG γ x rm cc own ret) {C : String} {T : u_T} {N ci index : Nat} (ty : Nat → FieldType) (hd : decode cc pc = .ok (.new index, 3)) (hc : vwCl[ci]? = some (C, T, N)) (hin : ∀ w ∈ u_ws C T N, w ∈ jTT) (hty : ∀ k, k < N → parseFieldDescriptor (T k).2.2.1 = some (ty k)) (hcl : Cond.classLink own index C ∈ jTT) (hinst : Cond.instantiable C N ∈ jTT) (hini : Cond.initialized C ∈ jTT) {fs : List Value} (hfs : ∀ j, j < N → defaultValue (ty j) = vp_V fs j) (hcells : cs + 1 ≤ rm.cells) (hslots : sl + N ≤ rm.slots) (k : ∀ q : Nat, J γ l x (ws ++ [(q, .inr (ci, fs))]) lv (.ref q :: st) (cs + 1) (sl + N) (pc + 3)) : J γ l x ws lv st cs sl pc := by
  obtain ⟨g1, g2, g3, g4, g5, g6, g7, g8, g9, g10, g11⟩ := g
  intro H locs ls hP hD hS hl
  refine va_new (Ts := jTT) g1 g2 g5 hin ty hty g4 (g5 _ hcl) (g5 _ hinst) (g5 _ hini) g6 hP hD hS g9 hc hfs (by rw [g10]; exact hcells) (by rw [g10]; exact hslots) hd fun q H1 h1 h2 h3 => ?_
  exact k q H1 locs ls h1 h2 h3 hl
end
