/-! the law's start: classes, rows' classes, texts, statics -/
theorem st_cls {args : Array Value} {s : State} (hin : ∀ w ∈ jTT, w.before args s = true) : ∃ D : va_G, ∀ (c : Nat) (q : vw_C), vwCl[c]? = some q → u_Kn s q.1 q.2.1 q.2.2 (D.1 c) (D.2 c) := by
  obtain ⟨c0, i0, h0⟩ := u_known hin jX0.2.1 (hin _ jis_X0)
  obtain ⟨c1, i1, h1⟩ := u_known hin jX1.2.1 (hin _ jis_X1)
  obtain ⟨c2, i2, h2⟩ := u_known hin jX2.2.1 (hin _ jis_X2)
  obtain ⟨c3, i3, h3⟩ := u_known hin jX3.2.1 (hin _ jis_X3)
  obtain ⟨c4, i4, h4⟩ := u_known hin jX4.2.1 (hin _ jis_X4)
  obtain ⟨c5, i5, h5⟩ := u_known hin jX5.2.1 (hin _ jis_X5)
  obtain ⟨c6, i6, h6⟩ := u_known hin jX6.2.1 (hin _ jis_X6)
  obtain ⟨c7, i7, h7⟩ := u_known hin jX7.2.1 (hin _ jis_X7)
  obtain ⟨c8, i8, h8⟩ := u_known hin jX8.2.1 (hin _ jis_X8)
  obtain ⟨c9, i9, h9⟩ := u_known hin jX9.2.1 (hin _ jis_X9)
  obtain ⟨c10, i10, h10⟩ := u_known hin jX10.2.1 (hin _ jis_X10)
  obtain ⟨c11, i11, h11⟩ := u_known hin jX11.2.1 (hin _ jis_X11)
  refine ⟨(fun k => [c0, c1, c2, c3, c4, c5, c6, c7, c8, c9, c10, c11].getD k 0, fun k => [i0, i1, i2, i3, i4, i5, i6, i7, i8, i9, i10, i11].getD k (fun _ => 0)), fun k q hq => ?_⟩
  match k, hq with
  | 0, hq => cases hq; exact h0
  | 1, hq => cases hq; exact h1
  | 2, hq => cases hq; exact h2
  | 3, hq => cases hq; exact h3
  | 4, hq => cases hq; exact h4
  | 5, hq => cases hq; exact h5
  | 6, hq => cases hq; exact h6
  | 7, hq => cases hq; exact h7
  | 8, hq => cases hq; exact h8
  | 9, hq => cases hq; exact h9
  | 10, hq => cases hq; exact h10
  | 11, hq => cases hq; exact h11
  | k + 12, hq => simp [vwCl] at hq
def jTm (i : Nat) : Term := match i with
  | 0 => .string "NoughtSums$Reader" 122
  | 1 => .string "NoughtSums$Reader" 128
  | 2 => .string "NoughtSums$Reader" 130
  | _ => .string "NoughtSums" 168
set_option maxRecDepth 100000 in
theorem st_str {args : Array Value} {s : State} {A : Nat → Prop} (hgv : (Jvm.Cond.and given_1 narrow_1).before args s = true) (hA : ∀ a : Nat, a < s.heap.size → ¬ A a) : ∃ adK adV : Nat → Nat, vk_S 4 (jKb.map List.length) jKb adK adV A s s.heap ∧ ∀ i : Nat, i < 4 → (jTm i).eval args s none [] s = some (.ref (adK i)) := by
  have hs := flat_of_before _ hgv
  have c4 : ∀ i : Nat, i < 4 → i = 0 ∨ i = 1 ∨ i = 2 ∨ i = 3 := fun i hi => by omega
  refine vk_Sof (tm := jTm) (fun i hi => ?_) (fun i hi => ?_) (fun i hi => ?_) (fun i hi => ?_) (fun i hi => ?_) (fun i hi j hj => ?_) (fun i j hi hj hij => ?_) hA
  · rcases c4 i hi with rfl | rfl | rfl | rfl <;> decide
  · rcases c4 i hi with rfl | rfl | rfl | rfl <;> exact hs _ (by decide +kernel)
  · rcases c4 i hi with rfl | rfl | rfl | rfl <;> exact hs _ (by decide +kernel)
  · rcases c4 i hi with rfl | rfl | rfl | rfl <;> exact hs _ (by decide +kernel)
  · rcases c4 i hi with rfl | rfl | rfl | rfl <;> exact hs _ (by decide +kernel)
  · rcases c4 i hi with rfl | rfl | rfl | rfl
    · have hj : j < 5 := hj
      rcases (show j = 0 ∨ j = 1 ∨ j = 2 ∨ j = 3 ∨ j = 4 by omega) with rfl | rfl | rfl | rfl | rfl <;> exact hs _ (by decide +kernel)
    · have hj : j < 3 := hj
      rcases (show j = 0 ∨ j = 1 ∨ j = 2 by omega) with rfl | rfl | rfl <;> exact hs _ (by decide +kernel)
    · have hj : j < 5 := hj
      rcases (show j = 0 ∨ j = 1 ∨ j = 2 ∨ j = 3 ∨ j = 4 by omega) with rfl | rfl | rfl | rfl | rfl <;> exact hs _ (by decide +kernel)
    · have hj : j < 15 := hj
      rcases (show j = 0 ∨ j = 1 ∨ j = 2 ∨ j = 3 ∨ j = 4 ∨ j = 5 ∨ j = 6 ∨ j = 7 ∨ j = 8 ∨ j = 9 ∨ j = 10 ∨ j = 11 ∨ j = 12 ∨ j = 13 ∨ j = 14 by omega) with rfl | rfl | rfl | rfl | rfl | rfl | rfl | rfl | rfl | rfl | rfl | rfl | rfl | rfl | rfl <;> exact hs _ (by decide +kernel)
  · rcases c4 i hi with rfl | rfl | rfl | rfl <;> rcases c4 j hj with rfl | rfl | rfl | rfl <;> first
      | exact absurd rfl hij
      | exact Or.inl (hs _ (by decide +kernel))
      | exact Or.inr (hs _ (by decide +kernel))
/-- rows of int rows: their class, and that of their elements -/
theorem st_over {args : Array Value} {s : State} (h : (Cond.arrayOver (.array .int)).before args s = true) : ∃ (c0 c : ClassId) (k : Class), s.vm.findClass (FieldType.array .int).toString = some c0 ∧ s.vm.classes[c]? = some k ∧ k.kind = .array c0 (.array .int) ∧ s.vm.findClass ("[" ++ (FieldType.array .int).toString) = some c := by
  simp only [Cond.before, Cond.holds, Cond.value, beq_iff_eq] at h
  cases hc : s.vm.findClass (FieldType.array .int).toString with
  | none => simp [hc] at h
  | some c0 =>
    simp only [hc, Option.bind_some, Option.bind_eq_some_iff, Option.map_eq_some_iff] at h
    obtain ⟨c, hi, k, hk, hb⟩ := h
    obtain ⟨hlt, hp, -⟩ := Array.findIdx?_eq_some_iff_getElem.mp hi
    have hkk : s.vm.classes[c] = k := (Array.getElem?_eq_some_iff.mp hk).2
    rw [hkk] at hp
    cases hkind : k.kind with
    | array component ty =>
      rw [hkind] at hb hp
      simp at hb hp
      exact ⟨c0, c, k, rfl, hk, by rw [hkind, hp, hb.1], hb.2⟩
    | _ => rw [hkind] at hb; simp at hb
theorem st_arr {s : State} {c : ClassId} {k : Class} {comp : ClassId} {ty : FieldType} (h1 : s.vm.classes[c]? = some k) (h2 : k.kind = .array comp ty) : ArrOfT s c ty := fun _ _ => ⟨(fun _ h => by cases h), k, h1, comp, h2⟩
theorem jNL_in : jNL.all (fun q => decide (Cond.methodLinkNest q.1 q.2.1 q.2.2.1 q.2.2.2 ∈ tables_1)) = true := by decide +kernel
theorem jEB_in : jEB.all (fun w => decide (w ∈ tables_1)) = true := by decide +kernel
set_option maxHeartbeats 4000000 in
set_option maxRecDepth 100000 in
theorem st_facts {args : Array Value} {s : State} (hts : ∀ w ∈ lw_tbl, w.before args s = true) (hgv : (Jvm.Cond.and given_1 narrow_1).before args s = true) : ∃ γ : jγ, va_K γ.1 vwCl (jT γ) s ∧ jXX γ (fun q => s.heap.size ≤ q) s s.heap ∧ jZ (fun q => s.heap.size ≤ q) s s.heap := by
  have hin : ∀ w ∈ jTT, w.before args s = true := fun w hw => hts w (jTT_lw hw)
  have hA : ∀ a : Nat, a < s.heap.size → ¬ (fun q : Nat => s.heap.size ≤ q) a := fun a h => Nat.not_le.mpr h
  have hs := flat_of_before _ hgv
  obtain ⟨D, hD⟩ := st_cls hin
  obtain ⟨adK, adV, hS, hE⟩ := st_str (A := fun q : Nat => s.heap.size ≤ q) hgv hA
  obtain ⟨cI, kI, pI, fI, hI, dI⟩ := Cond.arrayClass_spec (hin _ jac_I)
  obtain ⟨cB, kB, pB, fB, hB, dB⟩ := Cond.arrayClass_spec (hin _ jac_B)
  obtain ⟨cZ, kZ, pZ, fZ, hZ, dZ⟩ := Cond.arrayClass_spec (hin _ jac_Z)
  obtain ⟨cL, kL, pL, fL, hL, dL⟩ := Cond.arrayClass_spec (hin _ jac_L)
  have wR := hts (Cond.arrayOver (.object "NoughtSums$Row")) (List.mem_append_right _ (List.mem_of_getElem? (i := 136) (by decide +kernel)))
  have wM := hts (Cond.arrayOver (.object "NoughtSums$Image")) (List.mem_append_right _ (List.mem_of_getElem? (i := 149) (by decide +kernel)))
  obtain ⟨p2, c2, k2, f2, h2, d2, n2⟩ := st_over (hts (Cond.arrayOver (.array .int)) (List.mem_append_right _ (List.mem_of_getElem? (i := 174) (by decide +kernel))))
  obtain ⟨pR, cR, kR, fR, -, hR, dR, nR⟩ := Cond.arrayOver_spec wR
  obtain ⟨pM, cM, kM, fM, -, hM, dM, nM⟩ := Cond.arrayOver_spec wM
  have e2 : p2 = cI := Option.some.inj (f2.symm.trans fI)
  subst e2
  have hZU := vx_Zqof (A := fun q : Nat => s.heap.size ≤ q) (hts (Cond.laysStatic Bundle.tN "UNASSIGNED_STACK" Bundle.steD) (List.mem_append_right _ (List.mem_of_getElem? (i := 979) (by decide +kernel)))) (hts (Cond.initialized Bundle.tN) (List.mem_append_right _ (List.mem_of_getElem? (i := 18) (by decide +kernel)))) (hs _ (by decide +kernel)) hA
  have hZN := vx_Zqof (A := fun q : Nat => s.heap.size ≤ q) (hts (Cond.laysStatic Bundle.tN "SUPPRESSED_SENTINEL" Bundle.listD) (List.mem_append_right _ (List.mem_of_getElem? (i := 981) (by decide +kernel)))) (hts (Cond.initialized Bundle.tN) (List.mem_append_right _ (List.mem_of_getElem? (i := 18) (by decide +kernel)))) (hs _ (by decide +kernel)) hA
  have hCS := va_Zof (A := fun q : Nat => s.heap.size ≤ q) (hts (Cond.laysStatic "java/lang/String" "COMPACT_STRINGS" "Z") (List.mem_append_right _ (List.mem_of_getElem? (i := 363) (by decide +kernel)))) (hts (Cond.initialized "java/lang/String") (List.mem_append_right _ (List.mem_of_getElem? (i := 14) (by decide +kernel)))) (va_eqt (z := 1) (hs _ (by decide +kernel))) hA
  have hPF := va_Zqof (A := fun q : Nat => s.heap.size ≤ q) (hts (Cond.laysStatic "jdk/internal/util/Preconditions" "SIOOBE_FORMATTER" "Ljava/util/function/BiFunction;") (List.mem_append_right _ (List.mem_of_getElem? (i := 379) (by decide +kernel)))) (hts (Cond.initialized "jdk/internal/util/Preconditions") (List.mem_append_right _ (List.mem_of_getElem? (i := 16) (by decide +kernel)))) (hs _ (by decide +kernel)) hA
  have eK : ∀ i, i < 4 → (fun k => if k < 7 then [p2, cB, cZ, cL, c2, cR, cM].getD k 0 else if k < 200 then adK (k - 100) else adV (k - 200)) (100 + i) = adK i := fun i hi => by
    show (if 100 + i < 7 then _ else if 100 + i < 200 then adK (100 + i - 100) else _) = adK i
    rw [if_neg (by omega), if_pos (by omega), show 100 + i - 100 = i by omega]
  have eV : ∀ i, i < 4 → (fun k => if k < 7 then [p2, cB, cZ, cL, c2, cR, cM].getD k 0 else if k < 200 then adK (k - 100) else adV (k - 200)) (200 + i) = adV i := fun i hi => by
    show (if 200 + i < 7 then _ else if 200 + i < 200 then _ else adV (200 + i - 200)) = adV i
    rw [if_neg (by omega), if_neg (by omega), show 200 + i - 200 = i by omega]
  refine ⟨(D, fun k => if k < 7 then [p2, cB, cZ, cL, c2, cR, cM].getD k 0 else if k < 200 then adK (k - 100) else adV (k - 200)), ⟨hD, fun k q hq => ?_⟩, ⟨fun q hq => ?_, ⟨va_AO.of wR, va_AO.of wM, k2, h2, d2⟩, ⟨fun i hi => ?_, fun i j hi hj h => ?_⟩, fun i q hq => ?_, hCS, ?_⟩, hZU, hZN, fun w hw => ?_⟩
  · match k, hq with
    | 0, hq => cases hq; exact ⟨st_arr hI dI, fI⟩
    | 1, hq => cases hq; exact ⟨st_arr hB dB, fB⟩
    | 2, hq => cases hq; exact ⟨st_arr hZ dZ, fZ⟩
    | 3, hq => cases hq; exact ⟨st_arr hL dL, fL⟩
    | 4, hq => cases hq; exact ⟨st_arr h2 d2, n2⟩
    | 5, hq => cases hq; exact ⟨st_arr hR dR, kR, pR, hR, dR, fR, nR⟩
    | 6, hq => cases hq; exact ⟨st_arr hM dM, kM, pM, hM, dM, fM, nM⟩
    | k + 7, hq => simp [jT] at hq
  · exact va_Nw.of rfl (hts _ (List.mem_append_right _ (of_decide_eq_true (List.all_eq_true.mp jNL_in q hq))))
  · have h9 := hS.1 i hi
    rw [← eK i hi, ← eV i hi] at h9
    exact h9
  · exact hS.2 i j hi hj ((eK i hi).symm.trans (h.trans (eK j hj)))
  · have hq4 : i < 4 := (List.getElem?_eq_some_iff.mp hq).1
    have h9 := hE i hq4
    rw [← eK i hq4] at h9
    match i, hq, h9 with
    | 0, hq, h9 => cases hq; exact vk_R.of (hts (Cond.stringRef RX5 122 "group") (List.mem_append_right _ (List.mem_of_getElem? (i := 349) (by decide +kernel)))) h9
    | 1, hq, h9 => cases hq; exact vk_R.of (hts (Cond.stringRef RX5 128 "put") (List.mem_append_right _ (List.mem_of_getElem? (i := 402) (by decide +kernel)))) h9
    | 2, hq, h9 => cases hq; exact vk_R.of (hts (Cond.stringRef RX5 130 "times") (List.mem_append_right _ (List.mem_of_getElem? (i := 403) (by decide +kernel)))) h9
    | 3, hq, h9 => cases hq; exact vk_R.of (hts (Cond.stringRef RX10 168 "no such sub-row") (List.mem_append_right _ (List.mem_of_getElem? (i := 991) (by decide +kernel)))) h9
  · rcases hPF with h | ⟨t, h⟩
    · exact ⟨.null, Or.inl rfl, h⟩
    · exact ⟨.ref t, Or.inr ⟨t, rfl⟩, h⟩
  · exact va_Nw.of (List.all_eq_true.mp jEB_on w hw) (hts w (List.mem_append_right _ (of_decide_eq_true (List.all_eq_true.mp jEB_in w hw))))
