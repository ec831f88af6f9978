set_option maxHeartbeats 4000000 in
set_option maxRecDepth 100000 in
theorem c_X11_atoms_yes (l : Launch) (γ : jγ) (mo mta mtd msz mto mfr mso mnu mfa mpl mro mnw mrd mkp msn mbf mlv mik msm msu mbe mfe mmy mof msf mlr mty mfm mrn mrb mln mtb : Nat) (mth mfw mse : Int32) (mwd : Int64) (cd n : Nat) (f w : Nat → Nat) (su : Nat → Nat) (be : Nat → Bool) (fe my : Nat → Int32) (i : Int32) (hw : mIs cd n f w) (hi : mIn i (nI 0) (nI 1) = true) (h0 : n ≠ 0) : jM (S := (Nat → Nat) × (Nat → Bool) × (Nat → Int32) × (Nat → Int32)) l γ yX11_atoms cX11_atoms 2 (some .int) ({ frames := 5, cells := 0, slots := 0, locals := 120 } : Room) [.ref mo, .int i] [(mo, .inr (11, [.int mth, .ref mta, .int (nI mtd), .int (nI msz), .int (nI mto), .int (nI mfr), .int (nI mso), .int (nI mnu), .int (nI mfa), .int mfw, .int (nI mpl), .int (nI mro), .long mwd, .ref mnw, .ref mrd, .ref mkp, .ref msn, .ref mbf, .ref mlv, .ref mik, .int (nI msm), .ref msu, .ref mbe, .ref mfe, .ref mmy, .ref mof, .ref msf, .ref mlr, .ref mty, .ref mfm, .ref mrn, .ref mrb, .int (nI mln), .ref mtb, .int mse])), (mnw, .inl (γ.2 0, 17, .inl (fun j => nI (w j)))), (msu, .inl (γ.2 0, 4096, .inl (fun j => nI (su j)))), (mbe, .inl (γ.2 2, 4096, .inl (fun j => jB (be j)))), (mfe, .inl (γ.2 0, 4096, .inl fe)), (mmy, .inl (γ.2 0, 4096, .inl my))] (fun u => some (.int (if i = 0 then mNo cd f n (2 ^ n - 1) (mMn cd f n (2 ^ n - 1)) else mNo cd f n (2 ^ n - 1) (mMx cd f n (2 ^ n - 1))))) (fun u => [(mo, .inr (11, [.int (nI 0), .ref mta, .int (nI mtd), .int (nI msz), .int (nI mto), .int (nI mfr), .int (nI mso), .int (nI mnu), .int (nI mfa), .int mfw, .int (nI mpl), .int (nI mro), .long mwd, .ref mnw, .ref mrd, .ref mkp, .ref msn, .ref mbf, .ref mlv, .ref mik, .int (nI msm), .ref msu, .ref mbe, .ref mfe, .ref mmy, .ref mof, .ref msf, .ref mlr, .ref mty, .ref mfm, .ref mrn, .ref mrb, .int (nI mln), .ref mtb, .int mse])), (mnw, .inl (γ.2 0, 17, .inl (fun j => nI (w j)))), (msu, .inl (γ.2 0, 4096, .inl (fun j => nI (u.1 j)))), (mbe, .inl (γ.2 2, 4096, .inl (fun j => jB (u.2.1 j)))), (mfe, .inl (γ.2 0, 4096, .inl u.2.2.1)), (mmy, .inl (γ.2 0, 4096, .inl u.2.2.2))]) (fun u => True) := by
  refine jM.of [some (.ref mo), some (.int i)] rfl (Nat.le_of_ble_eq_true rfl) (by decide) ?_
  intro x g hE hin
  have hwg := hw.g
  have hw5 := hw.2.2.2.2.2.1
  have hwf := hw.2.2.2.2.2.2
  have hw3 := hw.2.2.1
  have hpw : 2 ^ n ≤ 2 ^ 12 := Nat.pow_le_pow_right (by omega) hwg.2.2.2.2.1
  have hpp := Nat.two_pow_pos n
  refine J.aload_n g dX11_atoms_0 rfl rfl ?_
  refine J.iconstN g 0 dX11_atoms_1 ?_
  refine J.put g jX11 0 (by decide) lf_X11_1 0 rfl rfl (Nat.le_of_ble_eq_true rfl) rfl rfl dX11_atoms_2 ?_
  try dsimp only [List.set_cons_zero, List.set_cons_succ]
  refine J.iload_n g dX11_atoms_5 rfl rfl ?_
  refine J.iconstN g 0 dX11_atoms_6 ?_
  refine J.iconstN g 1 dX11_atoms_7 ?_
  refine J.callS0 g (c_X11_isIn l γ _ _ _ ) jy_X11_isIn lm_X11_157 ⟨⟨Nat.le_of_ble_eq_true rfl, Nat.le_of_ble_eq_true rfl⟩, Nat.le_of_ble_eq_true rfl, Nat.le_of_ble_eq_true rfl⟩ (Nat.le_of_ble_eq_true rfl) rfl [] rfl rfl dX11_atoms_8 ?_
  intro _ _
  dsimp only [jpush]
  refine J.if_eqB g dX11_atoms_11 (tgt := 21) (by decide) (fun c_11 => absurd c_11 (by rw [hi] at c_11; cases c_11)) (fun c_11 => ?_)
  refine J.aload_n g dX11_atoms_14 rfl rfl ?_
  refine J.callV0 g (c_X11_places l γ _ _ _ _ _ _ _ _ _ _ _ _ _ _ _ _ _ _ _ _ _ _ _ _ _ _ _ _ _ _ _ _ _ _ _ _ _ _ _ _ hw) jy_X11_places lm_X11_190 (q0 := 0) rfl jX11.1 ⟨⟨Nat.le_of_ble_eq_true rfl, Nat.le_of_ble_eq_true rfl⟩, Nat.le_of_ble_eq_true rfl, Nat.le_of_ble_eq_true rfl⟩ (Nat.le_of_ble_eq_true rfl) rfl [0, 1] rfl rfl dX11_atoms_15 ?_
  intro _ _
  dsimp only [jpush]
  refine J.if_neN g dX11_atoms_18 (tgt := 23) (by decide) (by omega) (fun c_18 => ?_) (fun c_18 => absurd c_18 (by omega))
  refine J.aload_n g dX11_atoms_23 rfl rfl ?_
  refine J.callV g (c_X11_laysAtoms l γ _ _ _ _ _ _ _ _ _ _ _ _ _ _ _ _ _ _ _ _ _ _ _ _ _ _ _ _ _ _ _ _ _ _ _ _ _ _ _ _ _ _ _ _ hw) jy_X11_laysAtoms lm_X11_243 (q0 := 0) rfl jX11.1 ⟨⟨Nat.le_of_ble_eq_true rfl, Nat.le_of_ble_eq_true rfl⟩, Nat.le_of_ble_eq_true rfl, Nat.le_of_ble_eq_true rfl⟩ (Nat.le_of_ble_eq_true rfl) rfl [0, 1, 2, 3, 4, 5] rfl (fun _ => rfl) rfl dX11_atoms_24 ?_
  intro u_24 h_24
  dsimp only [jput, List.set_cons_zero, List.set_cons_succ, Option.toList, List.append, List.cons_append, List.nil_append, List.append_nil]
  refine J.iload_n g dX11_atoms_27 rfl rfl ?_
  refine J.if_ne g dX11_atoms_28 (tgt := 43) (by decide) (fun c_28 => ?_) (fun c_28 => ?_)
  · refine J.aload_n g dX11_atoms_43 rfl rfl ?_
    refine J.get g jX11 24 (by decide) lf_X11_116 0 rfl rfl dX11_atoms_44 ?_
    refine J.aload_n g dX11_atoms_47 rfl rfl ?_
    refine J.callV0 g (c_X11_all l γ _ _ _ _ _ _ _ _ _ _ _ _ _ _ _ _ _ _ _ _ _ _ _ _ _ _ _ _ _ _ _ _ _ _ _ _ _ _ _ _ hw) jy_X11_all lm_X11_204 (q0 := 0) rfl jX11.1 ⟨⟨Nat.le_of_ble_eq_true rfl, Nat.le_of_ble_eq_true rfl⟩, Nat.le_of_ble_eq_true rfl, Nat.le_of_ble_eq_true rfl⟩ (Nat.le_of_ble_eq_true rfl) rfl [0, 1] rfl rfl dX11_atoms_48 ?_
    intro _ _
    dsimp only [jpush]
    refine J.ialdK g 5 rfl (by omega) (by decide) dX11_atoms_51 ?_
    exact J.iret g hE u_24 (by first | (rw [if_pos c_28]; exact congrArg (fun z => some (Value.int z)) (h_24.2 (2 ^ n - 1) (by omega)).1.symm) | (rw [if_neg c_28]; exact congrArg (fun z => some (Value.int z)) (h_24.2 (2 ^ n - 1) (by omega)).2.symm)) trivial rfl ⟨Nat.le_of_ble_eq_true rfl, Nat.le_of_ble_eq_true rfl⟩ dX11_atoms_52
  · refine J.aload_n g dX11_atoms_31 rfl rfl ?_
    refine J.get g jX11 23 (by decide) lf_X11_113 0 rfl rfl dX11_atoms_32 ?_
    refine J.aload_n g dX11_atoms_35 rfl rfl ?_
    refine J.callV0 g (c_X11_all l γ _ _ _ _ _ _ _ _ _ _ _ _ _ _ _ _ _ _ _ _ _ _ _ _ _ _ _ _ _ _ _ _ _ _ _ _ _ _ _ _ hw) jy_X11_all lm_X11_204 (q0 := 0) rfl jX11.1 ⟨⟨Nat.le_of_ble_eq_true rfl, Nat.le_of_ble_eq_true rfl⟩, Nat.le_of_ble_eq_true rfl, Nat.le_of_ble_eq_true rfl⟩ (Nat.le_of_ble_eq_true rfl) rfl [0, 1] rfl rfl dX11_atoms_36 ?_
    intro _ _
    dsimp only [jpush]
    refine J.ialdK g 4 rfl (by omega) (by decide) dX11_atoms_39 ?_
    refine J.goto g dX11_atoms_40 (tgt := 52) (by decide) ?_
    exact J.iret g hE u_24 (by first | (rw [if_pos c_28]; exact congrArg (fun z => some (Value.int z)) (h_24.2 (2 ^ n - 1) (by omega)).1.symm) | (rw [if_neg c_28]; exact congrArg (fun z => some (Value.int z)) (h_24.2 (2 ^ n - 1) (by omega)).2.symm)) trivial rfl ⟨Nat.le_of_ble_eq_true rfl, Nat.le_of_ble_eq_true rfl⟩ dX11_atoms_52
set_option maxHeartbeats 4000000 in
set_option maxRecDepth 100000 in
theorem c_X11_atoms_no (l : Launch) (γ : jγ) (mo mta mtd msz mto mfr mso mnu mfa mpl mro mnw mrd mkp msn mbf mlv mik msm msu mbe mfe mmy mof msf mlr mty mfm mrn mrb mln mtb : Nat) (mth mfw mse : Int32) (mwd : Int64) (cd n : Nat) (f w : Nat → Nat) (i : Int32) (hw : mIs cd n f w) (hi : mIn i (nI 0) (nI 1) = false ∨ n = 0) : jM (S := Unit) l γ yX11_atoms cX11_atoms 2 (some .int) ({ frames := 5, cells := 0, slots := 0, locals := 120 } : Room) [.ref mo, .int i] [(mo, .inr (11, [.int mth, .ref mta, .int (nI mtd), .int (nI msz), .int (nI mto), .int (nI mfr), .int (nI mso), .int (nI mnu), .int (nI mfa), .int mfw, .int (nI mpl), .int (nI mro), .long mwd, .ref mnw, .ref mrd, .ref mkp, .ref msn, .ref mbf, .ref mlv, .ref mik, .int (nI msm), .ref msu, .ref mbe, .ref mfe, .ref mmy, .ref mof, .ref msf, .ref mlr, .ref mty, .ref mfm, .ref mrn, .ref mrb, .int (nI mln), .ref mtb, .int mse])), (mnw, .inl (γ.2 0, 17, .inl (fun j => nI (w j))))] (fun w0 => some (.int (-1))) (fun w0 => [(mo, .inr (11, [.int (nI 0), .ref mta, .int (nI mtd), .int (nI msz), .int (nI mto), .int (nI mfr), .int (nI mso), .int (nI mnu), .int (nI mfa), .int mfw, .int (nI mpl), .int (nI mro), .long mwd, .ref mnw, .ref mrd, .ref mkp, .ref msn, .ref mbf, .ref mlv, .ref mik, .int (nI msm), .ref msu, .ref mbe, .ref mfe, .ref mmy, .ref mof, .ref msf, .ref mlr, .ref mty, .ref mfm, .ref mrn, .ref mrb, .int (nI mln), .ref mtb, .int mse])), (mnw, .inl (γ.2 0, 17, .inl (fun j => nI (w j))))]) (fun w0 => True) := by
  refine jM.of [some (.ref mo), some (.int i)] rfl (Nat.le_of_ble_eq_true rfl) (by decide) ?_
  intro x g hE hin
  have hwg := hw.g
  have hw5 := hw.2.2.2.2.2.1
  have hwf := hw.2.2.2.2.2.2
  have hw3 := hw.2.2.1
  refine J.aload_n g dX11_atoms_0 rfl rfl ?_
  refine J.iconstN g 0 dX11_atoms_1 ?_
  refine J.put g jX11 0 (by decide) lf_X11_1 0 rfl rfl (Nat.le_of_ble_eq_true rfl) rfl rfl dX11_atoms_2 ?_
  try dsimp only [List.set_cons_zero, List.set_cons_succ]
  refine J.iload_n g dX11_atoms_5 rfl rfl ?_
  refine J.iconstN g 0 dX11_atoms_6 ?_
  refine J.iconstN g 1 dX11_atoms_7 ?_
  refine J.callS0 g (c_X11_isIn l γ _ _ _ ) jy_X11_isIn lm_X11_157 ⟨⟨Nat.le_of_ble_eq_true rfl, Nat.le_of_ble_eq_true rfl⟩, Nat.le_of_ble_eq_true rfl, Nat.le_of_ble_eq_true rfl⟩ (Nat.le_of_ble_eq_true rfl) rfl [] rfl rfl dX11_atoms_8 ?_
  intro _ _
  dsimp only [jpush]
  refine J.if_eqB g dX11_atoms_11 (tgt := 21) (by decide) (fun c_11 => ?_) (fun c_11 => ?_)
  · refine J.iconst (v := -1) g dX11_atoms_21 (by decide) ?_
    exact J.iret g hE () rfl trivial rfl ⟨Nat.le_of_ble_eq_true rfl, Nat.le_of_ble_eq_true rfl⟩ dX11_atoms_22
  · refine J.aload_n g dX11_atoms_14 rfl rfl ?_
    refine J.callV0 g (c_X11_places l γ _ _ _ _ _ _ _ _ _ _ _ _ _ _ _ _ _ _ _ _ _ _ _ _ _ _ _ _ _ _ _ _ _ _ _ _ _ _ _ _ hw) jy_X11_places lm_X11_190 (q0 := 0) rfl jX11.1 ⟨⟨Nat.le_of_ble_eq_true rfl, Nat.le_of_ble_eq_true rfl⟩, Nat.le_of_ble_eq_true rfl, Nat.le_of_ble_eq_true rfl⟩ (Nat.le_of_ble_eq_true rfl) rfl [0, 1] rfl rfl dX11_atoms_15 ?_
    intro _ _
    dsimp only [jpush]
    refine J.if_neN g dX11_atoms_18 (tgt := 23) (by decide) (by omega) (fun c_18 => absurd c_18 (fun z => hi.elim (fun q => by rw [q] at c_11; cases c_11) z)) (fun c_18 => ?_)
    refine J.iconst (v := -1) g dX11_atoms_21 (by decide) ?_
    exact J.iret g hE () rfl trivial rfl ⟨Nat.le_of_ble_eq_true rfl, Nat.le_of_ble_eq_true rfl⟩ dX11_atoms_22
set_option maxHeartbeats 4000000 in
set_option maxRecDepth 100000 in
theorem c_X11_atom_0 (l : Launch) (γ : jγ) (mo mta mtd msz mto mfr mso mnu mfa mpl mro mnw mrd mkp msn mbf mlv mik msm msu mbe mfe mmy mof msf mlr mty mfm mrn mrb mln mtb : Nat) (mth mfw mse : Int32) (mwd : Int64) (cd n : Nat) (f w : Nat → Nat) (i : Int32) (hw : mIs cd n f w) (h0 : n = 0) : jM (S := Unit) l γ yX11_atom cX11_atom 6 (some .int) ({ frames := 5, cells := 0, slots := 0, locals := 120 } : Room) [.ref mo, .int i] [(mo, .inr (11, [.int mth, .ref mta, .int (nI mtd), .int (nI msz), .int (nI mto), .int (nI mfr), .int (nI mso), .int (nI mnu), .int (nI mfa), .int mfw, .int (nI mpl), .int (nI mro), .long mwd, .ref mnw, .ref mrd, .ref mkp, .ref msn, .ref mbf, .ref mlv, .ref mik, .int (nI msm), .ref msu, .ref mbe, .ref mfe, .ref mmy, .ref mof, .ref msf, .ref mlr, .ref mty, .ref mfm, .ref mrn, .ref mrb, .int (nI mln), .ref mtb, .int mse])), (mnw, .inl (γ.2 0, 17, .inl (fun j => nI (w j))))] (fun w0 => some (.int (-1))) (fun w0 => [(mo, .inr (11, [.int (nI 0), .ref mta, .int (nI mtd), .int (nI msz), .int (nI mto), .int (nI mfr), .int (nI mso), .int (nI mnu), .int (nI mfa), .int mfw, .int (nI mpl), .int (nI mro), .long mwd, .ref mnw, .ref mrd, .ref mkp, .ref msn, .ref mbf, .ref mlv, .ref mik, .int (nI msm), .ref msu, .ref mbe, .ref mfe, .ref mmy, .ref mof, .ref msf, .ref mlr, .ref mty, .ref mfm, .ref mrn, .ref mrb, .int (nI mln), .ref mtb, .int mse])), (mnw, .inl (γ.2 0, 17, .inl (fun j => nI (w j))))]) (fun w0 => True) := by
  refine jM.of [some (.ref mo), some (.int i), none, none, none, none] rfl (Nat.le_of_ble_eq_true rfl) (by decide) ?_
  intro x g hE hin
  have hwg := hw.g
  have hw5 := hw.2.2.2.2.2.1
  have hwf := hw.2.2.2.2.2.2
  have hw3 := hw.2.2.1
  refine J.aload_n g dX11_atom_0 rfl rfl ?_
  refine J.iconstN g 0 dX11_atom_1 ?_
  refine J.put g jX11 0 (by decide) lf_X11_1 0 rfl rfl (Nat.le_of_ble_eq_true rfl) rfl rfl dX11_atom_2 ?_
  try dsimp only [List.set_cons_zero, List.set_cons_succ]
  refine J.aload_n g dX11_atom_5 rfl rfl ?_
  refine J.callV0 g (c_X11_places l γ _ _ _ _ _ _ _ _ _ _ _ _ _ _ _ _ _ _ _ _ _ _ _ _ _ _ _ _ _ _ _ _ _ _ _ _ _ _ _ _ hw) jy_X11_places lm_X11_190 (q0 := 0) rfl jX11.1 ⟨⟨Nat.le_of_ble_eq_true rfl, Nat.le_of_ble_eq_true rfl⟩, Nat.le_of_ble_eq_true rfl, Nat.le_of_ble_eq_true rfl⟩ (Nat.le_of_ble_eq_true rfl) rfl [0, 1] rfl rfl dX11_atom_6 ?_
  intro _ _
  dsimp only [jpush]
  refine J.if_neN g dX11_atom_9 (tgt := 14) (by decide) (by omega) (fun c_9 => absurd c_9 (by omega)) (fun c_9 => ?_)
  refine J.iconst (v := -1) g dX11_atom_12 (by decide) ?_
  exact J.iret g hE () rfl trivial rfl ⟨Nat.le_of_ble_eq_true rfl, Nat.le_of_ble_eq_true rfl⟩ dX11_atom_13
set_option maxHeartbeats 4000000 in
set_option maxRecDepth 100000 in
theorem c_X11_atom_no (l : Launch) (γ : jγ) (mo mta mtd msz mto mfr mso mnu mfa mpl mro mnw mrd mkp msn mbf mlv mik msm msu mbe mfe mmy mof msf mlr mty mfm mrn mrb mln mtb : Nat) (mth mfw mse : Int32) (mwd : Int64) (cd n : Nat) (f w : Nat → Nat) (su : Nat → Nat) (be : Nat → Bool) (fe my : Nat → Int32) (i : Int32) (hw : mIs cd n f w) (h0 : n ≠ 0) (hi : ¬ (gS cd f n (2 ^ n - 1) = 0 ∧ jhas i (mMx cd f n (2 ^ n - 1)) = true)) : jM (S := (Nat → Nat) × (Nat → Bool) × (Nat → Int32) × (Nat → Int32)) l γ yX11_atom cX11_atom 6 (some .int) ({ frames := 5, cells := 0, slots := 0, locals := 120 } : Room) [.ref mo, .int i] [(mo, .inr (11, [.int mth, .ref mta, .int (nI mtd), .int (nI msz), .int (nI mto), .int (nI mfr), .int (nI mso), .int (nI mnu), .int (nI mfa), .int mfw, .int (nI mpl), .int (nI mro), .long mwd, .ref mnw, .ref mrd, .ref mkp, .ref msn, .ref mbf, .ref mlv, .ref mik, .int (nI msm), .ref msu, .ref mbe, .ref mfe, .ref mmy, .ref mof, .ref msf, .ref mlr, .ref mty, .ref mfm, .ref mrn, .ref mrb, .int (nI mln), .ref mtb, .int mse])), (mnw, .inl (γ.2 0, 17, .inl (fun j => nI (w j)))), (msu, .inl (γ.2 0, 4096, .inl (fun j => nI (su j)))), (mbe, .inl (γ.2 2, 4096, .inl (fun j => jB (be j)))), (mfe, .inl (γ.2 0, 4096, .inl fe)), (mmy, .inl (γ.2 0, 4096, .inl my))] (fun u => some (.int (-1))) (fun u => [(mo, .inr (11, [.int (nI 0), .ref mta, .int (nI mtd), .int (nI msz), .int (nI mto), .int (nI mfr), .int (nI mso), .int (nI mnu), .int (nI mfa), .int mfw, .int (nI mpl), .int (nI mro), .long mwd, .ref mnw, .ref mrd, .ref mkp, .ref msn, .ref mbf, .ref mlv, .ref mik, .int (nI msm), .ref msu, .ref mbe, .ref mfe, .ref mmy, .ref mof, .ref msf, .ref mlr, .ref mty, .ref mfm, .ref mrn, .ref mrb, .int (nI mln), .ref mtb, .int mse])), (mnw, .inl (γ.2 0, 17, .inl (fun j => nI (w j)))), (msu, .inl (γ.2 0, 4096, .inl (fun j => nI (u.1 j)))), (mbe, .inl (γ.2 2, 4096, .inl (fun j => jB (u.2.1 j)))), (mfe, .inl (γ.2 0, 4096, .inl u.2.2.1)), (mmy, .inl (γ.2 0, 4096, .inl u.2.2.2))]) (fun u => True) := by
  refine jM.of [some (.ref mo), some (.int i), none, none, none, none] rfl (Nat.le_of_ble_eq_true rfl) (by decide) ?_
  intro x g hE hin
  have hwg := hw.g
  have hw5 := hw.2.2.2.2.2.1
  have hwf := hw.2.2.2.2.2.2
  have hw3 := hw.2.2.1
  have hpw : 2 ^ n ≤ 2 ^ 12 := Nat.pow_le_pow_right (by omega) hwg.2.2.2.2.1
  have hpp := Nat.two_pow_pos n
  refine J.aload_n g dX11_atom_0 rfl rfl ?_
  refine J.iconstN g 0 dX11_atom_1 ?_
  refine J.put g jX11 0 (by decide) lf_X11_1 0 rfl rfl (Nat.le_of_ble_eq_true rfl) rfl rfl dX11_atom_2 ?_
  try dsimp only [List.set_cons_zero, List.set_cons_succ]
  refine J.aload_n g dX11_atom_5 rfl rfl ?_
  refine J.callV0 g (c_X11_places l γ _ _ _ _ _ _ _ _ _ _ _ _ _ _ _ _ _ _ _ _ _ _ _ _ _ _ _ _ _ _ _ _ _ _ _ _ _ _ _ _ hw) jy_X11_places lm_X11_190 (q0 := 0) rfl jX11.1 ⟨⟨Nat.le_of_ble_eq_true rfl, Nat.le_of_ble_eq_true rfl⟩, Nat.le_of_ble_eq_true rfl, Nat.le_of_ble_eq_true rfl⟩ (Nat.le_of_ble_eq_true rfl) rfl [0, 1] rfl rfl dX11_atom_6 ?_
  intro _ _
  dsimp only [jpush]
  refine J.if_neN g dX11_atom_9 (tgt := 14) (by decide) (by omega) (fun c_9 => ?_) (fun c_9 => absurd c_9 (by omega))
  refine J.aload_n g dX11_atom_14 rfl rfl ?_
  refine J.callV g (c_X11_laysAtoms l γ _ _ _ _ _ _ _ _ _ _ _ _ _ _ _ _ _ _ _ _ _ _ _ _ _ _ _ _ _ _ _ _ _ _ _ _ _ _ _ _ _ _ _ _ hw) jy_X11_laysAtoms lm_X11_243 (q0 := 0) rfl jX11.1 ⟨⟨Nat.le_of_ble_eq_true rfl, Nat.le_of_ble_eq_true rfl⟩, Nat.le_of_ble_eq_true rfl, Nat.le_of_ble_eq_true rfl⟩ (Nat.le_of_ble_eq_true rfl) rfl [0, 1, 2, 3, 4, 5] rfl (fun _ => rfl) rfl dX11_atom_15 ?_
  intro u_15 h_15
  dsimp only [jput, List.set_cons_zero, List.set_cons_succ, Option.toList, List.append, List.cons_append, List.nil_append, List.append_nil]
  have hal := (h_15.2 (2 ^ n - 1) (by omega)).2
  refine J.iload_n g dX11_atom_18 rfl rfl ?_
  refine J.iconstN g 0 dX11_atom_19 ?_
  refine J.aload_n g dX11_atom_20 rfl rfl ?_
  refine J.get g jX11 24 (by decide) lf_X11_116 0 rfl rfl dX11_atom_21 ?_
  refine J.aload_n g dX11_atom_24 rfl rfl ?_
  refine J.callV0 g (c_X11_all l γ _ _ _ _ _ _ _ _ _ _ _ _ _ _ _ _ _ _ _ _ _ _ _ _ _ _ _ _ _ _ _ _ _ _ _ _ _ _ _ _ hw) jy_X11_all lm_X11_204 (q0 := 0) rfl jX11.1 ⟨⟨Nat.le_of_ble_eq_true rfl, Nat.le_of_ble_eq_true rfl⟩, Nat.le_of_ble_eq_true rfl, Nat.le_of_ble_eq_true rfl⟩ (Nat.le_of_ble_eq_true rfl) rfl [0, 1] rfl rfl dX11_atom_25 ?_
  intro _ _
  dsimp only [jpush]
  refine J.ialdK g 5 rfl (by omega) (by decide) dX11_atom_28 ?_
  refine J.iconstN g 1 dX11_atom_29 ?_
  refine J.isub g dX11_atom_30 ?_
  refine J.callS0 g (c_X11_isIn l γ _ _ _ ) jy_X11_isIn lm_X11_157 ⟨⟨Nat.le_of_ble_eq_true rfl, Nat.le_of_ble_eq_true rfl⟩, Nat.le_of_ble_eq_true rfl, Nat.le_of_ble_eq_true rfl⟩ (Nat.le_of_ble_eq_true rfl) rfl [] rfl rfl dX11_atom_31 ?_
  intro _ _
  dsimp only [jpush]
  have hno : mIn i (nI 0) (u_15.2.2.2 (2 ^ n - 1) - nI 1) = false := matom_no hw.1 hwg.2.2.2.2.1 hwf hal hi
  refine J.if_neB g dX11_atom_34 (tgt := 39) (by decide) (fun c_34 => absurd c_34 (by rw [hno] at c_34; cases c_34)) (fun c_34 => ?_)
  refine J.iconst (v := -1) g dX11_atom_37 (by decide) ?_
  exact J.iret g hE u_15 rfl trivial rfl ⟨Nat.le_of_ble_eq_true rfl, Nat.le_of_ble_eq_true rfl⟩ dX11_atom_38
set_option maxHeartbeats 4000000 in
set_option maxRecDepth 100000 in
theorem c_X11_atom_yes (l : Launch) (γ : jγ) (mo mta mtd msz mto mfr mso mnu mfa mpl mro mnw mrd mkp msn mbf mlv mik msm msu mbe mfe mmy mof msf mlr mty mfm mrn mrb mln mtb : Nat) (mth mfw mse : Int32) (mwd : Int64) (cd n : Nat) (f w : Nat → Nat) (su : Nat → Nat) (be : Nat → Bool) (fe my : Nat → Int32) (i : Nat) (hw : mIs cd n f w) (h0 : n ≠ 0) (hz : gS cd f n (2 ^ n - 1) = 0) (hi : i < mMx cd f n (2 ^ n - 1)) : jM (S := (Nat → Nat) × (Nat → Bool) × (Nat → Int32) × (Nat → Int32)) l γ yX11_atom cX11_atom 6 (some .int) ({ frames := 5, cells := 0, slots := 0, locals := 120 } : Room) [.ref mo, .int (nI i)] [(mo, .inr (11, [.int mth, .ref mta, .int (nI mtd), .int (nI msz), .int (nI mto), .int (nI mfr), .int (nI mso), .int (nI mnu), .int (nI mfa), .int mfw, .int (nI mpl), .int (nI mro), .long mwd, .ref mnw, .ref mrd, .ref mkp, .ref msn, .ref mbf, .ref mlv, .ref mik, .int (nI msm), .ref msu, .ref mbe, .ref mfe, .ref mmy, .ref mof, .ref msf, .ref mlr, .ref mty, .ref mfm, .ref mrn, .ref mrb, .int (nI mln), .ref mtb, .int mse])), (mnw, .inl (γ.2 0, 17, .inl (fun j => nI (w j)))), (msu, .inl (γ.2 0, 4096, .inl (fun j => nI (su j)))), (mbe, .inl (γ.2 2, 4096, .inl (fun j => jB (be j)))), (mfe, .inl (γ.2 0, 4096, .inl fe)), (mmy, .inl (γ.2 0, 4096, .inl my))] (fun u => some (.int (nI (cA cd f n (i + 1))))) (fun u => [(mo, .inr (11, [.int (nI 0), .ref mta, .int (nI mtd), .int (nI msz), .int (nI mto), .int (nI mfr), .int (nI mso), .int (nI mnu), .int (nI mfa), .int mfw, .int (nI mpl), .int (nI mro), .long mwd, .ref mnw, .ref mrd, .ref mkp, .ref msn, .ref mbf, .ref mlv, .ref mik, .int (nI msm), .ref msu, .ref mbe, .ref mfe, .ref mmy, .ref mof, .ref msf, .ref mlr, .ref mty, .ref mfm, .ref mrn, .ref mrb, .int (nI mln), .ref mtb, .int mse])), (mnw, .inl (γ.2 0, 17, .inl (fun j => nI (w j)))), (msu, .inl (γ.2 0, 4096, .inl (fun j => nI (u.1 j)))), (mbe, .inl (γ.2 2, 4096, .inl (fun j => jB (u.2.1 j)))), (mfe, .inl (γ.2 0, 4096, .inl u.2.2.1)), (mmy, .inl (γ.2 0, 4096, .inl u.2.2.2))]) (fun u => True) := by
  refine jM.of [some (.ref mo), some (.int (nI i)), none, none, none, none] rfl (Nat.le_of_ble_eq_true rfl) (by decide) ?_
  intro x g hE hin
  have hwg := hw.g
  have hw5 := hw.2.2.2.2.2.1
  have hwf := hw.2.2.2.2.2.2
  have hw3 := hw.2.2.1
  have hpw : 2 ^ n ≤ 2 ^ 12 := Nat.pow_le_pow_right (by omega) hwg.2.2.2.2.1
  have hpp := Nat.two_pow_pos n
  have hmx := mMx_ok hw.1 hwg.2.2.2.2.1 hwf (s := (2 ^ n - 1)) (by omega) hz
  have hmx2 := hmx.2.2
  have hg0 : 0 < god cd := by have := hwf 0 (by omega); omega
  refine J.aload_n g dX11_atom_0 rfl rfl ?_
  refine J.iconstN g 0 dX11_atom_1 ?_
  refine J.put g jX11 0 (by decide) lf_X11_1 0 rfl rfl (Nat.le_of_ble_eq_true rfl) rfl rfl dX11_atom_2 ?_
  try dsimp only [List.set_cons_zero, List.set_cons_succ]
  refine J.aload_n g dX11_atom_5 rfl rfl ?_
  refine J.callV0 g (c_X11_places l γ _ _ _ _ _ _ _ _ _ _ _ _ _ _ _ _ _ _ _ _ _ _ _ _ _ _ _ _ _ _ _ _ _ _ _ _ _ _ _ _ hw) jy_X11_places lm_X11_190 (q0 := 0) rfl jX11.1 ⟨⟨Nat.le_of_ble_eq_true rfl, Nat.le_of_ble_eq_true rfl⟩, Nat.le_of_ble_eq_true rfl, Nat.le_of_ble_eq_true rfl⟩ (Nat.le_of_ble_eq_true rfl) rfl [0, 1] rfl rfl dX11_atom_6 ?_
  intro _ _
  dsimp only [jpush]
  refine J.if_neN g dX11_atom_9 (tgt := 14) (by decide) (by omega) (fun c_9 => ?_) (fun c_9 => absurd c_9 (by omega))
  refine J.aload_n g dX11_atom_14 rfl rfl ?_
  refine J.callV g (c_X11_laysAtoms l γ _ _ _ _ _ _ _ _ _ _ _ _ _ _ _ _ _ _ _ _ _ _ _ _ _ _ _ _ _ _ _ _ _ _ _ _ _ _ _ _ _ _ _ _ hw) jy_X11_laysAtoms lm_X11_243 (q0 := 0) rfl jX11.1 ⟨⟨Nat.le_of_ble_eq_true rfl, Nat.le_of_ble_eq_true rfl⟩, Nat.le_of_ble_eq_true rfl, Nat.le_of_ble_eq_true rfl⟩ (Nat.le_of_ble_eq_true rfl) rfl [0, 1, 2, 3, 4, 5] rfl (fun _ => rfl) rfl dX11_atom_15 ?_
  intro u_15 h_15
  dsimp only [jput, List.set_cons_zero, List.set_cons_succ, Option.toList, List.append, List.cons_append, List.nil_append, List.append_nil]
  have hal : u_15.2.2.2 (2 ^ n - 1) = nI (mMx cd f n (2 ^ n - 1)) := by rw [(h_15.2 (2 ^ n - 1) (by omega)).2, mNo, if_pos hz]
  refine J.iload_n g dX11_atom_18 rfl rfl ?_
  refine J.iconstN g 0 dX11_atom_19 ?_
  refine J.aload_n g dX11_atom_20 rfl rfl ?_
  refine J.get g jX11 24 (by decide) lf_X11_116 0 rfl rfl dX11_atom_21 ?_
  refine J.aload_n g dX11_atom_24 rfl rfl ?_
  refine J.callV0 g (c_X11_all l γ _ _ _ _ _ _ _ _ _ _ _ _ _ _ _ _ _ _ _ _ _ _ _ _ _ _ _ _ _ _ _ _ _ _ _ _ _ _ _ _ hw) jy_X11_all lm_X11_204 (q0 := 0) rfl jX11.1 ⟨⟨Nat.le_of_ble_eq_true rfl, Nat.le_of_ble_eq_true rfl⟩, Nat.le_of_ble_eq_true rfl, Nat.le_of_ble_eq_true rfl⟩ (Nat.le_of_ble_eq_true rfl) rfl [0, 1] rfl rfl dX11_atom_25 ?_
  intro _ _
  dsimp only [jpush]
  refine J.ialdK g 5 rfl (by omega) (by decide) dX11_atom_28 ?_
  refine J.iconstN g 1 dX11_atom_29 ?_
  refine J.isub g dX11_atom_30 ?_
  refine J.callS0 g (c_X11_isIn l γ _ _ _ ) jy_X11_isIn lm_X11_157 ⟨⟨Nat.le_of_ble_eq_true rfl, Nat.le_of_ble_eq_true rfl⟩, Nat.le_of_ble_eq_true rfl, Nat.le_of_ble_eq_true rfl⟩ (Nat.le_of_ble_eq_true rfl) rfl [] rfl rfl dX11_atom_31 ?_
  intro _ _
  dsimp only [jpush]
  have hno : mIn (nI i) (nI 0) (u_15.2.2.2 (2 ^ n - 1) - nI 1) = true := by rw [hal, j_subm, mIn_has (by omega), jhas_n _ (by omega), decide_eq_true hi]
  refine J.if_neB g dX11_atom_34 (tgt := 39) (by decide) (fun c_34 => ?_) (fun c_34 => absurd c_34 (by rw [hno] at c_34; cases c_34))
  refine J.aload_n g dX11_atom_39 rfl rfl ?_
  refine J.callV0 g (c_X11_all l γ _ _ _ _ _ _ _ _ _ _ _ _ _ _ _ _ _ _ _ _ _ _ _ _ _ _ _ _ _ _ _ _ _ _ _ _ _ _ _ _ hw) jy_X11_all lm_X11_204 (q0 := 0) rfl jX11.1 ⟨⟨Nat.le_of_ble_eq_true rfl, Nat.le_of_ble_eq_true rfl⟩, Nat.le_of_ble_eq_true rfl, Nat.le_of_ble_eq_true rfl⟩ (Nat.le_of_ble_eq_true rfl) rfl [0, 1] rfl rfl dX11_atom_40 ?_
  intro _ _
  dsimp only [jpush]
  refine J.istore_n g dX11_atom_43 rfl rfl rfl ?_
  try dsimp only [List.set_cons_zero, List.set_cons_succ]
  refine J.iconstN g 0 dX11_atom_44 ?_
  refine J.istore_n g dX11_atom_45 rfl rfl rfl ?_
  try dsimp only [List.set_cons_zero, List.set_cons_succ]
  refine J.iconstN g 0 dX11_atom_46 ?_
  refine J.istore g dX11_atom_47 rfl rfl ?_
  try dsimp only [List.set_cons_zero, List.set_cons_succ]
  have lp : ∀ (d : Nat) (k : Nat), i + 1 - k < d → (k ≤ i + 1) → J γ l x [(mo, .inr (11, [.int (nI 0), .ref mta, .int (nI mtd), .int (nI msz), .int (nI mto), .int (nI mfr), .int (nI mso), .int (nI mnu), .int (nI mfa), .int mfw, .int (nI mpl), .int (nI mro), .long mwd, .ref mnw, .ref mrd, .ref mkp, .ref msn, .ref mbf, .ref mlv, .ref mik, .int (nI msm), .ref msu, .ref mbe, .ref mfe, .ref mmy, .ref mof, .ref msf, .ref mlr, .ref mty, .ref mfm, .ref mrn, .ref mrb, .int (nI mln), .ref mtb, .int mse])), (mnw, .inl (γ.2 0, 17, .inl (fun j => nI (w j)))), (msu, .inl (γ.2 0, 4096, .inl (fun j => nI (u_15.1 j)))), (mbe, .inl (γ.2 2, 4096, .inl (fun j => jB (u_15.2.1 j)))), (mfe, .inl (γ.2 0, 4096, .inl u_15.2.2.1)), (mmy, .inl (γ.2 0, 4096, .inl u_15.2.2.2))] [some (.ref mo), some (.int (nI i)), some (.int (nI (cL cd f n k))), some (.int (nI (cA cd f n k))), some (.int (nI k)), none] [] 0 0 49 := by
    intro d
    induction d with
    | zero => intro k hm; exact absurd hm (Nat.not_lt_zero _)
    | succ d ih_lp =>
      intro k hm hk
      refine J.iload g dX11_atom_49 rfl ?_
      refine J.iload_n g dX11_atom_51 rfl rfl ?_
      refine J.icmp_gtN g dX11_atom_52 (tgt := 126) (by decide) (by omega) (by omega) (fun c_52 => ?_) (fun c_52 => ?_)
      · refine J.iload_n g dX11_atom_126 rfl rfl ?_
        exact J.iret g hE u_15 (by rw [show i + 1 = k by omega]) trivial rfl ⟨Nat.le_of_ble_eq_true rfl, Nat.le_of_ble_eq_true rfl⟩ dX11_atom_127
      · obtain ⟨hl1, hl2, hl3⟩ := cL_ok hw.1 hwg.2.2.2.2.1 hwf hz k (by omega)
        have hl0 : (cL cd f n k) ≠ 0 := fun z => by have h4 := (mMx_ok hw.1 hwg.2.2.2.2.1 hwf hl1 hl2).1; rw [z] at h4; have := pT_0 h4; rw [z] at hl3; omega
        obtain ⟨hI1, hI2⟩ := cI_ok hw.1 hwg.2.2.2.2.1 hwf hl1 hl0 hl2
        have hlw := mlw_ok (s := (cL cd f n k)) (by omega) hl0
        have hIl := sub_le hI1.1
        have hGl : u_15.2.2.2 (cL cd f n k) = nI (mMx cd f n (cL cd f n k)) := by rw [(h_15.2 _ hl1).2, mNo, if_pos hl2]
        have hlp : 2 ^ mlw (cL cd f n k) 12 0 ≤ cI cd f n (cL cd f n k) := Nat.ge_two_pow_of_testBit hI1.2.1
        have hmL := (mMx_ok hw.1 hwg.2.2.2.2.1 hwf hl1 hl2).2.2
        refine J.iload_n g dX11_atom_55 rfl rfl ?_
        refine J.iload_n g dX11_atom_56 rfl rfl ?_
        refine J.ineg g dX11_atom_57 ?_
        refine J.iand' g dX11_atom_58 (j_low (by omega)) ?_
        rw [jlow_pow (by omega) hl0]
        refine J.istore g dX11_atom_59 rfl rfl ?_
        try dsimp only [List.set_cons_zero, List.set_cons_succ]
        refine J.iload g dX11_atom_61 rfl ?_
        refine J.istore_n g dX11_atom_63 rfl rfl rfl ?_
        try dsimp only [List.set_cons_zero, List.set_cons_succ]
        have lq : ∀ (d : Nat) (s9 : Nat), cI cd f n (cL cd f n k) + 1 - s9 < d → (2 ^ mlw (cL cd f n k) 12 0 ≤ s9 ∧ s9 ≤ cI cd f n (cL cd f n k)) → J γ l x [(mo, .inr (11, [.int (nI 0), .ref mta, .int (nI mtd), .int (nI msz), .int (nI mto), .int (nI mfr), .int (nI mso), .int (nI mnu), .int (nI mfa), .int mfw, .int (nI mpl), .int (nI mro), .long mwd, .ref mnw, .ref mrd, .ref mkp, .ref msn, .ref mbf, .ref mlv, .ref mik, .int (nI msm), .ref msu, .ref mbe, .ref mfe, .ref mmy, .ref mof, .ref msf, .ref mlr, .ref mty, .ref mfm, .ref mrn, .ref mrb, .int (nI mln), .ref mtb, .int mse])), (mnw, .inl (γ.2 0, 17, .inl (fun j => nI (w j)))), (msu, .inl (γ.2 0, 4096, .inl (fun j => nI (u_15.1 j)))), (mbe, .inl (γ.2 2, 4096, .inl (fun j => jB (u_15.2.1 j)))), (mfe, .inl (γ.2 0, 4096, .inl u_15.2.2.1)), (mmy, .inl (γ.2 0, 4096, .inl u_15.2.2.2))] [some (.ref mo), some (.int (nI i)), some (.int (nI (cL cd f n k))), some (.int (nI s9)), some (.int (nI k)), some (.int (nI (2 ^ mlw (cL cd f n k) 12 0)))] [] 0 0 64 := by
          intro d
          induction d with
          | zero => intro s9 hm; exact absurd hm (Nat.not_lt_zero _)
          | succ d ih_lq =>
            intro s9 hm h9s
            refine J.iload_n g dX11_atom_64 rfl rfl ?_
            refine J.iload_n g dX11_atom_65 rfl rfl ?_
            refine J.iconst (v := -1) g dX11_atom_66 (by decide) ?_
            refine J.ixor g dX11_atom_67 ?_
            refine J.iand' g dX11_atom_68 (j_andn _ _) ?_
            refine J.if_neN g dX11_atom_69 (tgt := 108) (by decide) (by have := jxx_lt (a := s9) (b := s9 &&& (cL cd f n k)) (by omega) (Nat.lt_of_le_of_lt Nat.and_le_left (by omega)); omega) (fun c_69 => ?_) (fun c_69 => ?_)
            · have hne : s9 ≠ cI cd f n (cL cd f n k) := fun z => c_69 (xand_0.mpr (by rw [z]; exact hI1.1))
              refine J.iincN g 1 dX11_atom_108 rfl rfl ?_
              try dsimp only [List.set_cons_zero, List.set_cons_succ]
              refine J.goto g dX11_atom_111 (tgt := 64) (by decide) ?_
              exact J.lvle (jle_s (jle_s (jle_s (jle_s (jle_s (jle_s jle_0)))))) (ih_lq (s9 + 1) (by omega) (by omega))
            · have hsb : s9 &&& (cL cd f n k) = s9 := xand_0.mp c_69
              have hsl := sub_le hsb
              refine J.iload_n g dX11_atom_72 rfl rfl ?_
              refine J.iload g dX11_atom_73 rfl ?_
              refine J.iand' g dX11_atom_75 (j_and _ _) ?_
              refine J.if_eqN g dX11_atom_76 (tgt := 108) (by decide) (by have := @Nat.and_le_left s9 (2 ^ mlw (cL cd f n k) 12 0); omega) (fun c_76 => ?_) (fun c_76 => ?_)
              · have hne : s9 ≠ cI cd f n (cL cd f n k) := fun z => by have h9 := and_pow0.mp c_76; rw [z, hI1.2.1] at h9; cases h9
                refine J.iincN g 1 dX11_atom_108 rfl rfl ?_
                try dsimp only [List.set_cons_zero, List.set_cons_succ]
                refine J.goto g dX11_atom_111 (tgt := 64) (by decide) ?_
                exact J.lvle (jle_s (jle_s (jle_s (jle_s (jle_s (jle_s jle_0)))))) (ih_lq (s9 + 1) (by omega) (by omega))
              · have htb : s9.testBit (mlw (cL cd f n k) 12 0) = true := by (cases q : s9.testBit (mlw (cL cd f n k) 12 0) with | true => rfl | false => exact absurd (and_pow0.mpr q) c_76)
                refine J.aload_n g dX11_atom_79 rfl rfl ?_
                refine J.iload_n g dX11_atom_80 rfl rfl ?_
                refine J.callV0 g (c_X11_isAtom l γ _ _ _ _ _ _ _ _ _ _ _ _ _ _ _ _ _ _ _ _ _ _ _ _ _ _ _ _ _ _ _ _ _ _ _ _ _ _ _ _ _ _ _ hw h_15.1.1 h_15.1.2 (by omega)) jy_X11_isAtom lm_X11_237 (q0 := 0) rfl jX11.1 ⟨⟨Nat.le_of_ble_eq_true rfl, Nat.le_of_ble_eq_true rfl⟩, Nat.le_of_ble_eq_true rfl, Nat.le_of_ble_eq_true rfl⟩ (Nat.le_of_ble_eq_true rfl) rfl [0, 1, 2, 3] rfl rfl dX11_atom_81 ?_
                intro _ _
                dsimp only [jpush]
                refine J.if_eqB g dX11_atom_84 (tgt := 108) (by decide) (fun c_84 => ?_) (fun c_84 => ?_)
                · have hne : s9 ≠ cI cd f n (cL cd f n k) := fun z => jD_not.mp c_84 (by rw [z]; exact hI1.2.2.1)
                  refine J.iincN g 1 dX11_atom_108 rfl rfl ?_
                  try dsimp only [List.set_cons_zero, List.set_cons_succ]
                  refine J.goto g dX11_atom_111 (tgt := 64) (by decide) ?_
                  exact J.lvle (jle_s (jle_s (jle_s (jle_s (jle_s (jle_s jle_0)))))) (ih_lq (s9 + 1) (by omega) (by omega))
                · have hat := jD_is.mp c_84
                  have hz9 := cS_sum hw.1 hwf hg0 hl2 hsb hat.2.1
                  have hxl := xs_ne hsb hat.1
                  have hmX := (mMx_ok hw.1 hwg.2.2.2.2.1 hwf (s := (cL cd f n k) ^^^ s9) (by omega) hz9).2.2
                  have hGs : u_15.2.2.2 ((cL cd f n k) ^^^ s9) = nI (mMx cd f n ((cL cd f n k) ^^^ s9)) := by rw [(h_15.2 _ (by omega)).2, mNo, if_pos hz9]
                  refine J.aload_n g dX11_atom_87 rfl rfl ?_
                  refine J.get g jX11 24 (by decide) lf_X11_116 0 rfl rfl dX11_atom_88 ?_
                  refine J.iload_n g dX11_atom_91 rfl rfl ?_
                  refine J.iload_n g dX11_atom_92 rfl rfl ?_
                  refine J.iconst (v := -1) g dX11_atom_93 (by decide) ?_
                  refine J.ixor g dX11_atom_94 ?_
                  refine J.iand' g dX11_atom_95 (j_andn _ _) ?_
                  rw [Nat.and_comm (cL cd f n k) s9, hsb]
                  refine J.ialdK g 5 rfl (by omega) (by decide) dX11_atom_96 ?_
                  refine J.aload_n g dX11_atom_97 rfl rfl ?_
                  refine J.get g jX11 24 (by decide) lf_X11_116 0 rfl rfl dX11_atom_98 ?_
                  refine J.iload_n g dX11_atom_101 rfl rfl ?_
                  refine J.ialdK g 5 rfl (by omega) (by decide) dX11_atom_102 ?_
                  refine J.iconstN g 1 dX11_atom_103 ?_
                  refine J.isub g dX11_atom_104 ?_
                  rw [hGs, hGl, nI_subk (show 1 ≤ mMx cd f n (cL cd f n k) by omega)]
                  refine J.icmp_eq g dX11_atom_105 (tgt := 114) (by decide) (fun c_105 => ?_) (fun c_105 => ?_)
                  · have hcs : cS cd f n (cL cd f n k) s9 := ⟨hsb, htb, hat, by have h9 := nI_inj (by omega) (by omega) c_105; omega⟩
                    have hse : s9 = cI cd f n (cL cd f n k) := Nat.le_antisymm h9s.2 (hI2 s9 hcs)
                    subst hse
                    refine J.iload_n g dX11_atom_114 rfl rfl ?_
                    refine J.iload_n g dX11_atom_115 rfl rfl ?_
                    refine J.iconst (v := -1) g dX11_atom_116 (by decide) ?_
                    refine J.ixor g dX11_atom_117 ?_
                    refine J.iand' g dX11_atom_118 (j_andn _ _) ?_
                    rw [Nat.and_comm (cL cd f n k) (cI cd f n (cL cd f n k)), hI1.1]
                    refine J.istore_n g dX11_atom_119 rfl rfl rfl ?_
                    try dsimp only [List.set_cons_zero, List.set_cons_succ]
                    refine J.iincN g 1 dX11_atom_120 rfl rfl ?_
                    try dsimp only [List.set_cons_zero, List.set_cons_succ]
                    refine J.goto g dX11_atom_123 (tgt := 49) (by decide) ?_
                    exact J.lvle (jle_s (jle_s (jle_s (jle_s (jle_s (jle_n jle_0)))))) (ih_lp (k + 1) (by omega) (by omega))
                  · have hne : s9 ≠ cI cd f n (cL cd f n k) := fun z => c_105 (by rw [z]; have := hI1.2.2.2; congr 1; omega)
                    refine J.iincN g 1 dX11_atom_108 rfl rfl ?_
                    try dsimp only [List.set_cons_zero, List.set_cons_succ]
                    refine J.goto g dX11_atom_111 (tgt := 64) (by decide) ?_
                    exact J.lvle (jle_s (jle_s (jle_s (jle_s (jle_s (jle_s jle_0)))))) (ih_lq (s9 + 1) (by omega) (by omega))
        exact J.lvle (jle_s (jle_s (jle_s (jle_s (jle_s (jle_s jle_0)))))) (lq _ (2 ^ mlw (cL cd f n k) 12 0) (Nat.lt_succ_self _) ⟨Nat.le_refl _, hlp⟩)
  exact J.lvle (jle_s (jle_s (jle_s (jle_s (jle_s (jle_n jle_0)))))) (lp _ 0 (Nat.lt_succ_self _) (Nat.zero_le _))
