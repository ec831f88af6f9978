set_option maxHeartbeats 4000000 in
set_option maxRecDepth 100000 in
theorem c_X11_thrown (l : Launch) (γ : jγ) (mo mta mtd msz mto mfr mso mnu mfa mpl mro mnw mrd mkp msn mbf mlv mik msm msu mbe mfe mmy mof msf mlr mty mfm mrn mrb mln mtb : Nat) (mth mfw mse : Int32) (mwd : Int64)  : jM (S := Unit) l γ yX11_thrown cX11_thrown 1 (some .int) ({ frames := 0, cells := 0, slots := 0, locals := 0 } : Room) [.ref mo] [(mo, .inr (11, [.int mth, .ref mta, .int (nI mtd), .int (nI msz), .int (nI mto), .int (nI mfr), .int (nI mso), .int (nI mnu), .int (nI mfa), .int mfw, .int (nI mpl), .int (nI mro), .long mwd, .ref mnw, .ref mrd, .ref mkp, .ref msn, .ref mbf, .ref mlv, .ref mik, .int (nI msm), .ref msu, .ref mbe, .ref mfe, .ref mmy, .ref mof, .ref msf, .ref mlr, .ref mty, .ref mfm, .ref mrn, .ref mrb, .int (nI mln), .ref mtb, .int mse]))] (fun w0 => some (.int mth)) (fun w0 => [(mo, .inr (11, [.int mth, .ref mta, .int (nI mtd), .int (nI msz), .int (nI mto), .int (nI mfr), .int (nI mso), .int (nI mnu), .int (nI mfa), .int mfw, .int (nI mpl), .int (nI mro), .long mwd, .ref mnw, .ref mrd, .ref mkp, .ref msn, .ref mbf, .ref mlv, .ref mik, .int (nI msm), .ref msu, .ref mbe, .ref mfe, .ref mmy, .ref mof, .ref msf, .ref mlr, .ref mty, .ref mfm, .ref mrn, .ref mrb, .int (nI mln), .ref mtb, .int mse]))]) (fun w0 => True) := by
  refine jM.of [some (.ref mo)] rfl (Nat.le_of_ble_eq_true rfl) (by decide) ?_
  intro x g hE hin
  refine J.aload_n g dX11_thrown_0 rfl rfl ?_
  refine J.get g jX11 0 (by decide) lf_X11_1 0 rfl rfl dX11_thrown_1 ?_
  exact J.iret g hE () rfl trivial rfl ⟨Nat.le_of_ble_eq_true rfl, Nat.le_of_ble_eq_true rfl⟩ dX11_thrown_4
set_option maxHeartbeats 4000000 in
set_option maxRecDepth 100000 in
theorem c_X11_refuse (l : Launch) (γ : jγ) (mo mta mtd msz mto mfr mso mnu mfa mpl mro mnw mrd mkp msn mbf mlv mik msm msu mbe mfe mmy mof msf mlr mty mfm mrn mrb mln mtb : Nat) (mth mfw mse : Int32) (mwd : Int64)  : jM (S := Unit) l γ yX11_refuse cX11_refuse 1 (some .int) ({ frames := 0, cells := 0, slots := 0, locals := 0 } : Room) [.ref mo] [(mo, .inr (11, [.int mth, .ref mta, .int (nI mtd), .int (nI msz), .int (nI mto), .int (nI mfr), .int (nI mso), .int (nI mnu), .int (nI mfa), .int mfw, .int (nI mpl), .int (nI mro), .long mwd, .ref mnw, .ref mrd, .ref mkp, .ref msn, .ref mbf, .ref mlv, .ref mik, .int (nI msm), .ref msu, .ref mbe, .ref mfe, .ref mmy, .ref mof, .ref msf, .ref mlr, .ref mty, .ref mfm, .ref mrn, .ref mrb, .int (nI mln), .ref mtb, .int mse]))] (fun w0 => some (.int (nI 0))) (fun w0 => [(mo, .inr (11, [.int (nI 1), .ref mta, .int (nI mtd), .int (nI msz), .int (nI mto), .int (nI mfr), .int (nI mso), .int (nI mnu), .int (nI mfa), .int mfw, .int (nI mpl), .int (nI mro), .long mwd, .ref mnw, .ref mrd, .ref mkp, .ref msn, .ref mbf, .ref mlv, .ref mik, .int (nI msm), .ref msu, .ref mbe, .ref mfe, .ref mmy, .ref mof, .ref msf, .ref mlr, .ref mty, .ref mfm, .ref mrn, .ref mrb, .int (nI mln), .ref mtb, .int mse]))]) (fun w0 => True) := by
  refine jM.of [some (.ref mo)] rfl (Nat.le_of_ble_eq_true rfl) (by decide) ?_
  intro x g hE hin
  refine J.aload_n g dX11_refuse_0 rfl rfl ?_
  refine J.iconstN g 1 dX11_refuse_1 ?_
  refine J.put g jX11 0 (by decide) lf_X11_1 0 rfl rfl (Nat.le_of_ble_eq_true rfl) rfl rfl dX11_refuse_2 ?_
  try dsimp only [List.set_cons_zero, List.set_cons_succ]
  refine J.iconstN g 0 dX11_refuse_5 ?_
  exact J.iret g hE () rfl trivial rfl ⟨Nat.le_of_ble_eq_true rfl, Nat.le_of_ble_eq_true rfl⟩ dX11_refuse_6
set_option maxHeartbeats 4000000 in
set_option maxRecDepth 100000 in
theorem c_X11_isIn (l : Launch) (γ : jγ) (v a b : Int32)  : jM (S := Unit) l γ yX11_isIn cX11_isIn 3 (some .boolean) ({ frames := 0, cells := 0, slots := 0, locals := 0 } : Room) [.int v, .int a, .int b] [] (fun w0 => some (.int (jB (mIn v a b)))) (fun w0 => []) (fun w0 => True) := by
  refine jM.of [some (.int v), some (.int a), some (.int b)] rfl (Nat.le_of_ble_eq_true rfl) (by decide) ?_
  intro x g hE hin
  refine J.iload_n g dX11_isIn_0 rfl rfl ?_
  refine J.iload_n g dX11_isIn_1 rfl rfl ?_
  refine J.icmp_lt g dX11_isIn_2 (tgt := 14) (by decide) (fun c_2 => ?_) (fun c_2 => ?_)
  · refine J.iconstN g 0 dX11_isIn_14 ?_
    exact J.zret (by first | rfl | exact j_nz _) g hE () (jB_f (by simp only [mIn, decide_eq_true_eq, decide_eq_false_iff_not, Int32.lt_iff_toInt_lt] at *; omega)) trivial rfl ⟨Nat.le_of_ble_eq_true rfl, Nat.le_of_ble_eq_true rfl⟩ dX11_isIn_15
  · refine J.iload_n g dX11_isIn_5 rfl rfl ?_
    refine J.iload_n g dX11_isIn_6 rfl rfl ?_
    refine J.icmp_gt g dX11_isIn_7 (tgt := 14) (by decide) (fun c_7 => ?_) (fun c_7 => ?_)
    · refine J.iconstN g 0 dX11_isIn_14 ?_
      exact J.zret (by first | rfl | exact j_nz _) g hE () (jB_f (by simp only [mIn, decide_eq_true_eq, decide_eq_false_iff_not, Int32.lt_iff_toInt_lt] at *; omega)) trivial rfl ⟨Nat.le_of_ble_eq_true rfl, Nat.le_of_ble_eq_true rfl⟩ dX11_isIn_15
    · refine J.iconstN g 1 dX11_isIn_10 ?_
      refine J.goto g dX11_isIn_11 (tgt := 15) (by decide) ?_
      exact J.zret (by first | rfl | exact j_nz _) g hE () (jB_t (by simp only [mIn, decide_eq_true_eq, decide_eq_false_iff_not, Int32.lt_iff_toInt_lt] at *; omega)) trivial rfl ⟨Nat.le_of_ble_eq_true rfl, Nat.le_of_ble_eq_true rfl⟩ dX11_isIn_15
set_option maxHeartbeats 4000000 in
set_option maxRecDepth 100000 in
theorem c_X11_has (l : Launch) (γ : jγ) (s k : Nat) (hs : s < 2 ^ 31) (hk : k < 32) : jM (S := Unit) l γ yX11_has cX11_has 2 (some .boolean) ({ frames := 0, cells := 0, slots := 0, locals := 0 } : Room) [.int (nI s), .int (nI k)] [] (fun w0 => some (.int (jB (s.testBit k)))) (fun w0 => []) (fun w0 => True) := by
  refine jM.of [some (.int (nI s)), some (.int (nI k))] rfl (Nat.le_of_ble_eq_true rfl) (by decide) ?_
  intro x g hE hin
  refine J.iload_n g dX11_has_0 rfl rfl ?_
  refine J.iload_n g dX11_has_1 rfl rfl ?_
  refine J.ishr' g dX11_has_2 (j_shr (by omega) (by omega)) ?_
  refine J.iconstN g 1 dX11_has_3 ?_
  refine J.iand' g dX11_has_4 (j_and _ _) ?_
  refine J.iconstN g 1 dX11_has_5 ?_
  refine J.icmp_neN g dX11_has_6 (tgt := 13) (by decide) (by have := @Nat.and_le_right (s >>> k) 1; omega) (by omega) (fun c_6 => ?_) (fun c_6 => ?_)
  · refine J.iconstN g 0 dX11_has_13 ?_
    exact J.zret (by first | rfl | exact j_nz _) g hE () (jB_f (by first | exact jtb_t c_6 | exact jtb_f c_6)) trivial rfl ⟨Nat.le_of_ble_eq_true rfl, Nat.le_of_ble_eq_true rfl⟩ dX11_has_14
  · refine J.iconstN g 1 dX11_has_9 ?_
    refine J.goto g dX11_has_10 (tgt := 14) (by decide) ?_
    exact J.zret (by first | rfl | exact j_nz _) g hE () (jB_t (by first | exact jtb_t c_6 | exact jtb_f c_6)) trivial rfl ⟨Nat.le_of_ble_eq_true rfl, Nat.le_of_ble_eq_true rfl⟩ dX11_has_14
set_option maxHeartbeats 4000000 in
set_option maxRecDepth 100000 in
theorem c_X11_bits (l : Launch) (γ : jγ) (s : Nat) (hs : s < 4096) : jM (S := Unit) l γ yX11_bits cX11_bits 3 (some .int) ({ frames := 0, cells := 0, slots := 0, locals := 0 } : Room) [.int (nI s)] [] (fun w0 => some (.int (nI (jpc s 12)))) (fun w0 => []) (fun w0 => True) := by
  refine jM.of [some (.int (nI s)), none, none] rfl (Nat.le_of_ble_eq_true rfl) (by decide) ?_
  intro x g hE hin
  refine J.iconstN g 0 dX11_bits_0 ?_
  refine J.istore_n g dX11_bits_1 rfl rfl rfl ?_
  try dsimp only [List.set_cons_zero, List.set_cons_succ]
  refine J.iload_n g dX11_bits_2 rfl rfl ?_
  refine J.istore_n g dX11_bits_3 rfl rfl rfl ?_
  try dsimp only [List.set_cons_zero, List.set_cons_succ]
  have lp : ∀ (d : Nat) (t c : Nat), t < d → (t < 4096) → (jpc s 12 = jpc t 12 + c) → J γ l x [] [some (.int (nI s)), some (.int (nI c)), some (.int (nI t))] [] 0 0 4 := by
    intro d
    induction d with
    | zero => intro t c hm; exact absurd hm (Nat.not_lt_zero _)
    | succ d ih_lp =>
      intro t c hm ht hr
      refine J.iload_n g dX11_bits_4 rfl rfl ?_
      refine J.if_eqN g dX11_bits_5 (tgt := 20) (by decide) (by omega) (fun c_5 => ?_) (fun c_5 => ?_)
      · refine J.iload_n g dX11_bits_20 rfl rfl ?_
        exact J.iret g hE () (by rw [hr, c_5, show jpc 0 12 = 0 from by decide +kernel, Nat.zero_add]) trivial rfl ⟨Nat.le_of_ble_eq_true rfl, Nat.le_of_ble_eq_true rfl⟩ dX11_bits_21
      · have hlo := mlw_ok ht c_5
        have hl4 := hlo.2.2.2.1
        have hl5 := hlo.2.2.2.2
        refine J.iincN g 1 dX11_bits_8 rfl rfl ?_
        try dsimp only [List.set_cons_zero, List.set_cons_succ]
        refine J.iload_n g dX11_bits_11 rfl rfl ?_
        refine J.iload_n g dX11_bits_12 rfl rfl ?_
        refine J.iconstN g 1 dX11_bits_13 ?_
        refine J.isubN g dX11_bits_14 (by omega) ?_
        refine J.iand' g dX11_bits_15 (j_and _ _) ?_
        refine J.istore_n g dX11_bits_16 rfl rfl rfl ?_
        try dsimp only [List.set_cons_zero, List.set_cons_succ]
        refine J.goto g dX11_bits_17 (tgt := 4) (by decide) ?_
        exact J.lvle (jle_s (jle_s (jle_s jle_0))) (ih_lp (t &&& (t - 1)) (c + 1) (by omega) (by omega) (by omega))
  exact J.lvle (jle_s (jle_s (jle_s jle_0))) (lp _ s 0 (Nat.lt_succ_self _) hs rfl)
set_option maxHeartbeats 4000000 in
set_option maxRecDepth 100000 in
theorem c_X11_least (l : Launch) (γ : jγ) (s : Nat) (hs : s < 4096) (h0 : s ≠ 0) : jM (S := Unit) l γ yX11_least cX11_least 2 (some .int) ({ frames := 1, cells := 0, slots := 0, locals := 21 } : Room) [.int (nI s)] [] (fun w0 => some (.int (nI (mlw s 12 0)))) (fun w0 => []) (fun w0 => True) := by
  refine jM.of [some (.int (nI s)), none] rfl (Nat.le_of_ble_eq_true rfl) (by decide) ?_
  intro x g hE hin
  have hlo := mlw_ok hs h0
  have hlo2 := hlo.2.1
  refine J.iconstN g 0 dX11_least_0 ?_
  refine J.istore_n g dX11_least_1 rfl rfl rfl ?_
  try dsimp only [List.set_cons_zero, List.set_cons_succ]
  have lp : ∀ (d : Nat) (k : Nat), 12 - k < d → (k < 12) → (mlw s 12 0 = mlw s (12 - k) k) → J γ l x [] [some (.int (nI s)), some (.int (nI k))] [] 0 0 2 := by
    intro d
    induction d with
    | zero => intro k hm; exact absurd hm (Nat.not_lt_zero _)
    | succ d ih_lp =>
      intro k hm hk hr
      refine J.iload_n g dX11_least_2 rfl rfl ?_
      refine J.iload_n g dX11_least_3 rfl rfl ?_
      refine J.callS0 g (c_X11_has l γ _ _ (by omega) (by omega)) jy_X11_has lm_X11_7 ⟨⟨Nat.le_of_ble_eq_true rfl, Nat.le_of_ble_eq_true rfl⟩, Nat.le_of_ble_eq_true rfl, Nat.le_of_ble_eq_true rfl⟩ (Nat.le_of_ble_eq_true rfl) rfl [] rfl rfl dX11_least_4 ?_
      intro _ _
      dsimp only [jpush]
      refine J.if_neB g dX11_least_7 (tgt := 16) (by decide) (fun c_7 => ?_) (fun c_7 => ?_)
      · refine J.iload_n g dX11_least_16 rfl rfl ?_
        exact J.iret g hE () (by rw [hr, mlw_e c_7]) trivial rfl ⟨Nat.le_of_ble_eq_true rfl, Nat.le_of_ble_eq_true rfl⟩ dX11_least_17
      · have hlt := mlw_lt hk hr ⟨hs, h0⟩ c_7
        have hlt1 := hlt.1
        refine J.iincN g 1 dX11_least_10 rfl rfl ?_
        try dsimp only [List.set_cons_zero, List.set_cons_succ]
        refine J.goto g dX11_least_13 (tgt := 2) (by decide) ?_
        exact J.lvle (jle_s (jle_s jle_0)) (ih_lp (k + 1) (by omega) (by omega) hlt.2)
  exact J.lvle (jle_s (jle_s jle_0)) (lp _ 0 (Nat.lt_succ_self _) (by omega) rfl)
set_option maxHeartbeats 4000000 in
set_option maxRecDepth 100000 in
theorem c_X11_lay (l : Launch) (γ : jγ) (mo mta mtd msz mto mfr mso mnu mfa mpl mro mnw mrd mkp msn mbf mlv mik msm msu mbe mfe mmy mof msf mlr mty mfm mrn mrb mln mtb : Nat) (mth mfw mse : Int32) (mwd : Int64) (t : Nat → Nat) (v : Int32) (hl : mtd + 4 ≤ 340) : jM (S := Nat → Nat) l γ yX11_lay cX11_lay 3 none ({ frames := 0, cells := 0, slots := 0, locals := 0 } : Room) [.ref mo, .int v] [(mo, .inr (11, [.int mth, .ref mta, .int (nI mtd), .int (nI msz), .int (nI mto), .int (nI mfr), .int (nI mso), .int (nI mnu), .int (nI mfa), .int mfw, .int (nI mpl), .int (nI mro), .long mwd, .ref mnw, .ref mrd, .ref mkp, .ref msn, .ref mbf, .ref mlv, .ref mik, .int (nI msm), .ref msu, .ref mbe, .ref mfe, .ref mmy, .ref mof, .ref msf, .ref mlr, .ref mty, .ref mfm, .ref mrn, .ref mrb, .int (nI mln), .ref mtb, .int mse])), (mta, .inl (γ.2 0, 340, .inl (fun j => nI (t j))))] (fun u => none) (fun u => [(mo, .inr (11, [.int mth, .ref mta, .int (nI (mtd + 4)), .int (nI msz), .int (nI mto), .int (nI mfr), .int (nI mso), .int (nI mnu), .int (nI mfa), .int mfw, .int (nI mpl), .int (nI mro), .long mwd, .ref mnw, .ref mrd, .ref mkp, .ref msn, .ref mbf, .ref mlv, .ref mik, .int (nI msm), .ref msu, .ref mbe, .ref mfe, .ref mmy, .ref mof, .ref msf, .ref mlr, .ref mty, .ref mfm, .ref mrn, .ref mrb, .int (nI mln), .ref mtb, .int mse])), (mta, .inl (γ.2 0, 340, .inl (fun j => nI (u j))))]) (fun u => map4 t mtd v u) := by
  refine jM.of [some (.ref mo), some (.int v), none] rfl (Nat.le_of_ble_eq_true rfl) (by decide) ?_
  intro x g hE hin
  refine J.bipush (v := nI 24) g dX11_lay_0 (by decide +kernel) ?_
  refine J.istore_n g dX11_lay_2 rfl rfl rfl ?_
  try dsimp only [List.set_cons_zero, List.set_cons_succ]
  refine J.iload_n g dX11_lay_3 rfl rfl ?_
  refine J.if_ltN g dX11_lay_4 (tgt := 39) (by decide) (by omega) ?_
  refine J.aload_n g dX11_lay_7 rfl rfl ?_
  refine J.get g jX11 1 (by decide) lf_X11_11 0 rfl rfl dX11_lay_8 ?_
  refine J.aload_n g dX11_lay_11 rfl rfl ?_
  refine J.get g jX11 2 (by decide) lf_X11_15 0 rfl rfl dX11_lay_12 ?_
  refine J.iload_n g dX11_lay_15 rfl rfl ?_
  refine J.iload_n g dX11_lay_16 rfl rfl ?_
  refine J.iushr g dX11_lay_17 rfl ?_
  refine J.sipush (v := nI 255) g dX11_lay_18 (by decide +kernel) ?_
  refine J.iand' g dX11_lay_21 (jb8_and _) ?_
  refine J.iastN g 1 rfl (by omega) (by decide) dX11_lay_22 ?_
  try dsimp only [List.set_cons_zero, List.set_cons_succ]
  refine J.aload_n g dX11_lay_23 rfl rfl ?_
  refine J.dup g dX11_lay_24 rfl ?_
  refine J.get g jX11 2 (by decide) lf_X11_15 0 rfl rfl dX11_lay_25 ?_
  refine J.iconstN g 1 dX11_lay_28 ?_
  refine J.iaddN g dX11_lay_29 ?_
  refine J.put g jX11 2 (by decide) lf_X11_15 0 rfl rfl (Nat.le_of_ble_eq_true rfl) rfl rfl dX11_lay_30 ?_
  try dsimp only [List.set_cons_zero, List.set_cons_succ]
  refine J.iinc (v := nI 16) g dX11_lay_33 rfl rfl (by decide +kernel) ?_
  try dsimp only [List.set_cons_zero, List.set_cons_succ]
  refine J.goto g dX11_lay_36 (tgt := 3) (by decide) ?_
  refine J.iload_n g dX11_lay_3 rfl rfl ?_
  refine J.if_ltN g dX11_lay_4 (tgt := 39) (by decide) (by omega) ?_
  refine J.aload_n g dX11_lay_7 rfl rfl ?_
  refine J.get g jX11 1 (by decide) lf_X11_11 0 rfl rfl dX11_lay_8 ?_
  refine J.aload_n g dX11_lay_11 rfl rfl ?_
  refine J.get g jX11 2 (by decide) lf_X11_15 0 rfl rfl dX11_lay_12 ?_
  refine J.iload_n g dX11_lay_15 rfl rfl ?_
  refine J.iload_n g dX11_lay_16 rfl rfl ?_
  refine J.iushr g dX11_lay_17 rfl ?_
  refine J.sipush (v := nI 255) g dX11_lay_18 (by decide +kernel) ?_
  refine J.iand' g dX11_lay_21 (jb8_and _) ?_
  refine J.iastN g 1 rfl (by omega) (by decide) dX11_lay_22 ?_
  try dsimp only [List.set_cons_zero, List.set_cons_succ]
  refine J.aload_n g dX11_lay_23 rfl rfl ?_
  refine J.dup g dX11_lay_24 rfl ?_
  refine J.get g jX11 2 (by decide) lf_X11_15 0 rfl rfl dX11_lay_25 ?_
  refine J.iconstN g 1 dX11_lay_28 ?_
  refine J.iaddN g dX11_lay_29 ?_
  refine J.put g jX11 2 (by decide) lf_X11_15 0 rfl rfl (Nat.le_of_ble_eq_true rfl) rfl rfl dX11_lay_30 ?_
  try dsimp only [List.set_cons_zero, List.set_cons_succ]
  refine J.iinc (v := nI 8) g dX11_lay_33 rfl rfl (by decide +kernel) ?_
  try dsimp only [List.set_cons_zero, List.set_cons_succ]
  refine J.goto g dX11_lay_36 (tgt := 3) (by decide) ?_
  refine J.iload_n g dX11_lay_3 rfl rfl ?_
  refine J.if_ltN g dX11_lay_4 (tgt := 39) (by decide) (by omega) ?_
  refine J.aload_n g dX11_lay_7 rfl rfl ?_
  refine J.get g jX11 1 (by decide) lf_X11_11 0 rfl rfl dX11_lay_8 ?_
  refine J.aload_n g dX11_lay_11 rfl rfl ?_
  refine J.get g jX11 2 (by decide) lf_X11_15 0 rfl rfl dX11_lay_12 ?_
  refine J.iload_n g dX11_lay_15 rfl rfl ?_
  refine J.iload_n g dX11_lay_16 rfl rfl ?_
  refine J.iushr g dX11_lay_17 rfl ?_
  refine J.sipush (v := nI 255) g dX11_lay_18 (by decide +kernel) ?_
  refine J.iand' g dX11_lay_21 (jb8_and _) ?_
  refine J.iastN g 1 rfl (by omega) (by decide) dX11_lay_22 ?_
  try dsimp only [List.set_cons_zero, List.set_cons_succ]
  refine J.aload_n g dX11_lay_23 rfl rfl ?_
  refine J.dup g dX11_lay_24 rfl ?_
  refine J.get g jX11 2 (by decide) lf_X11_15 0 rfl rfl dX11_lay_25 ?_
  refine J.iconstN g 1 dX11_lay_28 ?_
  refine J.iaddN g dX11_lay_29 ?_
  refine J.put g jX11 2 (by decide) lf_X11_15 0 rfl rfl (Nat.le_of_ble_eq_true rfl) rfl rfl dX11_lay_30 ?_
  try dsimp only [List.set_cons_zero, List.set_cons_succ]
  refine J.iinc (v := nI 0) g dX11_lay_33 rfl rfl (by decide +kernel) ?_
  try dsimp only [List.set_cons_zero, List.set_cons_succ]
  refine J.goto g dX11_lay_36 (tgt := 3) (by decide) ?_
  refine J.iload_n g dX11_lay_3 rfl rfl ?_
  refine J.if_ltN g dX11_lay_4 (tgt := 39) (by decide) (by omega) ?_
  refine J.aload_n g dX11_lay_7 rfl rfl ?_
  refine J.get g jX11 1 (by decide) lf_X11_11 0 rfl rfl dX11_lay_8 ?_
  refine J.aload_n g dX11_lay_11 rfl rfl ?_
  refine J.get g jX11 2 (by decide) lf_X11_15 0 rfl rfl dX11_lay_12 ?_
  refine J.iload_n g dX11_lay_15 rfl rfl ?_
  refine J.iload_n g dX11_lay_16 rfl rfl ?_
  refine J.iushr g dX11_lay_17 rfl ?_
  refine J.sipush (v := nI 255) g dX11_lay_18 (by decide +kernel) ?_
  refine J.iand' g dX11_lay_21 (jb8_and _) ?_
  refine J.iastN g 1 rfl (by omega) (by decide) dX11_lay_22 ?_
  try dsimp only [List.set_cons_zero, List.set_cons_succ]
  refine J.aload_n g dX11_lay_23 rfl rfl ?_
  refine J.dup g dX11_lay_24 rfl ?_
  refine J.get g jX11 2 (by decide) lf_X11_15 0 rfl rfl dX11_lay_25 ?_
  refine J.iconstN g 1 dX11_lay_28 ?_
  refine J.iaddN g dX11_lay_29 ?_
  refine J.put g jX11 2 (by decide) lf_X11_15 0 rfl rfl (Nat.le_of_ble_eq_true rfl) rfl rfl dX11_lay_30 ?_
  try dsimp only [List.set_cons_zero, List.set_cons_succ]
  refine J.iinc (v := -8) g dX11_lay_33 rfl rfl (by decide +kernel) ?_
  try dsimp only [List.set_cons_zero, List.set_cons_succ]
  refine J.goto g dX11_lay_36 (tgt := 3) (by decide) ?_
  refine J.iload_n g dX11_lay_3 rfl rfl ?_
  refine J.if_lt g dX11_lay_4 (tgt := 39) (by decide) (fun _ => ?_) (fun q => absurd (by decide) q)
  exact J.vret g hE _ rfl (map4_post t mtd v) rfl ⟨Nat.le_of_ble_eq_true rfl, Nat.le_of_ble_eq_true rfl⟩ dX11_lay_39
set_option maxHeartbeats 4000000 in
set_option maxRecDepth 100000 in
theorem c_X11_feed (l : Launch) (γ : jγ) (mo mta mtd msz mto mfr mso mnu mfa mpl mro mnw mrd mkp msn mbf mlv mik msm msu mbe mfe mmy mof msf mlr mty mfm mrn mrb mln mtb : Nat) (mth mfw mse : Int32) (mwd : Int64) (t : Nat → Nat) (a b c e9 e8 : Int32) (hl : mtd ≤ 340) : jM (S := Nat → Nat) l γ yX11_feed cX11_feed 6 (some .int) ({ frames := 1, cells := 0, slots := 0, locals := 22 } : Room) [.ref mo, .int a, .int b, .int c, .int e9, .int e8] [(mo, .inr (11, [.int mth, .ref mta, .int (nI mtd), .int (nI msz), .int (nI mto), .int (nI mfr), .int (nI mso), .int (nI mnu), .int (nI mfa), .int mfw, .int (nI mpl), .int (nI mro), .long mwd, .ref mnw, .ref mrd, .ref mkp, .ref msn, .ref mbf, .ref mlv, .ref mik, .int (nI msm), .ref msu, .ref mbe, .ref mfe, .ref mmy, .ref mof, .ref msf, .ref mlr, .ref mty, .ref mfm, .ref mrn, .ref mrb, .int (nI mln), .ref mtb, .int mse])), (mta, .inl (γ.2 0, 340, .inl (fun j => nI (t j))))] (fun u => some (.int (if mtd + 20 ≤ 340 then nI (mtd + 20) else -1))) (fun u => [(mo, .inr (11, [.int (nI 0), .ref mta, .int (nI (if mtd + 20 ≤ 340 then mtd + 20 else mtd)), .int (nI msz), .int (nI mto), .int (nI mfr), .int (nI mso), .int (nI mnu), .int (nI mfa), .int mfw, .int (nI mpl), .int (nI mro), .long mwd, .ref mnw, .ref mrd, .ref mkp, .ref msn, .ref mbf, .ref mlv, .ref mik, .int (nI msm), .ref msu, .ref mbe, .ref mfe, .ref mmy, .ref mof, .ref msf, .ref mlr, .ref mty, .ref mfm, .ref mrn, .ref mrb, .int (nI mln), .ref mtb, .int mse])), (mta, .inl (γ.2 0, 340, .inl (fun j => nI (u j))))]) (fun u => mfeed t mtd a b c e9 e8 u) := by
  refine jM.of [some (.ref mo), some (.int a), some (.int b), some (.int c), some (.int e9), some (.int e8)] rfl (Nat.le_of_ble_eq_true rfl) (by decide) ?_
  intro x g hE hin
  refine J.aload_n g dX11_feed_0 rfl rfl ?_
  refine J.iconstN g 0 dX11_feed_1 ?_
  refine J.put g jX11 0 (by decide) lf_X11_1 0 rfl rfl (Nat.le_of_ble_eq_true rfl) rfl rfl dX11_feed_2 ?_
  try dsimp only [List.set_cons_zero, List.set_cons_succ]
  refine J.aload_n g dX11_feed_5 rfl rfl ?_
  refine J.get g jX11 2 (by decide) lf_X11_15 0 rfl rfl dX11_feed_6 ?_
  refine J.bipush (v := nI 20) g dX11_feed_9 (by decide +kernel) ?_
  refine J.iaddN g dX11_feed_11 ?_
  refine J.sipush (v := nI 340) g dX11_feed_12 (by decide +kernel) ?_
  refine J.icmp_leN g dX11_feed_15 (tgt := 20) (by decide) (by omega) (by omega) (fun c_15 => ?_) (fun c_15 => ?_)
  · refine J.aload_n g dX11_feed_20 rfl rfl ?_
    refine J.iload_n g dX11_feed_21 rfl rfl ?_
    refine J.callV g (c_X11_lay l γ _ _ _ _ _ _ _ _ _ _ _ _ _ _ _ _ _ _ _ _ _ _ _ _ _ _ _ _ _ _ _ _ _ _ _ _ _ _ (by omega)) jy_X11_lay lm_X11_18 (q0 := 0) rfl jX11.1 ⟨⟨Nat.le_of_ble_eq_true rfl, Nat.le_of_ble_eq_true rfl⟩, Nat.le_of_ble_eq_true rfl, Nat.le_of_ble_eq_true rfl⟩ (Nat.le_of_ble_eq_true rfl) rfl [0, 1] rfl (fun _ => rfl) rfl dX11_feed_22 ?_
    intro u_22 h_22
    dsimp only [jput, List.set_cons_zero, List.set_cons_succ, Option.toList, List.append, List.cons_append, List.nil_append, List.append_nil]
    refine J.aload_n g dX11_feed_25 rfl rfl ?_
    refine J.iload_n g dX11_feed_26 rfl rfl ?_
    refine J.callV g (c_X11_lay l γ _ _ _ _ _ _ _ _ _ _ _ _ _ _ _ _ _ _ _ _ _ _ _ _ _ _ _ _ _ _ _ _ _ _ _ _ _ _ (by omega)) jy_X11_lay lm_X11_18 (q0 := 0) rfl jX11.1 ⟨⟨Nat.le_of_ble_eq_true rfl, Nat.le_of_ble_eq_true rfl⟩, Nat.le_of_ble_eq_true rfl, Nat.le_of_ble_eq_true rfl⟩ (Nat.le_of_ble_eq_true rfl) rfl [0, 1] rfl (fun _ => rfl) rfl dX11_feed_27 ?_
    intro u_27 h_27
    dsimp only [jput, List.set_cons_zero, List.set_cons_succ, Option.toList, List.append, List.cons_append, List.nil_append, List.append_nil]
    refine J.aload_n g dX11_feed_30 rfl rfl ?_
    refine J.iload_n g dX11_feed_31 rfl rfl ?_
    refine J.callV g (c_X11_lay l γ _ _ _ _ _ _ _ _ _ _ _ _ _ _ _ _ _ _ _ _ _ _ _ _ _ _ _ _ _ _ _ _ _ _ _ _ _ _ (by omega)) jy_X11_lay lm_X11_18 (q0 := 0) rfl jX11.1 ⟨⟨Nat.le_of_ble_eq_true rfl, Nat.le_of_ble_eq_true rfl⟩, Nat.le_of_ble_eq_true rfl, Nat.le_of_ble_eq_true rfl⟩ (Nat.le_of_ble_eq_true rfl) rfl [0, 1] rfl (fun _ => rfl) rfl dX11_feed_32 ?_
    intro u_32 h_32
    dsimp only [jput, List.set_cons_zero, List.set_cons_succ, Option.toList, List.append, List.cons_append, List.nil_append, List.append_nil]
    refine J.aload_n g dX11_feed_35 rfl rfl ?_
    refine J.iload g dX11_feed_36 rfl ?_
    refine J.callV g (c_X11_lay l γ _ _ _ _ _ _ _ _ _ _ _ _ _ _ _ _ _ _ _ _ _ _ _ _ _ _ _ _ _ _ _ _ _ _ _ _ _ _ (by omega)) jy_X11_lay lm_X11_18 (q0 := 0) rfl jX11.1 ⟨⟨Nat.le_of_ble_eq_true rfl, Nat.le_of_ble_eq_true rfl⟩, Nat.le_of_ble_eq_true rfl, Nat.le_of_ble_eq_true rfl⟩ (Nat.le_of_ble_eq_true rfl) rfl [0, 1] rfl (fun _ => rfl) rfl dX11_feed_38 ?_
    intro u_38 h_38
    dsimp only [jput, List.set_cons_zero, List.set_cons_succ, Option.toList, List.append, List.cons_append, List.nil_append, List.append_nil]
    refine J.aload_n g dX11_feed_41 rfl rfl ?_
    refine J.iload g dX11_feed_42 rfl ?_
    refine J.callV g (c_X11_lay l γ _ _ _ _ _ _ _ _ _ _ _ _ _ _ _ _ _ _ _ _ _ _ _ _ _ _ _ _ _ _ _ _ _ _ _ _ _ _ (by omega)) jy_X11_lay lm_X11_18 (q0 := 0) rfl jX11.1 ⟨⟨Nat.le_of_ble_eq_true rfl, Nat.le_of_ble_eq_true rfl⟩, Nat.le_of_ble_eq_true rfl, Nat.le_of_ble_eq_true rfl⟩ (Nat.le_of_ble_eq_true rfl) rfl [0, 1] rfl (fun _ => rfl) rfl dX11_feed_44 ?_
    intro u_44 h_44
    dsimp only [jput, List.set_cons_zero, List.set_cons_succ, Option.toList, List.append, List.cons_append, List.nil_append, List.append_nil]
    refine J.aload_n g dX11_feed_47 rfl rfl ?_
    refine J.get g jX11 2 (by decide) lf_X11_15 0 rfl rfl dX11_feed_48 ?_
    exact J.iret g hE u_44 (by rw [if_pos (by omega)]) ⟨fun _ => ⟨u_22, u_27, u_32, u_38, h_22, h_27, h_32, h_38, h_44⟩, fun z => absurd (by omega) z⟩ (by rw [if_pos (by omega)]) ⟨Nat.le_of_ble_eq_true rfl, Nat.le_of_ble_eq_true rfl⟩ dX11_feed_51
  · refine J.iconst (v := -1) g dX11_feed_18 (by decide) ?_
    exact J.iret g hE t (by rw [if_neg (by omega)]) ⟨fun z => absurd z (by omega), fun _ => rfl⟩ (by rw [if_neg (by omega)]) ⟨Nat.le_of_ble_eq_true rfl, Nat.le_of_ble_eq_true rfl⟩ dX11_feed_19
set_option maxHeartbeats 4000000 in
set_option maxRecDepth 100000 in
theorem c_X11_end (l : Launch) (γ : jγ) (mo mta mtd msz mto mfr mso mnu mfa mpl mro mnw mrd mkp msn mbf mlv mik msm msu mbe mfe mmy mof msf mlr mty mfm mrn mrb mln mtb : Nat) (mth mfw mse : Int32) (mwd : Int64) (i : Int32) (hn : mtd ≤ 340) : jM (S := Unit) l γ yX11_end cX11_end 2 (some .boolean) ({ frames := 0, cells := 0, slots := 0, locals := 0 } : Room) [.ref mo, .int i] [(mo, .inr (11, [.int mth, .ref mta, .int (nI mtd), .int (nI msz), .int (nI mto), .int (nI mfr), .int (nI mso), .int (nI mnu), .int (nI mfa), .int mfw, .int (nI mpl), .int (nI mro), .long mwd, .ref mnw, .ref mrd, .ref mkp, .ref msn, .ref mbf, .ref mlv, .ref mik, .int (nI msm), .ref msu, .ref mbe, .ref mfe, .ref mmy, .ref mof, .ref msf, .ref mlr, .ref mty, .ref mfm, .ref mrn, .ref mrb, .int (nI mln), .ref mtb, .int mse]))] (fun w0 => some (.int (jB (jcut i mtd)))) (fun w0 => [(mo, .inr (11, [.int (nI 0), .ref mta, .int (nI (jcutn i mtd)), .int (nI msz), .int (nI mto), .int (nI mfr), .int (nI mso), .int (nI mnu), .int (nI mfa), .int mfw, .int (nI mpl), .int (nI mro), .long mwd, .ref mnw, .ref mrd, .ref mkp, .ref msn, .ref mbf, .ref mlv, .ref mik, .int (nI msm), .ref msu, .ref mbe, .ref mfe, .ref mmy, .ref mof, .ref msf, .ref mlr, .ref mty, .ref mfm, .ref mrn, .ref mrb, .int (nI mln), .ref mtb, .int mse]))]) (fun w0 => True) := by
  refine jM.of [some (.ref mo), some (.int i)] rfl (Nat.le_of_ble_eq_true rfl) (by decide) ?_
  intro x g hE hin
  refine J.aload_n g dX11_end_0 rfl rfl ?_
  refine J.iconstN g 0 dX11_end_1 ?_
  refine J.put g jX11 0 (by decide) lf_X11_1 0 rfl rfl (Nat.le_of_ble_eq_true rfl) rfl rfl dX11_end_2 ?_
  try dsimp only [List.set_cons_zero, List.set_cons_succ]
  refine J.iload_n g dX11_end_5 rfl rfl ?_
  refine J.if_lt g dX11_end_6 (tgt := 17) (by decide) (fun c_6 => ?_) (fun c_6 => ?_)
  · refine J.iconstN g 0 dX11_end_17 ?_
    exact J.zret (by first | rfl | exact j_nz _) g hE () (jB_f (by first | exact jcut_1 c_6 | exact jcut_2 c_14 | exact jcut_3 c_6 c_14)) trivial (by first | rw [jcutn_f (jcut_1 c_6)] | rw [jcutn_f (jcut_2 c_14)]) ⟨Nat.le_of_ble_eq_true rfl, Nat.le_of_ble_eq_true rfl⟩ dX11_end_18
  · refine J.iload_n g dX11_end_9 rfl rfl ?_
    refine J.aload_n g dX11_end_10 rfl rfl ?_
    refine J.get g jX11 2 (by decide) lf_X11_15 0 rfl rfl dX11_end_11 ?_
    refine J.icmp_le g dX11_end_14 (tgt := 19) (by decide) (fun c_14 => ?_) (fun c_14 => ?_)
    · refine J.aload_n g dX11_end_19 rfl rfl ?_
      refine J.iload_n g dX11_end_20 rfl rfl ?_
      refine J.put g jX11 2 (by decide) lf_X11_15 0 rfl rfl (Nat.le_of_ble_eq_true rfl) rfl rfl dX11_end_21 ?_
      try dsimp only [List.set_cons_zero, List.set_cons_succ]
      refine J.iconstN g 1 dX11_end_24 ?_
      exact J.zret (by first | rfl | exact j_nz _) g hE () (jB_t (by first | exact jcut_1 c_6 | exact jcut_2 c_14 | exact jcut_3 c_6 c_14)) trivial (by rw [jcutn_t c_6 c_14]) ⟨Nat.le_of_ble_eq_true rfl, Nat.le_of_ble_eq_true rfl⟩ dX11_end_25
    · refine J.iconstN g 0 dX11_end_17 ?_
      exact J.zret (by first | rfl | exact j_nz _) g hE () (jB_f (by first | exact jcut_1 c_6 | exact jcut_2 c_14 | exact jcut_3 c_6 c_14)) trivial (by first | rw [jcutn_f (jcut_1 c_6)] | rw [jcutn_f (jcut_2 c_14)]) ⟨Nat.le_of_ble_eq_true rfl, Nat.le_of_ble_eq_true rfl⟩ dX11_end_18
set_option maxHeartbeats 4000000 in
set_option maxRecDepth 100000 in
theorem c_X11_copy (l : Launch) (γ : jγ) (ca cb NA NB s t : Nat) (fa fb : Nat → Nat) (hA : NA < 2 ^ 31) (hB : NB < 2 ^ 31) (hs : s + 17 ≤ NA) (ht : t + 17 ≤ NB) : jM (S := Nat → Nat) l γ yX11_copy cX11_copy 5 none ({ frames := 0, cells := 0, slots := 0, locals := 0 } : Room) [.ref ca, .int (nI s), .ref cb, .int (nI t)] [(ca, .inl (γ.2 0, NA, .inl (fun j => nI (fa j)))), (cb, .inl (γ.2 0, NB, .inl (fun j => nI (fb j))))] (fun u => none) (fun u => [(ca, .inl (γ.2 0, NA, .inl (fun j => nI (fa j)))), (cb, .inl (γ.2 0, NB, .inl (fun j => nI (u j))))]) (fun u => ∀ j, u j = if t ≤ j ∧ j < t + 17 then fa (s + (j - t)) else fb j) := by
  refine jM.of [some (.ref ca), some (.int (nI s)), some (.ref cb), some (.int (nI t)), none] rfl (Nat.le_of_ble_eq_true rfl) (by decide) ?_
  intro x g hE hin
  refine J.iconstN g 0 dX11_copy_0 ?_
  refine J.istore g dX11_copy_1 rfl rfl ?_
  try dsimp only [List.set_cons_zero, List.set_cons_succ]
  have lp : ∀ (d : Nat) (k : Nat) (h : Nat → Nat), 17 - k < d → (k ≤ 17) → (∀ j, h j = if t ≤ j ∧ j < t + k then fa (s + (j - t)) else fb j) → J γ l x [(ca, .inl (γ.2 0, NA, .inl (fun j => nI (fa j)))), (cb, .inl (γ.2 0, NB, .inl (fun j => nI (h j))))] [some (.ref ca), some (.int (nI s)), some (.ref cb), some (.int (nI t)), some (.int (nI k))] [] 0 0 3 := by
    intro d
    induction d with
    | zero => intro k h hm; exact absurd hm (Nat.not_lt_zero _)
    | succ d ih_lp =>
      intro k h hm hk hh
      refine J.iload g dX11_copy_3 rfl ?_
      refine J.bipush (v := nI 17) g dX11_copy_5 (by decide +kernel) ?_
      refine J.icmp_geN g dX11_copy_7 (tgt := 28) (by decide) (by omega) (by omega) (fun c_7 => ?_) (fun c_7 => ?_)
      · exact J.vret g hE h rfl (fun j => by rw [hh j, show k = 17 by omega]) rfl ⟨Nat.le_of_ble_eq_true rfl, Nat.le_of_ble_eq_true rfl⟩ dX11_copy_28
      · refine J.aload_n g dX11_copy_10 rfl rfl ?_
        refine J.iload_n g dX11_copy_11 rfl rfl ?_
        refine J.iload g dX11_copy_12 rfl ?_
        refine J.iaddN g dX11_copy_14 ?_
        refine J.aload_n g dX11_copy_15 rfl rfl ?_
        refine J.iload_n g dX11_copy_16 rfl rfl ?_
        refine J.iload g dX11_copy_17 rfl ?_
        refine J.iaddN g dX11_copy_19 ?_
        refine J.ialdN g 0 rfl (by omega) (by omega) dX11_copy_20 ?_
        refine J.iastN g 1 rfl (by omega) (by omega) dX11_copy_21 ?_
        try dsimp only [List.set_cons_zero, List.set_cons_succ]
        refine J.iincN g 1 dX11_copy_22 rfl rfl ?_
        try dsimp only [List.set_cons_zero, List.set_cons_succ]
        refine J.goto g dX11_copy_25 (tgt := 3) (by decide) ?_
        exact J.lvle (jle_s (jle_s (jle_s (jle_s (jle_s jle_0))))) (ih_lp (k + 1) (va_up h (t + k) (fa (s + k))) (by omega) (by omega) (mcp_step hh))
  exact J.lvle (jle_s (jle_s (jle_s (jle_s (jle_s jle_0))))) (lp _ 0 fb (Nat.lt_succ_self _) (Nat.zero_le _) (fun j => by rw [if_neg (by omega)]))
