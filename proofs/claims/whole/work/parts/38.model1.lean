set_option maxHeartbeats 4000000 in
set_option maxRecDepth 100000 in
theorem c_X11_thrown (l : Launch) (γ : jγ) (mo mta mtd msz mto mfr mso mnu mfa mpl mro mnw mrd mkp msn mbf mlv mik msm msu mbe mfe mmy mof msf mlr mty mfm mrn mrb mln mtb : Nat) (mth mfw mse : Int32) (mwd : Int64)  : jM (S := Unit) l γ yX11_thrown cX11_thrown 1 (some .int) ({ frames := 0, cells := 0, slots := 0, locals := 0 } : Room) [.ref mo] [(mo, .inr (11, [.int mth, .ref mta, .int (nI mtd), .int (nI msz), .int (nI mto), .int (nI mfr), .int (nI mso), .int (nI mnu), .int (nI mfa), .int mfw, .int (nI mpl), .int (nI mro), .long mwd, .ref mnw, .ref mrd, .ref mkp, .ref msn, .ref mbf, .ref mlv, .ref mik, .int (nI msm), .ref msu, .ref mbe, .ref mfe, .ref mmy, .ref mof, .ref msf, .ref mlr, .ref mty, .ref mfm, .ref mrn, .ref mrb, .int (nI mln), .ref mtb, .int mse]))] (fun w0 => some (.int mth)) (fun w0 => [(mo, .inr (11, [.int mth, .ref mta, .int (nI mtd), .int (nI msz), .int (nI mto), .int (nI mfr), .int (nI mso), .int (nI mnu), .int (nI mfa), .int mfw, .int (nI mpl), .int (nI mro), .long mwd, .ref mnw, .ref mrd, .ref mkp, .ref msn, .ref mbf, .ref mlv, .ref mik, .int (nI msm), .ref msu, .ref mbe, .ref mfe, .ref mmy, .ref mof, .ref msf, .ref mlr, .ref mty, .ref mfm, .ref mrn, .ref mrb, .int (nI mln), .ref mtb, .int mse]))]) (fun w0 => True) := by
  refine jM.of [some (.ref mo)] rfl (Nat.le_of_ble_eq_true rfl) (by decide) ?_
  intro x g hE hin
  refine J.aload_n g dX11_thrown_0 rfl rfl ?_
  refine J.get g jX11 0 (by decide) lf_X11_1 0 rfl rfl dX11_thrown_1 ?_
  exact J.iret g hE () rfl trivial rfl ⟨Nat.le_of_ble_eq_true rfl, Nat.le_of_ble_eq_true rfl⟩ dX11_thrown_4
set_option maxHeartbeats 4000000 in
set_option maxRecDepth 100000 in
theorem c_X11_refuse (l : Launch) (γ : jγ) (mo mta mtd msz mto mfr mso mnu mfa mpl mro mnw mrd mkp msn mbf mlv mik msm msu mbe mfe mmy mof msf mlr mty mfm mrn mrb mln mtb : Nat) (mth mfw mse : Int32) (mwd : Int64)  : jM (S := Unit) l γ yX11_refuse cX11_refuse 1 (some .int) ({ frames := 0, cells := 0, slots := 0, locals := 0 } : Room) [.ref mo] [(mo, .inr (11, [.int mth, .ref mta, .int (nI mtd), .int (nI msz), .int (nI mto), .int (nI mfr), .int (nI mso), .int (nI mnu), .int (nI mfa), .int mfw, .int (nI mpl), .int (nI mro), .long mwd, .ref mnw, .ref mrd, .ref mkp, .ref msn, .ref mbf, .ref mlv, .ref mik, .int (nI msm), .ref msu, .ref mbe, .ref mfe, .ref mmy, .ref mof, .ref msf, .ref mlr, .ref mty, .ref mfm, .ref mrn, .ref mrb, .int (nI mln), .ref mtb, .int mse]))] (fun w0 => some (.int (nI 0))) (fun w0 => [(mo, .inr (11, [.int (nI 1), .ref mta, .int (nI mtd), .int (nI msz), .int (nI mto), .int (nI mfr), .int (nI mso), .int (nI mnu), .int (nI mfa), .int mfw, .int (nI mpl), .int (nI mro), .long mwd, .ref mnw, .ref mrd, .ref mkp, .ref msn, .ref mbf, .ref mlv, .ref mik, .int (nI msm), .ref msu, .ref mbe, .ref mfe, .ref mmy, .ref mof, .ref msf, .ref mlr, .ref mty, .ref mfm, .ref mrn, .ref mrb, .int (nI mln), .ref mtb, .int mse]))]) (fun w0 => True) := by
  refine jM.of [some (.ref mo)] rfl (Nat.le_of_ble_eq_true rfl) (by decide) ?_
  intro x g hE hin
  refine J.aload_n g dX11_refuse_0 rfl rfl ?_
  refine J.iconstN g 1 dX11_refuse_1 ?_
  refine J.put g jX11 0 (by decide) lf_X11_1 0 rfl rfl (Nat.le_of_ble_eq_true rfl) rfl rfl dX11_refuse_2 ?_
  try dsimp only [List.set_cons_zero, List.set_cons_succ]
  refine J.iconstN g 0 dX11_refuse_5 ?_
  exact J.iret g hE () rfl trivial rfl ⟨Nat.le_of_ble_eq_true rfl, Nat.le_of_ble_eq_true rfl⟩ dX11_refuse_6
set_option maxHeartbeats 4000000 in
set_option maxRecDepth 100000 in
theorem c_X11_isIn (l : Launch) (γ : jγ) (v a b : Int32)  : jM (S := Unit) l γ yX11_isIn cX11_isIn 3 (some .boolean) ({ frames := 0, cells := 0, slots := 0, locals := 0 } : Room) [.int v, .int a, .int b] [] (fun w0 => some (.int (jB (mIn v a b)))) (fun w0 => []) (fun w0 => True) := by
  refine jM.of [some (.int v), some (.int a), some (.int b)] rfl (Nat.le_of_ble_eq_true rfl) (by decide) ?_
  intro x g hE hin
  refine J.iload_n g dX11_isIn_0 rfl rfl ?_
  refine J.iload_n g dX11_isIn_1 rfl rfl ?_
  refine J.icmp_lt g dX11_isIn_2 (tgt := 14) (by decide) (fun c_2 => ?_) (fun c_2 => ?_)
  · refine J.iconstN g 0 dX11_isIn_14 ?_
    exact J.zret (by first | rfl | exact j_nz _) g hE () (jB_f (by simp only [mIn, decide_eq_true_eq, decide_eq_false_iff_not, Int32.lt_iff_toInt_lt] at *; omega)) trivial rfl ⟨Nat.le_of_ble_eq_true rfl, Nat.le_of_ble_eq_true rfl⟩ dX11_isIn_15
  · refine J.iload_n g dX11_isIn_5 rfl rfl ?_
    refine J.iload_n g dX11_isIn_6 rfl rfl ?_
    refine J.icmp_gt g dX11_isIn_7 (tgt := 14) (by decide) (fun c_7 => ?_) (fun c_7 => ?_)
    · refine J.iconstN g 0 dX11_isIn_14 ?_
      exact J.zret (by first | rfl | exact j_nz _) g hE () (jB_f (by simp only [mIn, decide_eq_true_eq, decide_eq_false_iff_not, Int32.lt_iff_toInt_lt] at *; omega)) trivial rfl ⟨Nat.le_of_ble_eq_true rfl, Nat.le_of_ble_eq_true rfl⟩ dX11_isIn_15
    · refine J.iconstN g 1 dX11_isIn_10 ?_
      refine J.goto g dX11_isIn_11 (tgt := 15) (by decide) ?_
      exact J.zret (by first | rfl | exact j_nz _) g hE () (jB_t (by simp only [mIn, decide_eq_true_eq, decide_eq_false_iff_not, Int32.lt_iff_toInt_lt] at *; omega)) trivial rfl ⟨Nat.le_of_ble_eq_true rfl, Nat.le_of_ble_eq_true rfl⟩ dX11_isIn_15
set_option maxHeartbeats 4000000 in
set_option maxRecDepth 100000 in
theorem c_X11_has (l : Launch) (γ : jγ) (s k : Nat) (hs : s < 2 ^ 31) (hk : k < 32) : jM (S := Unit) l γ yX11_has cX11_has 2 (some .boolean) ({ frames := 0, cells := 0, slots := 0, locals := 0 } : Room) [.int (nI s), .int (nI k)] [] (fun w0 => some (.int (jB (s.testBit k)))) (fun w0 => []) (fun w0 => True) := by
  refine jM.of [some (.int (nI s)), some (.int (nI k))] rfl (Nat.le_of_ble_eq_true rfl) (by decide) ?_
  intro x g hE hin
  refine J.iload_n g dX11_has_0 rfl rfl ?_
  refine J.iload_n g dX11_has_1 rfl rfl ?_
  refine J.ishr' g dX11_has_2 (j_shr (by omega) (by omega)) ?_
  refine J.iconstN g 1 dX11_has_3 ?_
  refine J.iand' g dX11_has_4 (j_and _ _) ?_
  refine J.iconstN g 1 dX11_has_5 ?_
  refine J.icmp_neN g dX11_has_6 (tgt := 13) (by decide) (by have := @Nat.and_le_right (s >>> k) 1; omega) (by omega) (fun c_6 => ?_) (fun c_6 => ?_)
  · refine J.iconstN g 0 dX11_has_13 ?_
    exact J.zret (by first | rfl | exact j_nz _) g hE () (jB_f (by first | exact jtb_t c_6 | exact jtb_f c_6)) trivial rfl ⟨Nat.le_of_ble_eq_true rfl, Nat.le_of_ble_eq_true rfl⟩ dX11_has_14
  · refine J.iconstN g 1 dX11_has_9 ?_
    refine J.goto g dX11_has_10 (tgt := 14) (by decide) ?_
    exact J.zret (by first | rfl | exact j_nz _) g hE () (jB_t (by first | exact jtb_t c_6 | exact jtb_f c_6)) trivial rfl ⟨Nat.le_of_ble_eq_true rfl, Nat.le_of_ble_eq_true rfl⟩ dX11_has_14
set_option maxHeartbeats 4000000 in
set_option maxRecDepth 100000 in
theorem c_X11_bits (l : Launch) (γ : jγ) (s : Nat) (hs : s < 4096) : jM (S := Unit) l γ yX11_bits cX11_bits 3 (some .int) ({ frames := 0, cells := 0, slots := 0, locals := 0 } : Room) [.int (nI s)] [] (fun w0 => some (.int (nI (jpc s 12)))) (fun w0 => []) (fun w0 => True) := by
  refine jM.of [some (.int (nI s)), none, none] rfl (Nat.le_of_ble_eq_true rfl) (by decide) ?_
  intro x g hE hin
  refine J.iconstN g 0 dX11_bits_0 ?_
  refine J.istore_n g dX11_bits_1 rfl rfl rfl ?_
  try dsimp only [List.set_cons_zero, List.set_cons_succ]
  refine J.iload_n g dX11_bits_2 rfl rfl ?_
  refine J.istore_n g dX11_bits_3 rfl rfl rfl ?_
  try dsimp only [List.set_cons_zero, List.set_cons_succ]
  have lp : ∀ (d : Nat) (t c : Nat), t < d → (t < 4096) → (jpc s 12 = jpc t 12 + c) → J γ l x [] [some (.int (nI s)), some (.int (nI c)), some (.int (nI t))] [] 0 0 4 := by
    intro d
    induction d with
    | zero => intro t c hm; exact absurd hm (Nat.not_lt_zero _)
    | succ d ih_lp =>
      intro t c hm ht hr
      refine J.iload_n g dX11_bits_4 rfl rfl ?_
      refine J.if_eqN g dX11_bits_5 (tgt := 20) (by decide) (by omega) (fun c_5 => ?_) (fun c_5 => ?_)
      · refine J.iload_n g dX11_bits_20 rfl rfl ?_
        exact J.iret g hE () (by rw [hr, c_5, show jpc 0 12 = 0 from by decide +kernel, Nat.zero_add]) trivial rfl ⟨Nat.le_of_ble_eq_true rfl, Nat.le_of_ble_eq_true rfl⟩ dX11_bits_21
      · have hlo := mlw_ok ht c_5
        have hl4 := hlo.2.2.2.1
        have hl5 := hlo.2.2.2.2
        refine J.iincN g 1 dX11_bits_8 rfl rfl ?_
        try dsimp only [List.set_cons_zero, List.set_cons_succ]
        refine J.iload_n g dX11_bits_11 rfl rfl ?_
        refine J.iload_n g dX11_bits_12 rfl rfl ?_
        refine J.iconstN g 1 dX11_bits_13 ?_
        refine J.isubN g dX11_bits_14 (by omega) ?_
        refine J.iand' g dX11_bits_15 (j_and _ _) ?_
        refine J.istore_n g dX11_bits_16 rfl rfl rfl ?_
        try dsimp only [List.set_cons_zero, List.set_cons_succ]
        refine J.goto g dX11_bits_17 (tgt := 4) (by decide) ?_
        exact J.lvle (jle_s (jle_s (jle_s jle_0))) (ih_lp (t &&& (t - 1)) (c + 1) (by omega) (by omega) (by omega))
  exact J.lvle (jle_s (jle_s (jle_s jle_0))) (lp _ s 0 (Nat.lt_succ_self _) hs rfl)
set_option maxHeartbeats 4000000 in
set_option maxRecDepth 100000 in
theorem c_X11_least (l : Launch) (γ : jγ) (s : Nat) (hs : s < 4096) (h0 : s ≠ 0) : jM (S := Unit) l γ yX11_least cX11_least 2 (some .int) ({ frames := 1, cells := 0, slots := 0, locals := 21 } : Room) [.int (nI s)] [] (fun w0 => some (.int (nI (mlw s 12 0)))) (fun w0 => []) (fun w0 => True) := by
  refine jM.of [some (.int (nI s)), none] rfl (Nat.le_of_ble_eq_true rfl) (by decide) ?_
  intro x g hE hin
  have hlo := mlw_ok hs h0
  have hlo2 := hlo.2.1
  refine J.iconstN g 0 dX11_least_0 ?_
  refine J.istore_n g dX11_least_1 rfl rfl rfl ?_
  try dsimp only [List.set_cons_zero, List.set_cons_succ]
  have lp : ∀ (d : Nat) (k : Nat), 12 - k < d → (k < 12) → (mlw s 12 0 = mlw s (12 - k) k) → J γ l x [] [some (.int (nI s)), some (.int (nI k))] [] 0 0 2 := by
    intro d
    induction d with
    | zero => intro k hm; exact absurd hm (Nat.not_lt_zero _)
    | succ d ih_lp =>
      intro k hm hk hr
      refine J.iload_n g dX11_least_2 rfl rfl ?_
      refine J.iload_n g dX11_least_3 rfl rfl ?_
      refine J.callS0 g (c_X11_has l γ _ _ (by omega) (by omega)) jy_X11_has lm_X11_7 ⟨⟨Nat.le_of_ble_eq_true rfl, Nat.le_of_ble_eq_true rfl⟩, Nat.le_of_ble_eq_true rfl, Nat.le_of_ble_eq_true rfl⟩ (Nat.le_of_ble_eq_true rfl) rfl [] rfl rfl dX11_least_4 ?_
      intro _ _
      dsimp only [jpush]
      refine J.if_neB g dX11_least_7 (tgt := 16) (by decide) (fun c_7 => ?_) (fun c_7 => ?_)
      · refine J.iload_n g dX11_least_16 rfl rfl ?_
        exact J.iret g hE () (by rw [hr, mlw_e c_7]) trivial rfl ⟨Nat.le_of_ble_eq_true rfl, Nat.le_of_ble_eq_true rfl⟩ dX11_least_17
      · have hlt := mlw_lt hk hr ⟨hs, h0⟩ c_7
        have hlt1 := hlt.1
        refine J.iincN g 1 dX11_least_10 rfl rfl ?_
        try dsimp only [List.set_cons_zero, List.set_cons_succ]
        refine J.goto g dX11_least_13 (tgt := 2) (by decide) ?_
        exact J.lvle (jle_s (jle_s jle_0)) (ih_lp (k + 1) (by omega) (by omega) hlt.2)
  exact J.lvle (jle_s (jle_s jle_0)) (lp _ 0 (Nat.lt_succ_self _) (by omega) rfl)
set_option maxHeartbeats 4000000 in
set_option maxRecDepth 100000 in
theorem c_X11_lay (l : Launch) (γ : jγ) (mo mta mtd msz mto mfr mso mnu mfa mpl mro mnw mrd mkp msn mbf mlv mik msm msu mbe mfe mmy mof msf mlr mty mfm mrn mrb mln mtb : Nat) (mth mfw mse : Int32) (mwd : Int64) (t : Nat → Nat) (v : Int32) (hl : mtd + 4 ≤ 340) : jM (S := Nat → Nat) l γ yX11_lay cX11_lay 3 none ({ frames := 0, cells := 0, slots := 0, locals := 0 } : Room) [.ref mo, .int v] [(mo, .inr (11, [.int mth, .ref mta, .int (nI mtd), .int (nI msz), .int (nI mto), .int (nI mfr), .int (nI mso), .int (nI mnu), .int (nI mfa), .int mfw, .int (nI mpl), .int (nI mro), .long mwd, .ref mnw, .ref mrd, .ref mkp, .ref msn, .ref mbf, .ref mlv, .ref mik, .int (nI msm), .ref msu, .ref mbe, .ref mfe, .ref mmy, .ref mof, .ref msf, .ref mlr, .ref mty, .ref mfm, .ref mrn, .ref mrb, .int (nI mln), .ref mtb, .int mse])), (mta, .inl (γ.2 0, 340, .inl (fun j => nI (t j))))] (fun u => none) (fun u => [(mo, .inr (11, [.int mth, .ref mta, .int (nI (mtd + 4)), .int (nI msz), .int (nI mto), .int (nI mfr), .int (nI mso), .int (nI mnu), .int (nI mfa), .int mfw, .int (nI mpl), .int (nI mro), .long mwd, .ref mnw, .ref mrd, .ref mkp, .ref msn, .ref mbf, .ref mlv, .ref mik, .int (nI msm), .ref msu, .ref mbe, .ref mfe, .ref mmy, .ref mof, .ref msf, .ref mlr, .ref mty, .ref mfm, .ref mrn, .ref mrb, .int (nI mln), .ref mtb, .int mse])), (mta, .inl (γ.2 0, 340, .inl (fun j => nI (u j))))]) (fun u => map4 t mtd v u) := by
  refine jM.of [some (.ref mo), some (.int v), none] rfl (Nat.le_of_ble_eq_true rfl) (by decide) ?_
  intro x g hE hin
  refine J.bipush (v := nI 24) g dX11_lay_0 (by decide +kernel) ?_
  refine J.istore_n g dX11_lay_2 rfl rfl rfl ?_
  try dsimp only [List.set_cons_zero, List.set_cons_succ]
  refine J.iload_n g dX11_lay_3 rfl rfl ?_
  refine J.if_ltN g dX11_lay_4 (tgt := 39) (by decide) (by omega) ?_
  refine J.aload_n g dX11_lay_7 rfl rfl ?_
  refine J.get g jX11 1 (by decide) lf_X11_11 0 rfl rfl dX11_lay_8 ?_
  refine J.aload_n g dX11_lay_11 rfl rfl ?_
  refine J.get g jX11 2 (by decide) lf_X11_15 0 rfl rfl dX11_lay_12 ?_
  refine J.iload_n g dX11_lay_15 rfl rfl ?_
  refine J.iload_n g dX11_lay_16 rfl rfl ?_
  refine J.iushr g dX11_lay_17 rfl ?_
  refine J.sipush (v := nI 255) g dX11_lay_18 (by decide +kernel) ?_
  refine J.iand' g dX11_lay_21 (jb8_and _) ?_
  refine J.iastN g 1 rfl (by omega) (by decide) dX11_lay_22 ?_
  try dsimp only [List.set_cons_zero, List.set_cons_succ]
  refine J.aload_n g dX11_lay_23 rfl rfl ?_
  refine J.dup g dX11_lay_24 rfl ?_
  refine J.get g jX11 2 (by decide) lf_X11_15 0 rfl rfl dX11_lay_25 ?_
  refine J.iconstN g 1 dX11_lay_28 ?_
  refine J.iaddN g dX11_lay_29 ?_
  refine J.put g jX11 2 (by decide) lf_X11_15 0 rfl rfl (Nat.le_of_ble_eq_true rfl) rfl rfl dX11_lay_30 ?_
  try dsimp only [List.set_cons_zero, List.set_cons_succ]
  refine J.iinc (v := nI 16) g dX11_lay_33 rfl rfl (by decide +kernel) ?_
  try dsimp only [List.set_cons_zero, List.set_cons_succ]
  refine J.goto g dX11_lay_36 (tgt := 3) (by decide) ?_
  refine J.iload_n g dX11_lay_3 rfl rfl ?_
  refine J.if_ltN g dX11_lay_4 (tgt := 39) (by decide) (by omega) ?_
  refine J.aload_n g dX11_lay_7 rfl rfl ?_
  refine J.get g jX11 1 (by decide) lf_X11_11 0 rfl rfl dX11_lay_8 ?_
  refine J.aload_n g dX11_lay_11 rfl rfl ?_
  refine J.get g jX11 2 (by decide) lf_X11_15 0 rfl rfl dX11_lay_12 ?_
  refine J.iload_n g dX11_lay_15 rfl rfl ?_
  refine J.iload_n g dX11_lay_16 rfl rfl ?_
  refine J.iushr g dX11_lay_17 rfl ?_
  refine J.sipush (v := nI 255) g dX11_lay_18 (by decide +kernel) ?_
  refine J.iand' g dX11_lay_21 (jb8_and _) ?_
  refine J.iastN g 1 rfl (by omega) (by decide) dX11_lay_22 ?_
  try dsimp only [List.set_cons_zero, List.set_cons_succ]
  refine J.aload_n g dX11_lay_23 rfl rfl ?_
  refine J.dup g dX11_lay_24 rfl ?_
  refine J.get g jX11 2 (by decide) lf_X11_15 0 rfl rfl dX11_lay_25 ?_
  refine J.iconstN g 1 dX11_lay_28 ?_
  refine J.iaddN g dX11_lay_29 ?_
  refine J.put g jX11 2 (by decide) lf_X11_15 0 rfl rfl (Nat.le_of_ble_eq_true rfl) rfl rfl dX11_lay_30 ?_
  try dsimp only [List.set_cons_zero, List.set_cons_succ]
  refine J.iinc (v := nI 8) g dX11_lay_33 rfl rfl (by decide +kernel) ?_
  try dsimp only [List.set_cons_zero, List.set_cons_succ]
  refine J.goto g dX11_lay_36 (tgt := 3) (by decide) ?_
  refine J.iload_n g dX11_lay_3 rfl rfl ?_
  refine J.if_ltN g dX11_lay_4 (tgt := 39) (by decide) (by omega) ?_
  refine J.aload_n g dX11_lay_7 rfl rfl ?_
  refine J.get g jX11 1 (by decide) lf_X11_11 0 rfl rfl dX11_lay_8 ?_
  refine J.aload_n g dX11_lay_11 rfl rfl ?_
  refine J.get g jX11 2 (by decide) lf_X11_15 0 rfl rfl dX11_lay_12 ?_
  refine J.iload_n g dX11_lay_15 rfl rfl ?_
  refine J.iload_n g dX11_lay_16 rfl rfl ?_
  refine J.iushr g dX11_lay_17 rfl ?_
  refine J.sipush (v := nI 255) g dX11_lay_18 (by decide +kernel) ?_
  refine J.iand' g dX11_lay_21 (jb8_and _) ?_
  refine J.iastN g 1 rfl (by omega) (by decide) dX11_lay_22 ?_
  try dsimp only [List.set_cons_zero, List.set_cons_succ]
  refine J.aload_n g dX11_lay_23 rfl rfl ?_
  refine J.dup g dX11_lay_24 rfl ?_
  refine J.get g jX11 2 (by decide) lf_X11_15 0 rfl rfl dX11_lay_25 ?_
  refine J.iconstN g 1 dX11_lay_28 ?_
  refine J.iaddN g dX11_lay_29 ?_
  refine J.put g jX11 2 (by decide) lf_X11_15 0 rfl rfl (Nat.le_of_ble_eq_true rfl) rfl rfl dX11_lay_30 ?_
  try dsimp only [List.set_cons_zero, List.set_cons_succ]
  refine J.iinc (v := nI 0) g dX11_lay_33 rfl rfl (by decide +kernel) ?_
  try dsimp only [List.set_cons_zero, List.set_cons_succ]
  refine J.goto g dX11_lay_36 (tgt := 3) (by decide) ?_
  refine J.iload_n g dX11_lay_3 rfl rfl ?_
  refine J.if_ltN g dX11_lay_4 (tgt := 39) (by decide) (by omega) ?_
  refine J.aload_n g dX11_lay_7 rfl rfl ?_
  refine J.get g jX11 1 (by decide) lf_X11_11 0 rfl rfl dX11_lay_8 ?_
  refine J.aload_n g dX11_lay_11 rfl rfl ?_
  refine J.get g jX11 2 (by decide) lf_X11_15 0 rfl rfl dX11_lay_12 ?_
  refine J.iload_n g dX11_lay_15 rfl rfl ?_
  refine J.iload_n g dX11_lay_16 rfl rfl ?_
  refine J.iushr g dX11_lay_17 rfl ?_
  refine J.sipush (v := nI 255) g dX11_lay_18 (by decide +kernel) ?_
  refine J.iand' g dX11_lay_21 (jb8_and _) ?_
  refine J.iastN g 1 rfl (by omega) (by decide) dX11_lay_22 ?_
  try dsimp only [List.set_cons_zero, List.set_cons_succ]
  refine J.aload_n g dX11_lay_23 rfl rfl ?_
  refine J.dup g dX11_lay_24 rfl ?_
  refine J.get g jX11 2 (by decide) lf_X11_15 0 rfl rfl dX11_lay_25 ?_
  refine J.iconstN g 1 dX11_lay_28 ?_
  refine J.iaddN g dX11_lay_29 ?_
  refine J.put g jX11 2 (by decide) lf_X11_15 0 rfl rfl (Nat.le_of_ble_eq_true rfl) rfl rfl dX11_lay_30 ?_
  try dsimp only [List.set_cons_zero, List.set_cons_succ]
  refine J.iinc (v := -8) g dX11_lay_33 rfl rfl (by decide +kernel) ?_
  try dsimp only [List.set_cons_zero, List.set_cons_succ]
  refine J.goto g dX11_lay_36 (tgt := 3) (by decide) ?_
  refine J.iload_n g dX11_lay_3 rfl rfl ?_
  refine J.if_lt g dX11_lay_4 (tgt := 39) (by decide) (fun _ => ?_) (fun q => absurd (by decide) q)
  exact J.vret g hE _ rfl (map4_post t mtd v) rfl ⟨Nat.le_of_ble_eq_true rfl, Nat.le_of_ble_eq_true rfl⟩ dX11_lay_39
set_option maxHeartbeats 4000000 in
set_option maxRecDepth 100000 in
theorem c_X11_feed (l : Launch) (γ : jγ) (mo mta mtd msz mto mfr mso mnu mfa mpl mro mnw mrd mkp msn mbf mlv mik msm msu mbe mfe mmy mof msf mlr mty mfm mrn mrb mln mtb : Nat) (mth mfw mse : Int32) (mwd : Int64) (t : Nat → Nat) (a b c e9 e8 : Int32) (hl : mtd ≤ 340) : jM (S := Nat → Nat) l γ yX11_feed cX11_feed 6 (some .int) ({ frames := 1, cells := 0, slots := 0, locals := 22 } : Room) [.ref mo, .int a, .int b, .int c, .int e9, .int e8] [(mo, .inr (11, [.int mth, .ref mta, .int (nI mtd), .int (nI msz), .int (nI mto), .int (nI mfr), .int (nI mso), .int (nI mnu), .int (nI mfa), .int mfw, .int (nI mpl), .int (nI mro), .long mwd, .ref mnw, .ref mrd, .ref mkp, .ref msn, .ref mbf, .ref mlv, .ref mik, .int (nI msm), .ref msu, .ref mbe, .ref mfe, .ref mmy, .ref mof, .ref msf, .ref mlr, .ref mty, .ref mfm, .ref mrn, .ref mrb, .int (nI mln), .ref mtb, .int mse])), (mta, .inl (γ.2 0, 340, .inl (fun j => nI (t j))))] (fun u => some (.int (if mtd + 20 ≤ 340 then nI (mtd + 20) else -1))) (fun u => [(mo, .inr (11, [.int (nI 0), .ref mta, .int (nI (if mtd + 20 ≤ 340 then mtd + 20 else mtd)), .int (nI msz), .int (nI mto), .int (nI mfr), .int (nI mso), .int (nI mnu), .int (nI mfa), .int mfw, .int (nI mpl), .int (nI mro), .long mwd, .ref mnw, .ref mrd, .ref mkp, .ref msn, .ref mbf, .ref mlv, .ref mik, .int (nI msm), .ref msu, .ref mbe, .ref mfe, .ref mmy, .ref mof, .ref msf, .ref mlr, .ref mty, .ref mfm, .ref mrn, .ref mrb, .int (nI mln), .ref mtb, .int mse])), (mta, .inl (γ.2 0, 340, .inl (fun j => nI (u j))))]) (fun u => mfeed t mtd a b c e9 e8 u) := by
  refine jM.of [some (.ref mo), some (.int a), some (.int b), some (.int c), some (.int e9), some (.int e8)] rfl (Nat.le_of_ble_eq_true rfl) (by decide) ?_
  intro x g hE hin
  refine J.aload_n g dX11_feed_0 rfl rfl ?_
  refine J.iconstN g 0 dX11_feed_1 ?_
  refine J.put g jX11 0 (by decide) lf_X11_1 0 rfl rfl (Nat.le_of_ble_eq_true rfl) rfl rfl dX11_feed_2 ?_
  try dsimp only [List.set_cons_zero, List.set_cons_succ]
  refine J.aload_n g dX11_feed_5 rfl rfl ?_
  refine J.get g jX11 2 (by decide) lf_X11_15 0 rfl rfl dX11_feed_6 ?_
  refine J.bipush (v := nI 20) g dX11_feed_9 (by decide +kernel) ?_
  refine J.iaddN g dX11_feed_11 ?_
  refine J.sipush (v := nI 340) g dX11_feed_12 (by decide +kernel) ?_
  refine J.icmp_leN g dX11_feed_15 (tgt := 20) (by decide) (by omega) (by omega) (fun c_15 => ?_) (fun c_15 => ?_)
  · refine J.aload_n g dX11_feed_20 rfl rfl ?_
    refine J.iload_n g dX11_feed_21 rfl rfl ?_
    refine J.callV g (c_X11_lay l γ _ _ _ _ _ _ _ _ _ _ _ _ _ _ _ _ _ _ _ _ _ _ _ _ _ _ _ _ _ _ _ _ _ _ _ _ _ _ (by omega)) jy_X11_lay lm_X11_18 (q0 := 0) rfl jX11.1 ⟨⟨Nat.le_of_ble_eq_true rfl, Nat.le_of_ble_eq_true rfl⟩, Nat.le_of_ble_eq_true rfl, Nat.le_of_ble_eq_true rfl⟩ (Nat.le_of_ble_eq_true rfl) rfl [0, 1] rfl (fun _ => rfl) rfl dX11_feed_22 ?_
    intro u_22 h_22
    dsimp only [jput, List.set_cons_zero, List.set_cons_succ, Option.toList, List.append, List.cons_append, List.nil_append, List.append_nil]
    refine J.aload_n g dX11_feed_25 rfl rfl ?_
    refine J.iload_n g dX11_feed_26 rfl rfl ?_
    refine J.callV g (c_X11_lay l γ _ _ _ _ _ _ _ _ _ _ _ _ _ _ _ _ _ _ _ _ _ _ _ _ _ _ _ _ _ _ _ _ _ _ _ _ _ _ (by omega)) jy_X11_lay lm_X11_18 (q0 := 0) rfl jX11.1 ⟨⟨Nat.le_of_ble_eq_true rfl, Nat.le_of_ble_eq_true rfl⟩, Nat.le_of_ble_eq_true rfl, Nat.le_of_ble_eq_true rfl⟩ (Nat.le_of_ble_eq_true rfl) rfl [0, 1] rfl (fun _ => rfl) rfl dX11_feed_27 ?_
    intro u_27 h_27
    dsimp only [jput, List.set_cons_zero, List.set_cons_succ, Option.toList, List.append, List.cons_append, List.nil_append, List.append_nil]
    refine J.aload_n g dX11_feed_30 rfl rfl ?_
    refine J.iload_n g dX11_feed_31 rfl rfl ?_
    refine J.callV g (c_X11_lay l γ _ _ _ _ _ _ _ _ _ _ _ _ _ _ _ _ _ _ _ _ _ _ _ _ _ _ _ _ _ _ _ _ _ _ _ _ _ _ (by omega)) jy_X11_lay lm_X11_18 (q0 := 0) rfl jX11.1 ⟨⟨Nat.le_of_ble_eq_true rfl, Nat.le_of_ble_eq_true rfl⟩, Nat.le_of_ble_eq_true rfl, Nat.le_of_ble_eq_true rfl⟩ (Nat.le_of_ble_eq_true rfl) rfl [0, 1] rfl (fun _ => rfl) rfl dX11_feed_32 ?_
    intro u_32 h_32
    dsimp only [jput, List.set_cons_zero, List.set_cons_succ, Option.toList, List.append, List.cons_append, List.nil_append, List.append_nil]
    refine J.aload_n g dX11_feed_35 rfl rfl ?_
    refine J.iload g dX11_feed_36 rfl ?_
    refine J.callV g (c_X11_lay l γ _ _ _ _ _ _ _ _ _ _ _ _ _ _ _ _ _ _ _ _ _ _ _ _ _ _ _ _ _ _ _ _ _ _ _ _ _ _ (by omega)) jy_X11_lay lm_X11_18 (q0 := 0) rfl jX11.1 ⟨⟨Nat.le_of_ble_eq_true rfl, Nat.le_of_ble_eq_true rfl⟩, Nat.le_of_ble_eq_true rfl, Nat.le_of_ble_eq_true rfl⟩ (Nat.le_of_ble_eq_true rfl) rfl [0, 1] rfl (fun _ => rfl) rfl dX11_feed_38 ?_
    intro u_38 h_38
    dsimp only [jput, List.set_cons_zero, List.set_cons_succ, Option.toList, List.append, List.cons_append, List.nil_append, List.append_nil]
    refine J.aload_n g dX11_feed_41 rfl rfl ?_
    refine J.iload g dX11_feed_42 rfl ?_
    refine J.callV g (c_X11_lay l γ _ _ _ _ _ _ _ _ _ _ _ _ _ _ _ _ _ _ _ _ _ _ _ _ _ _ _ _ _ _ _ _ _ _ _ _ _ _ (by omega)) jy_X11_lay lm_X11_18 (q0 := 0) rfl jX11.1 ⟨⟨Nat.le_of_ble_eq_true rfl, Nat.le_of_ble_eq_true rfl⟩, Nat.le_of_ble_eq_true rfl, Nat.le_of_ble_eq_true rfl⟩ (Nat.le_of_ble_eq_true rfl) rfl [0, 1] rfl (fun _ => rfl) rfl dX11_feed_44 ?_
    intro u_44 h_44
    dsimp only [jput, List.set_cons_zero, List.set_cons_succ, Option.toList, List.append, List.cons_append, List.nil_append, List.append_nil]
    refine J.aload_n g dX11_feed_47 rfl rfl ?_
    refine J.get g jX11 2 (by decide) lf_X11_15 0 rfl rfl dX11_feed_48 ?_
    exact J.iret g hE u_44 (by rw [if_pos (by omega)]) ⟨fun _ => ⟨u_22, u_27, u_32, u_38, h_22, h_27, h_32, h_38, h_44⟩, fun z => absurd (by omega) z⟩ (by rw [if_pos (by omega)]) ⟨Nat.le_of_ble_eq_true rfl, Nat.le_of_ble_eq_true rfl⟩ dX11_feed_51
  · refine J.iconst (v := -1) g dX11_feed_18 (by decide) ?_
    exact J.iret g hE t (by rw [if_neg (by omega)]) ⟨fun z => absurd z (by omega), fun _ => rfl⟩ (by rw [if_neg (by omega)]) ⟨Nat.le_of_ble_eq_true rfl, Nat.le_of_ble_eq_true rfl⟩ dX11_feed_19
set_option maxHeartbeats 4000000 in
set_option maxRecDepth 100000 in
theorem c_X11_end (l : Launch) (γ : jγ) (mo mta mtd msz mto mfr mso mnu mfa mpl mro mnw mrd mkp msn mbf mlv mik msm msu mbe mfe mmy mof msf mlr mty mfm mrn mrb mln mtb : Nat) (mth mfw mse : Int32) (mwd : Int64) (i : Int32) (hn : mtd ≤ 340) : jM (S := Unit) l γ yX11_end cX11_end 2 (some .boolean) ({ frames := 0, cells := 0, slots := 0, locals := 0 } : Room) [.ref mo, .int i] [(mo, .inr (11, [.int mth, .ref mta, .int (nI mtd), .int (nI msz), .int (nI mto), .int (nI mfr), .int (nI mso), .int (nI mnu), .int (nI mfa), .int mfw, .int (nI mpl), .int (nI mro), .long mwd, .ref mnw, .ref mrd, .ref mkp, .ref msn, .ref mbf, .ref mlv, .ref mik, .int (nI msm), .ref msu, .ref mbe, .ref mfe, .ref mmy, .ref mof, .ref msf, .ref mlr, .ref mty, .ref mfm, .ref mrn, .ref mrb, .int (nI mln), .ref mtb, .int mse]))] (fun w0 => some (.int (jB (jcut i mtd)))) (fun w0 => [(mo, .inr (11, [.int (nI 0), .ref mta, .int (nI (jcutn i mtd)), .int (nI msz), .int (nI mto), .int (nI mfr), .int (nI mso), .int (nI mnu), .int (nI mfa), .int mfw, .int (nI mpl), .int (nI mro), .long mwd, .ref mnw, .ref mrd, .ref mkp, .ref msn, .ref mbf, .ref mlv, .ref mik, .int (nI msm), .ref msu, .ref mbe, .ref mfe, .ref mmy, .ref mof, .ref msf, .ref mlr, .ref mty, .ref mfm, .ref mrn, .ref mrb, .int (nI mln), .ref mtb, .int mse]))]) (fun w0 => True) := by
  refine jM.of [some (.ref mo), some (.int i)] rfl (Nat.le_of_ble_eq_true rfl) (by decide) ?_
  intro x g hE hin
  refine J.aload_n g dX11_end_0 rfl rfl ?_
  refine J.iconstN g 0 dX11_end_1 ?_
  refine J.put g jX11 0 (by decide) lf_X11_1 0 rfl rfl (Nat.le_of_ble_eq_true rfl) rfl rfl dX11_end_2 ?_
  try dsimp only [List.set_cons_zero, List.set_cons_succ]
  refine J.iload_n g dX11_end_5 rfl rfl ?_
  refine J.if_lt g dX11_end_6 (tgt := 17) (by decide) (fun c_6 => ?_) (fun c_6 => ?_)
  · refine J.iconstN g 0 dX11_end_17 ?_
    exact J.zret (by first | rfl | exact j_nz _) g hE () (jB_f (by first | exact jcut_1 c_6 | exact jcut_2 c_14 | exact jcut_3 c_6 c_14)) trivial (by first | rw [jcutn_f (jcut_1 c_6)] | rw [jcutn_f (jcut_2 c_14)]) ⟨Nat.le_of_ble_eq_true rfl, Nat.le_of_ble_eq_true rfl⟩ dX11_end_18
  · refine J.iload_n g dX11_end_9 rfl rfl ?_
    refine J.aload_n g dX11_end_10 rfl rfl ?_
    refine J.get g jX11 2 (by decide) lf_X11_15 0 rfl rfl dX11_end_11 ?_
    refine J.icmp_le g dX11_end_14 (tgt := 19) (by decide) (fun c_14 => ?_) (fun c_14 => ?_)
    · refine J.aload_n g dX11_end_19 rfl rfl ?_
      refine J.iload_n g dX11_end_20 rfl rfl ?_
      refine J.put g jX11 2 (by decide) lf_X11_15 0 rfl rfl (Nat.le_of_ble_eq_true rfl) rfl rfl dX11_end_21 ?_
      try dsimp only [List.set_cons_zero, List.set_cons_succ]
      refine J.iconstN g 1 dX11_end_24 ?_
      exact J.zret (by first | rfl | exact j_nz _) g hE () (jB_t (by first | exact jcut_1 c_6 | exact jcut_2 c_14 | exact jcut_3 c_6 c_14)) trivial (by rw [jcutn_t c_6 c_14]) ⟨Nat.le_of_ble_eq_true rfl, Nat.le_of_ble_eq_true rfl⟩ dX11_end_25
    · refine J.iconstN g 0 dX11_end_17 ?_
      exact J.zret (by first | rfl | exact j_nz _) g hE () (jB_f (by first | exact jcut_1 c_6 | exact jcut_2 c_14 | exact jcut_3 c_6 c_14)) trivial (by first | rw [jcutn_f (jcut_1 c_6)] | rw [jcutn_f (jcut_2 c_14)]) ⟨Nat.le_of_ble_eq_true rfl, Nat.le_of_ble_eq_true rfl⟩ dX11_end_18
set_option maxHeartbeats 4000000 in
set_option maxRecDepth 100000 in
theorem c_X11_copy (l : Launch) (γ : jγ) (ca cb NA NB s t : Nat) (fa fb : Nat → Nat) (hA : NA < 2 ^ 31) (hB : NB < 2 ^ 31) (hs : s + 17 ≤ NA) (ht : t + 17 ≤ NB) : jM (S := Nat → Nat) l γ yX11_copy cX11_copy 5 none ({ frames := 0, cells := 0, slots := 0, locals := 0 } : Room) [.ref ca, .int (nI s), .ref cb, .int (nI t)] [(ca, .inl (γ.2 0, NA, .inl (fun j => nI (fa j)))), (cb, .inl (γ.2 0, NB, .inl (fun j => nI (fb j))))] (fun u => none) (fun u => [(ca, .inl (γ.2 0, NA, .inl (fun j => nI (fa j)))), (cb, .inl (γ.2 0, NB, .inl (fun j => nI (u j))))]) (fun u => ∀ j, u j = if t ≤ j ∧ j < t + 17 then fa (s + (j - t)) else fb j) := by
  refine jM.of [some (.ref ca), some (.int (nI s)), some (.ref cb), some (.int (nI t)), none] rfl (Nat.le_of_ble_eq_true rfl) (by decide) ?_
  intro x g hE hin
  refine J.iconstN g 0 dX11_copy_0 ?_
  refine J.istore g dX11_copy_1 rfl rfl ?_
  try dsimp only [List.set_cons_zero, List.set_cons_succ]
  have lp : ∀ (d : Nat) (k : Nat) (h : Nat → Nat), 17 - k < d → (k ≤ 17) → (∀ j, h j = if t ≤ j ∧ j < t + k then fa (s + (j - t)) else fb j) → J γ l x [(ca, .inl (γ.2 0, NA, .inl (fun j => nI (fa j)))), (cb, .inl (γ.2 0, NB, .inl (fun j => nI (h j))))] [some (.ref ca), some (.int (nI s)), some (.ref cb), some (.int (nI t)), some (.int (nI k))] [] 0 0 3 := by
    intro d
    induction d with
    | zero => intro k h hm; exact absurd hm (Nat.not_lt_zero _)
    | succ d ih_lp =>
      intro k h hm hk hh
      refine J.iload g dX11_copy_3 rfl ?_
      refine J.bipush (v := nI 17) g dX11_copy_5 (by decide +kernel) ?_
      refine J.icmp_geN g dX11_copy_7 (tgt := 28) (by decide) (by omega) (by omega) (fun c_7 => ?_) (fun c_7 => ?_)
      · exact J.vret g hE h rfl (fun j => by rw [hh j, show k = 17 by omega]) rfl ⟨Nat.le_of_ble_eq_true rfl, Nat.le_of_ble_eq_true rfl⟩ dX11_copy_28
      · refine J.aload_n g dX11_copy_10 rfl rfl ?_
        refine J.iload_n g dX11_copy_11 rfl rfl ?_
        refine J.iload g dX11_copy_12 rfl ?_
        refine J.iaddN g dX11_copy_14 ?_
        refine J.aload_n g dX11_copy_15 rfl rfl ?_
        refine J.iload_n g dX11_copy_16 rfl rfl ?_
        refine J.iload g dX11_copy_17 rfl ?_
        refine J.iaddN g dX11_copy_19 ?_
        refine J.ialdN g 0 rfl (by omega) (by omega) dX11_copy_20 ?_
        refine J.iastN g 1 rfl (by omega) (by omega) dX11_copy_21 ?_
        try dsimp only [List.set_cons_zero, List.set_cons_succ]
        refine J.iincN g 1 dX11_copy_22 rfl rfl ?_
        try dsimp only [List.set_cons_zero, List.set_cons_succ]
        refine J.goto g dX11_copy_25 (tgt := 3) (by decide) ?_
        exact J.lvle (jle_s (jle_s (jle_s (jle_s (jle_s jle_0))))) (ih_lp (k + 1) (va_up h (t + k) (fa (s + k))) (by omega) (by omega) (mcp_step hh))
  exact J.lvle (jle_s (jle_s (jle_s (jle_s (jle_s jle_0))))) (lp _ 0 fb (Nat.lt_succ_self _) (Nat.zero_le _) (fun j => by rw [if_neg (by omega)]))
set_option maxHeartbeats 4000000 in
set_option maxRecDepth 100000 in
theorem c_X11_orderOf (l : Launch) (γ : jγ) (ro : Nat) (w : Nat → Nat) (h3 : w 0 ≤ 3) : jM (S := Unit) l γ yX11_orderOf cX11_orderOf 3 (some .int) ({ frames := 0, cells := 0, slots := 0, locals := 0 } : Room) [.ref ro] [(ro, .inl (γ.2 0, 17, .inl (fun j => nI (w j))))] (fun w0 => some (.int (nI (mord w)))) (fun w0 => [(ro, .inl (γ.2 0, 17, .inl (fun j => nI (w j))))]) (fun w0 => True) := by
  refine jM.of [some (.ref ro), none, none] rfl (Nat.le_of_ble_eq_true rfl) (by decide) ?_
  intro x g hE hin
  refine J.aload_n g dX11_orderOf_0 rfl rfl ?_
  refine J.iconstN g 0 dX11_orderOf_1 ?_
  refine J.ialdN g 0 rfl (by omega) (by decide) dX11_orderOf_2 ?_
  refine J.if_neN g dX11_orderOf_3 (tgt := 8) (by decide) (by omega) (fun c_3 => ?_) (fun c_3 => ?_)
  · refine J.iconstN g 1 dX11_orderOf_8 ?_
    refine J.istore_n g dX11_orderOf_9 rfl rfl rfl ?_
    try dsimp only [List.set_cons_zero, List.set_cons_succ]
    refine J.iconstN g 0 dX11_orderOf_10 ?_
    refine J.istore_n g dX11_orderOf_11 rfl rfl rfl ?_
    try dsimp only [List.set_cons_zero, List.set_cons_succ]
    have lp : ∀ (d : Nat) (i : Nat), w 0 - i < d → (i ≤ w 0) → J γ l x [(ro, .inl (γ.2 0, 17, .inl (fun j => nI (w j))))] [some (.ref ro), some (.int (nI (mpr w i))), some (.int (nI i))] [] 0 0 12 := by
      intro d
      induction d with
      | zero => intro i hm; exact absurd hm (Nat.not_lt_zero _)
      | succ d ih_lp =>
        intro i hm hi
        refine J.iload_n g dX11_orderOf_12 rfl rfl ?_
        refine J.aload_n g dX11_orderOf_13 rfl rfl ?_
        refine J.iconstN g 0 dX11_orderOf_14 ?_
        refine J.ialdN g 0 rfl (by omega) (by decide) dX11_orderOf_15 ?_
        refine J.icmp_geN g dX11_orderOf_16 (tgt := 33) (by decide) (by omega) (by omega) (fun c_16 => ?_) (fun c_16 => ?_)
        · refine J.iload_n g dX11_orderOf_33 rfl rfl ?_
          exact J.iret g hE () (by rw [mord, if_neg c_3, show w 0 = i by omega]) trivial rfl ⟨Nat.le_of_ble_eq_true rfl, Nat.le_of_ble_eq_true rfl⟩ dX11_orderOf_34
        · refine J.iload_n g dX11_orderOf_19 rfl rfl ?_
          refine J.aload_n g dX11_orderOf_20 rfl rfl ?_
          refine J.iconstN g 1 dX11_orderOf_21 ?_
          refine J.iload_n g dX11_orderOf_22 rfl rfl ?_
          refine J.iaddN g dX11_orderOf_23 ?_
          refine J.ialdN g 0 rfl (by omega) (by decide) dX11_orderOf_24 ?_
          refine J.imulN g dX11_orderOf_25 ?_
          refine J.istore_n g dX11_orderOf_26 rfl rfl rfl ?_
          try dsimp only [List.set_cons_zero, List.set_cons_succ]
          refine J.iincN g 1 dX11_orderOf_27 rfl rfl ?_
          try dsimp only [List.set_cons_zero, List.set_cons_succ]
          refine J.goto g dX11_orderOf_30 (tgt := 12) (by decide) ?_
          exact J.lvle (jle_s (jle_s (jle_s jle_0))) (ih_lp (i + 1) (by omega) (by omega))
    exact J.lvle (jle_s (jle_s (jle_s jle_0))) (lp _ 0 (Nat.lt_succ_self _) (Nat.zero_le _))
  · refine J.iconstN g 0 dX11_orderOf_6 ?_
    exact J.iret g hE () (by rw [mord, if_pos c_3]) trivial rfl ⟨Nat.le_of_ble_eq_true rfl, Nat.le_of_ble_eq_true rfl⟩ dX11_orderOf_7
set_option maxHeartbeats 4000000 in
set_option maxRecDepth 100000 in
theorem c_X11_order (l : Launch) (γ : jγ) (mo mta mtd msz mto mfr mso mnu mfa mpl mro mnw mrd mkp msn mbf mlv mik msm msu mbe mfe mmy mof msf mlr mty mfm mrn mrb mln mtb : Nat) (mth mfw mse : Int32) (mwd : Int64) (cd n : Nat) (f w : Nat → Nat) (hw : mIs cd n f w) : jM (S := Unit) l γ yX11_order cX11_order 1 (some .int) ({ frames := 1, cells := 0, slots := 0, locals := 22 } : Room) [.ref mo] [(mo, .inr (11, [.int mth, .ref mta, .int (nI mtd), .int (nI msz), .int (nI mto), .int (nI mfr), .int (nI mso), .int (nI mnu), .int (nI mfa), .int mfw, .int (nI mpl), .int (nI mro), .long mwd, .ref mnw, .ref mrd, .ref mkp, .ref msn, .ref mbf, .ref mlv, .ref mik, .int (nI msm), .ref msu, .ref mbe, .ref mfe, .ref mmy, .ref mof, .ref msf, .ref mlr, .ref mty, .ref mfm, .ref mrn, .ref mrb, .int (nI mln), .ref mtb, .int mse])), (mnw, .inl (γ.2 0, 17, .inl (fun j => nI (w j))))] (fun w0 => some (.int (nI (god cd)))) (fun w0 => [(mo, .inr (11, [.int mth, .ref mta, .int (nI mtd), .int (nI msz), .int (nI mto), .int (nI mfr), .int (nI mso), .int (nI mnu), .int (nI mfa), .int mfw, .int (nI mpl), .int (nI mro), .long mwd, .ref mnw, .ref mrd, .ref mkp, .ref msn, .ref mbf, .ref mlv, .ref mik, .int (nI msm), .ref msu, .ref mbe, .ref mfe, .ref mmy, .ref mof, .ref msf, .ref mlr, .ref mty, .ref mfm, .ref mrn, .ref mrb, .int (nI mln), .ref mtb, .int mse])), (mnw, .inl (γ.2 0, 17, .inl (fun j => nI (w j))))]) (fun w0 => True) := by
  refine jM.of [some (.ref mo)] rfl (Nat.le_of_ble_eq_true rfl) (by decide) ?_
  intro x g hE hin
  have hwg := hw.g
  have hw5 := hw.2.2.2.2.2.1
  have hwf := hw.2.2.2.2.2.2
  have hw3 := hw.2.2.1
  refine J.aload_n g dX11_order_0 rfl rfl ?_
  refine J.get g jX11 13 (by decide) lf_X11_85 0 rfl rfl dX11_order_1 ?_
  refine J.callS0 g (c_X11_orderOf l γ _ _ (by omega)) jy_X11_orderOf lm_X11_149 ⟨⟨Nat.le_of_ble_eq_true rfl, Nat.le_of_ble_eq_true rfl⟩, Nat.le_of_ble_eq_true rfl, Nat.le_of_ble_eq_true rfl⟩ (Nat.le_of_ble_eq_true rfl) rfl [1] rfl rfl dX11_order_4 ?_
  intro _ _
  dsimp only [jpush]
  rw [hw.ord]
  exact J.iret g hE () rfl trivial rfl ⟨Nat.le_of_ble_eq_true rfl, Nat.le_of_ble_eq_true rfl⟩ dX11_order_7
set_option maxHeartbeats 4000000 in
set_option maxRecDepth 100000 in
theorem c_X11_places (l : Launch) (γ : jγ) (mo mta mtd msz mto mfr mso mnu mfa mpl mro mnw mrd mkp msn mbf mlv mik msm msu mbe mfe mmy mof msf mlr mty mfm mrn mrb mln mtb : Nat) (mth mfw mse : Int32) (mwd : Int64) (cd n : Nat) (f w : Nat → Nat) (hw : mIs cd n f w) : jM (S := Unit) l γ yX11_places cX11_places 1 (some .int) ({ frames := 0, cells := 0, slots := 0, locals := 0 } : Room) [.ref mo] [(mo, .inr (11, [.int mth, .ref mta, .int (nI mtd), .int (nI msz), .int (nI mto), .int (nI mfr), .int (nI mso), .int (nI mnu), .int (nI mfa), .int mfw, .int (nI mpl), .int (nI mro), .long mwd, .ref mnw, .ref mrd, .ref mkp, .ref msn, .ref mbf, .ref mlv, .ref mik, .int (nI msm), .ref msu, .ref mbe, .ref mfe, .ref mmy, .ref mof, .ref msf, .ref mlr, .ref mty, .ref mfm, .ref mrn, .ref mrb, .int (nI mln), .ref mtb, .int mse])), (mnw, .inl (γ.2 0, 17, .inl (fun j => nI (w j))))] (fun w0 => some (.int (nI n))) (fun w0 => [(mo, .inr (11, [.int mth, .ref mta, .int (nI mtd), .int (nI msz), .int (nI mto), .int (nI mfr), .int (nI mso), .int (nI mnu), .int (nI mfa), .int mfw, .int (nI mpl), .int (nI mro), .long mwd, .ref mnw, .ref mrd, .ref mkp, .ref msn, .ref mbf, .ref mlv, .ref mik, .int (nI msm), .ref msu, .ref mbe, .ref mfe, .ref mmy, .ref mof, .ref msf, .ref mlr, .ref mty, .ref mfm, .ref mrn, .ref mrb, .int (nI mln), .ref mtb, .int mse])), (mnw, .inl (γ.2 0, 17, .inl (fun j => nI (w j))))]) (fun w0 => True) := by
  refine jM.of [some (.ref mo)] rfl (Nat.le_of_ble_eq_true rfl) (by decide) ?_
  intro x g hE hin
  have hwg := hw.g
  have hw5 := hw.2.2.2.2.2.1
  have hwf := hw.2.2.2.2.2.2
  have hw3 := hw.2.2.1
  refine J.aload_n g dX11_places_0 rfl rfl ?_
  refine J.get g jX11 13 (by decide) lf_X11_85 0 rfl rfl dX11_places_1 ?_
  refine J.iconstN g 4 dX11_places_4 ?_
  refine J.ialdN g 1 rfl (by omega) (by decide) dX11_places_5 ?_
  exact J.iret g hE () (by rw [hwg.2.2.2.1]) trivial rfl ⟨Nat.le_of_ble_eq_true rfl, Nat.le_of_ble_eq_true rfl⟩ dX11_places_6
set_option maxHeartbeats 4000000 in
set_option maxRecDepth 100000 in
theorem c_X11_isElement (l : Launch) (γ : jγ) (mo mta mtd msz mto mfr mso mnu mfa mpl mro mnw mrd mkp msn mbf mlv mik msm msu mbe mfe mmy mof msf mlr mty mfm mrn mrb mln mtb : Nat) (mth mfw mse : Int32) (mwd : Int64) (cd n : Nat) (f w : Nat → Nat) (i : Int32) (hw : mIs cd n f w) : jM (S := Unit) l γ yX11_isElement cX11_isElement 2 (some .boolean) ({ frames := 2, cells := 0, slots := 0, locals := 42 } : Room) [.ref mo, .int i] [(mo, .inr (11, [.int mth, .ref mta, .int (nI mtd), .int (nI msz), .int (nI mto), .int (nI mfr), .int (nI mso), .int (nI mnu), .int (nI mfa), .int mfw, .int (nI mpl), .int (nI mro), .long mwd, .ref mnw, .ref mrd, .ref mkp, .ref msn, .ref mbf, .ref mlv, .ref mik, .int (nI msm), .ref msu, .ref mbe, .ref mfe, .ref mmy, .ref mof, .ref msf, .ref mlr, .ref mty, .ref mfm, .ref mrn, .ref mrb, .int (nI mln), .ref mtb, .int mse])), (mnw, .inl (γ.2 0, 17, .inl (fun j => nI (w j))))] (fun w0 => some (.int (jB (jhas i (god cd))))) (fun w0 => [(mo, .inr (11, [.int mth, .ref mta, .int (nI mtd), .int (nI msz), .int (nI mto), .int (nI mfr), .int (nI mso), .int (nI mnu), .int (nI mfa), .int mfw, .int (nI mpl), .int (nI mro), .long mwd, .ref mnw, .ref mrd, .ref mkp, .ref msn, .ref mbf, .ref mlv, .ref mik, .int (nI msm), .ref msu, .ref mbe, .ref mfe, .ref mmy, .ref mof, .ref msf, .ref mlr, .ref mty, .ref mfm, .ref mrn, .ref mrb, .int (nI mln), .ref mtb, .int mse])), (mnw, .inl (γ.2 0, 17, .inl (fun j => nI (w j))))]) (fun w0 => True) := by
  refine jM.of [some (.ref mo), some (.int i)] rfl (Nat.le_of_ble_eq_true rfl) (by decide) ?_
  intro x g hE hin
  have hwg := hw.g
  have hw5 := hw.2.2.2.2.2.1
  have hwf := hw.2.2.2.2.2.2
  have hw3 := hw.2.2.1
  refine J.iload_n g dX11_isElement_0 rfl rfl ?_
  refine J.iconstN g 0 dX11_isElement_1 ?_
  refine J.aload_n g dX11_isElement_2 rfl rfl ?_
  refine J.callV0 g (c_X11_order l γ _ _ _ _ _ _ _ _ _ _ _ _ _ _ _ _ _ _ _ _ _ _ _ _ _ _ _ _ _ _ _ _ _ _ _ _ _ _ _ _ hw) jy_X11_order lm_X11_186 (q0 := 0) rfl jX11.1 ⟨⟨Nat.le_of_ble_eq_true rfl, Nat.le_of_ble_eq_true rfl⟩, Nat.le_of_ble_eq_true rfl, Nat.le_of_ble_eq_true rfl⟩ (Nat.le_of_ble_eq_true rfl) rfl [0, 1] rfl rfl dX11_isElement_3 ?_
  intro _ _
  dsimp only [jpush]
  refine J.iconstN g 1 dX11_isElement_6 ?_
  refine J.isub' g dX11_isElement_7 (j_subm _) ?_
  refine J.callS0 g (c_X11_isIn l γ _ _ _ ) jy_X11_isIn lm_X11_157 ⟨⟨Nat.le_of_ble_eq_true rfl, Nat.le_of_ble_eq_true rfl⟩, Nat.le_of_ble_eq_true rfl, Nat.le_of_ble_eq_true rfl⟩ (Nat.le_of_ble_eq_true rfl) rfl [] rfl rfl dX11_isElement_8 ?_
  intro _ _
  dsimp only [jpush]
  exact J.zret (by first | rfl | exact j_nz _) g hE () (by rw [mIn_has (by omega)]) trivial rfl ⟨Nat.le_of_ble_eq_true rfl, Nat.le_of_ble_eq_true rfl⟩ dX11_isElement_11
set_option maxHeartbeats 4000000 in
set_option maxRecDepth 100000 in
theorem c_X11_isPlace (l : Launch) (γ : jγ) (mo mta mtd msz mto mfr mso mnu mfa mpl mro mnw mrd mkp msn mbf mlv mik msm msu mbe mfe mmy mof msf mlr mty mfm mrn mrb mln mtb : Nat) (mth mfw mse : Int32) (mwd : Int64) (cd n : Nat) (f w : Nat → Nat) (i : Int32) (hw : mIs cd n f w) : jM (S := Unit) l γ yX11_isPlace cX11_isPlace 2 (some .boolean) ({ frames := 1, cells := 0, slots := 0, locals := 22 } : Room) [.ref mo, .int i] [(mo, .inr (11, [.int mth, .ref mta, .int (nI mtd), .int (nI msz), .int (nI mto), .int (nI mfr), .int (nI mso), .int (nI mnu), .int (nI mfa), .int mfw, .int (nI mpl), .int (nI mro), .long mwd, .ref mnw, .ref mrd, .ref mkp, .ref msn, .ref mbf, .ref mlv, .ref mik, .int (nI msm), .ref msu, .ref mbe, .ref mfe, .ref mmy, .ref mof, .ref msf, .ref mlr, .ref mty, .ref mfm, .ref mrn, .ref mrb, .int (nI mln), .ref mtb, .int mse])), (mnw, .inl (γ.2 0, 17, .inl (fun j => nI (w j))))] (fun w0 => some (.int (jB (jhas i n)))) (fun w0 => [(mo, .inr (11, [.int mth, .ref mta, .int (nI mtd), .int (nI msz), .int (nI mto), .int (nI mfr), .int (nI mso), .int (nI mnu), .int (nI mfa), .int mfw, .int (nI mpl), .int (nI mro), .long mwd, .ref mnw, .ref mrd, .ref mkp, .ref msn, .ref mbf, .ref mlv, .ref mik, .int (nI msm), .ref msu, .ref mbe, .ref mfe, .ref mmy, .ref mof, .ref msf, .ref mlr, .ref mty, .ref mfm, .ref mrn, .ref mrb, .int (nI mln), .ref mtb, .int mse])), (mnw, .inl (γ.2 0, 17, .inl (fun j => nI (w j))))]) (fun w0 => True) := by
  refine jM.of [some (.ref mo), some (.int i)] rfl (Nat.le_of_ble_eq_true rfl) (by decide) ?_
  intro x g hE hin
  have hwg := hw.g
  have hw5 := hw.2.2.2.2.2.1
  have hwf := hw.2.2.2.2.2.2
  have hw3 := hw.2.2.1
  refine J.iload_n g dX11_isPlace_0 rfl rfl ?_
  refine J.iconstN g 0 dX11_isPlace_1 ?_
  refine J.aload_n g dX11_isPlace_2 rfl rfl ?_
  refine J.callV0 g (c_X11_places l γ _ _ _ _ _ _ _ _ _ _ _ _ _ _ _ _ _ _ _ _ _ _ _ _ _ _ _ _ _ _ _ _ _ _ _ _ _ _ _ _ hw) jy_X11_places lm_X11_190 (q0 := 0) rfl jX11.1 ⟨⟨Nat.le_of_ble_eq_true rfl, Nat.le_of_ble_eq_true rfl⟩, Nat.le_of_ble_eq_true rfl, Nat.le_of_ble_eq_true rfl⟩ (Nat.le_of_ble_eq_true rfl) rfl [0, 1] rfl rfl dX11_isPlace_3 ?_
  intro _ _
  dsimp only [jpush]
  refine J.iconstN g 1 dX11_isPlace_6 ?_
  refine J.isub' g dX11_isPlace_7 (j_subm _) ?_
  refine J.callS0 g (c_X11_isIn l γ _ _ _ ) jy_X11_isIn lm_X11_157 ⟨⟨Nat.le_of_ble_eq_true rfl, Nat.le_of_ble_eq_true rfl⟩, Nat.le_of_ble_eq_true rfl, Nat.le_of_ble_eq_true rfl⟩ (Nat.le_of_ble_eq_true rfl) rfl [] rfl rfl dX11_isPlace_8 ?_
  intro _ _
  dsimp only [jpush]
  exact J.zret (by first | rfl | exact j_nz _) g hE () (by rw [mIn_has (by omega)]) trivial rfl ⟨Nat.le_of_ble_eq_true rfl, Nat.le_of_ble_eq_true rfl⟩ dX11_isPlace_11
set_option maxHeartbeats 4000000 in
set_option maxRecDepth 100000 in
theorem c_X11_all (l : Launch) (γ : jγ) (mo mta mtd msz mto mfr mso mnu mfa mpl mro mnw mrd mkp msn mbf mlv mik msm msu mbe mfe mmy mof msf mlr mty mfm mrn mrb mln mtb : Nat) (mth mfw mse : Int32) (mwd : Int64) (cd n : Nat) (f w : Nat → Nat) (hw : mIs cd n f w) : jM (S := Unit) l γ yX11_all cX11_all 1 (some .int) ({ frames := 1, cells := 0, slots := 0, locals := 20 } : Room) [.ref mo] [(mo, .inr (11, [.int mth, .ref mta, .int (nI mtd), .int (nI msz), .int (nI mto), .int (nI mfr), .int (nI mso), .int (nI mnu), .int (nI mfa), .int mfw, .int (nI mpl), .int (nI mro), .long mwd, .ref mnw, .ref mrd, .ref mkp, .ref msn, .ref mbf, .ref mlv, .ref mik, .int (nI msm), .ref msu, .ref mbe, .ref mfe, .ref mmy, .ref mof, .ref msf, .ref mlr, .ref mty, .ref mfm, .ref mrn, .ref mrb, .int (nI mln), .ref mtb, .int mse])), (mnw, .inl (γ.2 0, 17, .inl (fun j => nI (w j))))] (fun w0 => some (.int (nI (2 ^ n - 1)))) (fun w0 => [(mo, .inr (11, [.int mth, .ref mta, .int (nI mtd), .int (nI msz), .int (nI mto), .int (nI mfr), .int (nI mso), .int (nI mnu), .int (nI mfa), .int mfw, .int (nI mpl), .int (nI mro), .long mwd, .ref mnw, .ref mrd, .ref mkp, .ref msn, .ref mbf, .ref mlv, .ref mik, .int (nI msm), .ref msu, .ref mbe, .ref mfe, .ref mmy, .ref mof, .ref msf, .ref mlr, .ref mty, .ref mfm, .ref mrn, .ref mrb, .int (nI mln), .ref mtb, .int mse])), (mnw, .inl (γ.2 0, 17, .inl (fun j => nI (w j))))]) (fun w0 => True) := by
  refine jM.of [some (.ref mo)] rfl (Nat.le_of_ble_eq_true rfl) (by decide) ?_
  intro x g hE hin
  have hwg := hw.g
  have hw5 := hw.2.2.2.2.2.1
  have hwf := hw.2.2.2.2.2.2
  have hw3 := hw.2.2.1
  refine J.iconstN g 1 dX11_all_0 ?_
  refine J.aload_n g dX11_all_1 rfl rfl ?_
  refine J.callV0 g (c_X11_places l γ _ _ _ _ _ _ _ _ _ _ _ _ _ _ _ _ _ _ _ _ _ _ _ _ _ _ _ _ _ _ _ _ _ _ _ _ _ _ _ _ hw) jy_X11_places lm_X11_190 (q0 := 0) rfl jX11.1 ⟨⟨Nat.le_of_ble_eq_true rfl, Nat.le_of_ble_eq_true rfl⟩, Nat.le_of_ble_eq_true rfl, Nat.le_of_ble_eq_true rfl⟩ (Nat.le_of_ble_eq_true rfl) rfl [0, 1] rfl rfl dX11_all_2 ?_
  intro _ _
  dsimp only [jpush]
  refine J.ishl' g dX11_all_5 (j_pow (by omega)) ?_
  refine J.iconstN g 1 dX11_all_6 ?_
  refine J.isubN g dX11_all_7 (by have := Nat.two_pow_pos n; omega) ?_
  exact J.iret g hE () rfl trivial rfl ⟨Nat.le_of_ble_eq_true rfl, Nat.le_of_ble_eq_true rfl⟩ dX11_all_8
set_option maxHeartbeats 4000000 in
set_option maxRecDepth 100000 in
theorem c_X11_mixed (l : Launch) (γ : jγ) (mo mta mtd msz mto mfr mso mnu mfa mpl mro mnw mrd mkp msn mbf mlv mik msm msu mbe mfe mmy mof msf mlr mty mfm mrn mrb mln mtb : Nat) (mth mfw mse : Int32) (mwd : Int64) (cd n : Nat) (f w : Nat → Nat) (a u b v : Nat) (hw : mIs cd n f w) (ha : a < 2 ^ 10) (hb : b < 2 ^ 10) (hu : u < 2 ^ 10) (hv : v < 2 ^ 10) : jM (S := Unit) l γ yX11_mixed cX11_mixed 11 (some .int) ({ frames := 0, cells := 0, slots := 0, locals := 0 } : Room) [.ref mo, .int (nI a), .int (nI u), .int (nI b), .int (nI v)] [(mo, .inr (11, [.int mth, .ref mta, .int (nI mtd), .int (nI msz), .int (nI mto), .int (nI mfr), .int (nI mso), .int (nI mnu), .int (nI mfa), .int mfw, .int (nI mpl), .int (nI mro), .long mwd, .ref mnw, .ref mrd, .ref mkp, .ref msn, .ref mbf, .ref mlv, .ref mik, .int (nI msm), .ref msu, .ref mbe, .ref mfe, .ref mmy, .ref mof, .ref msf, .ref mlr, .ref mty, .ref mfm, .ref mrn, .ref mrb, .int (nI mln), .ref mtb, .int mse])), (mnw, .inl (γ.2 0, 17, .inl (fun j => nI (w j))))] (fun w0 => some (.int (nI (gmx cd u v (gpt cd) a b 1 0)))) (fun w0 => [(mo, .inr (11, [.int mth, .ref mta, .int (nI mtd), .int (nI msz), .int (nI mto), .int (nI mfr), .int (nI mso), .int (nI mnu), .int (nI mfa), .int mfw, .int (nI mpl), .int (nI mro), .long mwd, .ref mnw, .ref mrd, .ref mkp, .ref msn, .ref mbf, .ref mlv, .ref mik, .int (nI msm), .ref msu, .ref mbe, .ref mfe, .ref mmy, .ref mof, .ref msf, .ref mlr, .ref mty, .ref mfm, .ref mrn, .ref mrb, .int (nI mln), .ref mtb, .int mse])), (mnw, .inl (γ.2 0, 17, .inl (fun j => nI (w j))))]) (fun w0 => True) := by
  refine jM.of [some (.ref mo), some (.int (nI a)), some (.int (nI u)), some (.int (nI b)), some (.int (nI v)), none, none, none, none, none, none] rfl (Nat.le_of_ble_eq_true rfl) (by decide) ?_
  intro x g hE hin
  have hwg := hw.g
  have hw5 := hw.2.2.2.2.2.1
  have hwf := hw.2.2.2.2.2.2
  have hw3 := hw.2.2.1
  refine J.iload_n g dX11_mixed_0 rfl rfl ?_
  refine J.istore g dX11_mixed_1 rfl rfl ?_
  try dsimp only [List.set_cons_zero, List.set_cons_succ]
  refine J.iload_n g dX11_mixed_3 rfl rfl ?_
  refine J.istore g dX11_mixed_4 rfl rfl ?_
  try dsimp only [List.set_cons_zero, List.set_cons_succ]
  refine J.iconstN g 1 dX11_mixed_6 ?_
  refine J.istore g dX11_mixed_7 rfl rfl ?_
  try dsimp only [List.set_cons_zero, List.set_cons_succ]
  refine J.iconstN g 0 dX11_mixed_9 ?_
  refine J.istore g dX11_mixed_10 rfl rfl ?_
  try dsimp only [List.set_cons_zero, List.set_cons_succ]
  refine J.aload_n g dX11_mixed_12 rfl rfl ?_
  refine J.get g jX11 13 (by decide) lf_X11_85 0 rfl rfl dX11_mixed_13 ?_
  refine J.iconstN g 0 dX11_mixed_16 ?_
  refine J.ialdN g 1 rfl (by omega) (by decide) dX11_mixed_17 ?_
  refine J.iconstN g 1 dX11_mixed_18 ?_
  refine J.isub' g dX11_mixed_19 (j_subm _) ?_
  refine J.istore g dX11_mixed_20 rfl rfl ?_
  try dsimp only [List.set_cons_zero, List.set_cons_succ]
  have lp : ∀ (k : Nat) (xa yb by1 rr : Nat), (k ≤ gpt cd) → (xa < 2 ^ 10) → (yb < 2 ^ 10) → (gmx cd u v (gpt cd) a b 1 0 = gmx cd u v k xa yb by1 rr) → J γ l x [(mo, .inr (11, [.int mth, .ref mta, .int (nI mtd), .int (nI msz), .int (nI mto), .int (nI mfr), .int (nI mso), .int (nI mnu), .int (nI mfa), .int mfw, .int (nI mpl), .int (nI mro), .long mwd, .ref mnw, .ref mrd, .ref mkp, .ref msn, .ref mbf, .ref mlv, .ref mik, .int (nI msm), .ref msu, .ref mbe, .ref mfe, .ref mmy, .ref mof, .ref msf, .ref mlr, .ref mty, .ref mfm, .ref mrn, .ref mrb, .int (nI mln), .ref mtb, .int mse])), (mnw, .inl (γ.2 0, 17, .inl (fun j => nI (w j))))] [some (.ref mo), some (.int (nI a)), some (.int (nI u)), some (.int (nI b)), some (.int (nI v)), some (.int (nI xa)), some (.int (nI yb)), some (.int (nI by1)), some (.int (nI rr)), some (.int (jm1 k)), none] [] 0 0 22 := by
    intro k
    induction k with
    | zero =>
      intro xa yb by1 rr hk hxa hyb hr
      rw [jm1_0]
      refine J.iload g dX11_mixed_22 rfl ?_
      refine J.if_lt g dX11_mixed_24 (tgt := 92) (by decide) (fun _ => ?_) (fun q => absurd (by decide) q)
      refine J.iload g dX11_mixed_92 rfl ?_
      exact J.iret g hE () (by rw [hr]; rfl) trivial rfl ⟨Nat.le_of_ble_eq_true rfl, Nat.le_of_ble_eq_true rfl⟩ dX11_mixed_94
    | succ k ih_lp =>
      intro xa yb by1 rr hk hxa hyb hr
      rw [jm1_s]
      refine J.iload g dX11_mixed_22 rfl ?_
      refine J.if_ltN g dX11_mixed_24 (tgt := 92) (by decide) (by omega) ?_
      have hsk := hw3 k (by omega)
      have hg2 := (g_small cd hw.1).2.2.2.2.1 k (by omega)
      have hxl := Nat.div_le_self xa (w (1 + k))
      have hyl := Nat.div_le_self yb (w (1 + k))
      have hm1 : xa % w (1 + k) < 24 := by have := Nat.mod_lt xa (show 0 < w (1 + k) by omega); omega
      have hm2 : yb % w (1 + k) < 24 := by have := Nat.mod_lt yb (show 0 < w (1 + k) by omega); omega
      have hm3 : xa % w (1 + k) * u ≤ 24 * 2 ^ 10 := Nat.mul_le_mul (by omega) (by omega)
      have hm4 : yb % w (1 + k) * v ≤ 24 * 2 ^ 10 := Nat.mul_le_mul (by omega) (by omega)
      have hd1 : xa / w (1 + k) < 2 ^ 10 := by omega
      have hd2 : yb / w (1 + k) < 2 ^ 10 := by omega
      have hd3 : gmx cd u v (gpt cd) a b 1 0 = gmx cd u v k (xa / w (1 + k)) (yb / w (1 + k)) (by1 * w (1 + k)) (rr + by1 * ((xa % w (1 + k) * u + yb % w (1 + k) * v) % w (1 + k))) := by rw [hr, hsk]; rfl
      refine J.aload_n g dX11_mixed_27 rfl rfl ?_
      refine J.get g jX11 13 (by decide) lf_X11_85 0 rfl rfl dX11_mixed_28 ?_
      refine J.iconstN g 1 dX11_mixed_31 ?_
      refine J.iload g dX11_mixed_32 rfl ?_
      refine J.iaddN g dX11_mixed_34 ?_
      refine J.ialdN g 1 rfl (by omega) (by decide) dX11_mixed_35 ?_
      refine J.istore g dX11_mixed_36 rfl rfl ?_
      try dsimp only [List.set_cons_zero, List.set_cons_succ]
      refine J.iload g dX11_mixed_38 rfl ?_
      refine J.iload g dX11_mixed_40 rfl ?_
      refine J.iload g dX11_mixed_42 rfl ?_
      refine J.iload g dX11_mixed_44 rfl ?_
      refine J.iremN g dX11_mixed_46 (by omega) (by omega) (by omega) ?_
      refine J.iload_n g dX11_mixed_47 rfl rfl ?_
      refine J.imulN g dX11_mixed_48 ?_
      refine J.iload g dX11_mixed_49 rfl ?_
      refine J.iload g dX11_mixed_51 rfl ?_
      refine J.iremN g dX11_mixed_53 (by omega) (by omega) (by omega) ?_
      refine J.iload g dX11_mixed_54 rfl ?_
      refine J.imulN g dX11_mixed_56 ?_
      refine J.iaddN g dX11_mixed_57 ?_
      refine J.iload g dX11_mixed_58 rfl ?_
      refine J.iremN g dX11_mixed_60 (by omega) (by omega) (by omega) ?_
      refine J.imulN g dX11_mixed_61 ?_
      refine J.iaddN g dX11_mixed_62 ?_
      refine J.istore g dX11_mixed_63 rfl rfl ?_
      try dsimp only [List.set_cons_zero, List.set_cons_succ]
      refine J.iload g dX11_mixed_65 rfl ?_
      refine J.iload g dX11_mixed_67 rfl ?_
      refine J.imulN g dX11_mixed_69 ?_
      refine J.istore g dX11_mixed_70 rfl rfl ?_
      try dsimp only [List.set_cons_zero, List.set_cons_succ]
      refine J.iload g dX11_mixed_72 rfl ?_
      refine J.iload g dX11_mixed_74 rfl ?_
      refine J.idivN g dX11_mixed_76 (by omega) (by omega) (by omega) ?_
      refine J.istore g dX11_mixed_77 rfl rfl ?_
      try dsimp only [List.set_cons_zero, List.set_cons_succ]
      refine J.iload g dX11_mixed_79 rfl ?_
      refine J.iload g dX11_mixed_81 rfl ?_
      refine J.idivN g dX11_mixed_83 (by omega) (by omega) (by omega) ?_
      refine J.istore g dX11_mixed_84 rfl rfl ?_
      try dsimp only [List.set_cons_zero, List.set_cons_succ]
      refine J.iinc g dX11_mixed_86 rfl rfl (j_decm _) ?_
      try dsimp only [List.set_cons_zero, List.set_cons_succ]
      refine J.goto g dX11_mixed_89 (tgt := 22) (by decide) ?_
      exact J.lvle (jle_s (jle_s (jle_s (jle_s (jle_s (jle_s (jle_s (jle_s (jle_s (jle_s (jle_n jle_0))))))))))) (ih_lp _ _ _ _ (by omega) hd1 hd2 hd3)
  exact J.lvle (jle_s (jle_s (jle_s (jle_s (jle_s (jle_s (jle_s (jle_s (jle_s (jle_s (jle_n jle_0))))))))))) (lp (w 0) a b 1 0 (by omega) ha hb (by rw [hwg.2.2.1]))
set_option maxHeartbeats 4000000 in
set_option maxRecDepth 100000 in
theorem c_X11_together (l : Launch) (γ : jγ) (mo mta mtd msz mto mfr mso mnu mfa mpl mro mnw mrd mkp msn mbf mlv mik msm msu mbe mfe mmy mof msf mlr mty mfm mrn mrb mln mtb : Nat) (mth mfw mse : Int32) (mwd : Int64) (cd n : Nat) (f w : Nat → Nat) (a b : Nat) (hw : mIs cd n f w) (ha : a < god cd) (hb : b < god cd) : jM (S := Unit) l γ yX11_together cX11_together 3 (some .int) ({ frames := 1, cells := 0, slots := 0, locals := 30 } : Room) [.ref mo, .int (nI a), .int (nI b)] [(mo, .inr (11, [.int mth, .ref mta, .int (nI mtd), .int (nI msz), .int (nI mto), .int (nI mfr), .int (nI mso), .int (nI mnu), .int (nI mfa), .int mfw, .int (nI mpl), .int (nI mro), .long mwd, .ref mnw, .ref mrd, .ref mkp, .ref msn, .ref mbf, .ref mlv, .ref mik, .int (nI msm), .ref msu, .ref mbe, .ref mfe, .ref mmy, .ref mof, .ref msf, .ref mlr, .ref mty, .ref mfm, .ref mrn, .ref mrb, .int (nI mln), .ref mtb, .int mse])), (mnw, .inl (γ.2 0, 17, .inl (fun j => nI (w j))))] (fun w0 => some (.int (nI (gP cd a b)))) (fun w0 => [(mo, .inr (11, [.int mth, .ref mta, .int (nI mtd), .int (nI msz), .int (nI mto), .int (nI mfr), .int (nI mso), .int (nI mnu), .int (nI mfa), .int mfw, .int (nI mpl), .int (nI mro), .long mwd, .ref mnw, .ref mrd, .ref mkp, .ref msn, .ref mbf, .ref mlv, .ref mik, .int (nI msm), .ref msu, .ref mbe, .ref mfe, .ref mmy, .ref mof, .ref msf, .ref mlr, .ref mty, .ref mfm, .ref mrn, .ref mrb, .int (nI mln), .ref mtb, .int mse])), (mnw, .inl (γ.2 0, 17, .inl (fun j => nI (w j))))]) (fun w0 => True) := by
  refine jM.of [some (.ref mo), some (.int (nI a)), some (.int (nI b))] rfl (Nat.le_of_ble_eq_true rfl) (by decide) ?_
  intro x g hE hin
  have hwg := hw.g
  have hw5 := hw.2.2.2.2.2.1
  have hwf := hw.2.2.2.2.2.2
  have hw3 := hw.2.2.1
  refine J.aload_n g dX11_together_0 rfl rfl ?_
  refine J.iload_n g dX11_together_1 rfl rfl ?_
  refine J.iconstN g 1 dX11_together_2 ?_
  refine J.iload_n g dX11_together_3 rfl rfl ?_
  refine J.iconstN g 1 dX11_together_4 ?_
  refine J.callV0 g (c_X11_mixed l γ _ _ _ _ _ _ _ _ _ _ _ _ _ _ _ _ _ _ _ _ _ _ _ _ _ _ _ _ _ _ _ _ _ _ _ _ _ _ _ _ _ _ _ _ hw (by omega) (by omega) (by omega) (by omega)) jy_X11_mixed lm_X11_193 (q0 := 0) rfl jX11.1 ⟨⟨Nat.le_of_ble_eq_true rfl, Nat.le_of_ble_eq_true rfl⟩, Nat.le_of_ble_eq_true rfl, Nat.le_of_ble_eq_true rfl⟩ (Nat.le_of_ble_eq_true rfl) rfl [0, 1] rfl rfl dX11_together_5 ?_
  intro _ _
  dsimp only [jpush]
  exact J.iret g hE () (by rw [gP_in hw.1 ha hb, gmx_11]; rfl) trivial rfl ⟨Nat.le_of_ble_eq_true rfl, Nat.le_of_ble_eq_true rfl⟩ dX11_together_8
set_option maxHeartbeats 4000000 in
set_option maxRecDepth 100000 in
theorem c_X11_often (l : Launch) (γ : jγ) (mo mta mtd msz mto mfr mso mnu mfa mpl mro mnw mrd mkp msn mbf mlv mik msm msu mbe mfe mmy mof msf mlr mty mfm mrn mrb mln mtb : Nat) (mth mfw mse : Int32) (mwd : Int64) (cd n : Nat) (f w : Nat → Nat) (a u : Nat) (hw : mIs cd n f w) (ha : a < god cd) (hu : u < 2 ^ 10) : jM (S := Unit) l γ yX11_often cX11_often 3 (some .int) ({ frames := 1, cells := 0, slots := 0, locals := 30 } : Room) [.ref mo, .int (nI a), .int (nI u)] [(mo, .inr (11, [.int mth, .ref mta, .int (nI mtd), .int (nI msz), .int (nI mto), .int (nI mfr), .int (nI mso), .int (nI mnu), .int (nI mfa), .int mfw, .int (nI mpl), .int (nI mro), .long mwd, .ref mnw, .ref mrd, .ref mkp, .ref msn, .ref mbf, .ref mlv, .ref mik, .int (nI msm), .ref msu, .ref mbe, .ref mfe, .ref mmy, .ref mof, .ref msf, .ref mlr, .ref mty, .ref mfm, .ref mrn, .ref mrb, .int (nI mln), .ref mtb, .int mse])), (mnw, .inl (γ.2 0, 17, .inl (fun j => nI (w j))))] (fun w0 => some (.int (nI (jmul (god cd) (jmf cd) a u)))) (fun w0 => [(mo, .inr (11, [.int mth, .ref mta, .int (nI mtd), .int (nI msz), .int (nI mto), .int (nI mfr), .int (nI mso), .int (nI mnu), .int (nI mfa), .int mfw, .int (nI mpl), .int (nI mro), .long mwd, .ref mnw, .ref mrd, .ref mkp, .ref msn, .ref mbf, .ref mlv, .ref mik, .int (nI msm), .ref msu, .ref mbe, .ref mfe, .ref mmy, .ref mof, .ref msf, .ref mlr, .ref mty, .ref mfm, .ref mrn, .ref mrb, .int (nI mln), .ref mtb, .int mse])), (mnw, .inl (γ.2 0, 17, .inl (fun j => nI (w j))))]) (fun w0 => True) := by
  refine jM.of [some (.ref mo), some (.int (nI a)), some (.int (nI u))] rfl (Nat.le_of_ble_eq_true rfl) (by decide) ?_
  intro x g hE hin
  have hwg := hw.g
  have hw5 := hw.2.2.2.2.2.1
  have hwf := hw.2.2.2.2.2.2
  have hw3 := hw.2.2.1
  refine J.aload_n g dX11_often_0 rfl rfl ?_
  refine J.iload_n g dX11_often_1 rfl rfl ?_
  refine J.iload_n g dX11_often_2 rfl rfl ?_
  refine J.iconstN g 0 dX11_often_3 ?_
  refine J.iconstN g 0 dX11_often_4 ?_
  refine J.callV0 g (c_X11_mixed l γ _ _ _ _ _ _ _ _ _ _ _ _ _ _ _ _ _ _ _ _ _ _ _ _ _ _ _ _ _ _ _ _ _ _ _ _ _ _ _ _ _ _ _ _ hw (by omega) (by omega) (by omega) (by omega)) jy_X11_mixed lm_X11_193 (q0 := 0) rfl jX11.1 ⟨⟨Nat.le_of_ble_eq_true rfl, Nat.le_of_ble_eq_true rfl⟩, Nat.le_of_ble_eq_true rfl, Nat.le_of_ble_eq_true rfl⟩ (Nat.le_of_ble_eq_true rfl) rfl [0, 1] rfl rfl dX11_often_5 ?_
  intro _ _
  dsimp only [jpush]
  exact J.iret g hE () (by rw [← gmx_mul hw.1 ha]) trivial rfl ⟨Nat.le_of_ble_eq_true rfl, Nat.le_of_ble_eq_true rfl⟩ dX11_often_8
set_option maxHeartbeats 4000000 in
set_option maxRecDepth 100000 in
theorem c_X11_divisor (l : Launch) (γ : jγ) : ∀ (dd : Nat) (a b : Nat), (b ≤ dd) → (dd < 2 ^ 20) → (a < 2 ^ 31) → jM (S := Unit) l γ yX11_divisor cX11_divisor 2 (some .int) ({ frames := dd + 1, cells := 0, slots := 0, locals := 25 * dd + 40 } : Room) [.int (nI a), .int (nI b)] [] (fun w0 => some (.int (nI (Nat.gcd b a)))) (fun w0 => []) (fun w0 => True) := by
  intro dd
  induction dd with
  | zero =>
    intro a b hb hdd ha
    refine jM.of [some (.int (nI a)), some (.int (nI b))] rfl (Nat.le_of_ble_eq_true rfl) (by decide) ?_
    intro x g hE hin
    refine J.iload_n g dX11_divisor_0 rfl rfl ?_
    refine J.if_neN g dX11_divisor_1 (tgt := 8) (by decide) (by omega) (fun c_1 => absurd c_1 (by omega)) (fun c_1 => ?_)
    refine J.iload_n g dX11_divisor_4 rfl rfl ?_
    refine J.goto g dX11_divisor_5 (tgt := 15) (by decide) ?_
    exact J.iret g hE () (by first | rw [c_1, Nat.gcd_zero_left] | rw [Nat.gcd_rec b a]) trivial rfl ⟨Nat.le_of_ble_eq_true rfl, Nat.le_of_ble_eq_true rfl⟩ dX11_divisor_15
  | succ dd ih =>
    intro a b hb hdd ha
    refine jM.of [some (.int (nI a)), some (.int (nI b))] rfl (Nat.le_of_ble_eq_true rfl) (by decide) ?_
    intro x g hE hin
    refine J.iload_n g dX11_divisor_0 rfl rfl ?_
    refine J.if_neN g dX11_divisor_1 (tgt := 8) (by decide) (by omega) (fun c_1 => ?_) (fun c_1 => ?_)
    · refine J.iload_n g dX11_divisor_8 rfl rfl ?_
      refine J.iload_n g dX11_divisor_9 rfl rfl ?_
      refine J.iload_n g dX11_divisor_10 rfl rfl ?_
      refine J.iremN g dX11_divisor_11 (by omega) (by omega) (by omega) ?_
      refine J.callS0 g (ih b (a % b) (by have := Nat.mod_lt a (show 0 < b by omega); omega) (by omega) (by omega)) jy_X11_divisor lm_X11_197 ⟨⟨(by dsimp only; omega), (by dsimp only; omega)⟩, (by dsimp only; omega), (by dsimp only; omega)⟩ (Nat.le_of_ble_eq_true rfl) rfl [] rfl rfl dX11_divisor_12 ?_
      intro _ _
      dsimp only [jpush]
      exact J.iret g hE () (by first | rw [c_1, Nat.gcd_zero_left] | rw [Nat.gcd_rec b a]) trivial rfl ⟨Nat.le_of_ble_eq_true rfl, Nat.le_of_ble_eq_true rfl⟩ dX11_divisor_15
    · refine J.iload_n g dX11_divisor_4 rfl rfl ?_
      refine J.goto g dX11_divisor_5 (tgt := 15) (by decide) ?_
      exact J.iret g hE () (by first | rw [c_1, Nat.gcd_zero_left] | rw [Nat.gcd_rec b a]) trivial rfl ⟨Nat.le_of_ble_eq_true rfl, Nat.le_of_ble_eq_true rfl⟩ dX11_divisor_15
set_option maxHeartbeats 4000000 in
set_option maxRecDepth 100000 in
theorem c_X11_exponent (l : Launch) (γ : jγ) (mo mta mtd msz mto mfr mso mnu mfa mpl mro mnw mrd mkp msn mbf mlv mik msm msu mbe mfe mmy mof msf mlr mty mfm mrn mrb mln mtb : Nat) (mth mfw mse : Int32) (mwd : Int64) (cd n : Nat) (f w : Nat → Nat) (hw : mIs cd n f w) : jM (S := Unit) l γ yX11_exponent cX11_exponent 3 (some .int) ({ frames := 46, cells := 0, slots := 0, locals := 1121 } : Room) [.ref mo] [(mo, .inr (11, [.int mth, .ref mta, .int (nI mtd), .int (nI msz), .int (nI mto), .int (nI mfr), .int (nI mso), .int (nI mnu), .int (nI mfa), .int mfw, .int (nI mpl), .int (nI mro), .long mwd, .ref mnw, .ref mrd, .ref mkp, .ref msn, .ref mbf, .ref mlv, .ref mik, .int (nI msm), .ref msu, .ref mbe, .ref mfe, .ref mmy, .ref mof, .ref msf, .ref mlr, .ref mty, .ref mfm, .ref mrn, .ref mrb, .int (nI mln), .ref mtb, .int mse])), (mnw, .inl (γ.2 0, 17, .inl (fun j => nI (w j))))] (fun w0 => some (.int (nI (gex cd)))) (fun w0 => [(mo, .inr (11, [.int mth, .ref mta, .int (nI mtd), .int (nI msz), .int (nI mto), .int (nI mfr), .int (nI mso), .int (nI mnu), .int (nI mfa), .int mfw, .int (nI mpl), .int (nI mro), .long mwd, .ref mnw, .ref mrd, .ref mkp, .ref msn, .ref mbf, .ref mlv, .ref mik, .int (nI msm), .ref msu, .ref mbe, .ref mfe, .ref mmy, .ref mof, .ref msf, .ref mlr, .ref mty, .ref mfm, .ref mrn, .ref mrb, .int (nI mln), .ref mtb, .int mse])), (mnw, .inl (γ.2 0, 17, .inl (fun j => nI (w j))))]) (fun w0 => True) := by
  refine jM.of [some (.ref mo), none, none] rfl (Nat.le_of_ble_eq_true rfl) (by decide) ?_
  intro x g hE hin
  have hwg := hw.g
  have hw5 := hw.2.2.2.2.2.1
  have hwf := hw.2.2.2.2.2.2
  have hw3 := hw.2.2.1
  have hme := mexp_ok cd hw.1
  refine J.aload_n g dX11_exponent_0 rfl rfl ?_
  refine J.get g jX11 13 (by decide) lf_X11_85 0 rfl rfl dX11_exponent_1 ?_
  refine J.iconstN g 0 dX11_exponent_4 ?_
  refine J.ialdN g 1 rfl (by omega) (by decide) dX11_exponent_5 ?_
  refine J.if_neN g dX11_exponent_6 (tgt := 11) (by decide) (by omega) (fun c_6 => ?_) (fun c_6 => ?_)
  · have h0 : cd ≠ 0 := fun z => by subst z; have : gpt 0 = 0 := (by decide +kernel); omega
    have hmm : mexp cd (gpt cd) = gex cd := hme.elim (fun z => absurd z h0) (fun z => z.1)
    have hmb : ∀ i, i ≤ gpt cd → 1 ≤ mexp cd i ∧ mexp cd i ≤ 24 := fun i hi => hme.elim (fun z => absurd z h0) (fun z => z.2 i (by omega) hi)
    refine J.iconstN g 1 dX11_exponent_11 ?_
    refine J.istore_n g dX11_exponent_12 rfl rfl rfl ?_
    try dsimp only [List.set_cons_zero, List.set_cons_succ]
    refine J.iconstN g 0 dX11_exponent_13 ?_
    refine J.istore_n g dX11_exponent_14 rfl rfl rfl ?_
    try dsimp only [List.set_cons_zero, List.set_cons_succ]
    have lp : ∀ (d : Nat) (i : Nat), gpt cd - i < d → (i ≤ gpt cd) → J γ l x [(mo, .inr (11, [.int mth, .ref mta, .int (nI mtd), .int (nI msz), .int (nI mto), .int (nI mfr), .int (nI mso), .int (nI mnu), .int (nI mfa), .int mfw, .int (nI mpl), .int (nI mro), .long mwd, .ref mnw, .ref mrd, .ref mkp, .ref msn, .ref mbf, .ref mlv, .ref mik, .int (nI msm), .ref msu, .ref mbe, .ref mfe, .ref mmy, .ref mof, .ref msf, .ref mlr, .ref mty, .ref mfm, .ref mrn, .ref mrb, .int (nI mln), .ref mtb, .int mse])), (mnw, .inl (γ.2 0, 17, .inl (fun j => nI (w j))))] [some (.ref mo), some (.int (nI (mexp cd i))), some (.int (nI i))] [] 0 0 15 := by
      intro d
      induction d with
      | zero => intro i hm; exact absurd hm (Nat.not_lt_zero _)
      | succ d ih_lp =>
        intro i hm hi
        refine J.iload_n g dX11_exponent_15 rfl rfl ?_
        refine J.aload_n g dX11_exponent_16 rfl rfl ?_
        refine J.get g jX11 13 (by decide) lf_X11_85 0 rfl rfl dX11_exponent_17 ?_
        refine J.iconstN g 0 dX11_exponent_20 ?_
        refine J.ialdN g 1 rfl (by omega) (by decide) dX11_exponent_21 ?_
        refine J.icmp_geN g dX11_exponent_22 (tgt := 55) (by decide) (by omega) (by omega) (fun c_22 => ?_) (fun c_22 => ?_)
        · refine J.iload_n g dX11_exponent_55 rfl rfl ?_
          exact J.iret g hE () (by rw [← hmm, show gpt cd = i by omega]) trivial rfl ⟨Nat.le_of_ble_eq_true rfl, Nat.le_of_ble_eq_true rfl⟩ dX11_exponent_56
        · have hm1 := (hmb i (by omega)).1
          have hm2 := (hmb i (by omega)).2
          have hsk := hw3 i (by omega)
          have hg2 := (g_small cd hw.1).2.2.2.2.1 i (by omega)
          refine J.iload_n g dX11_exponent_25 rfl rfl ?_
          refine J.iload_n g dX11_exponent_26 rfl rfl ?_
          refine J.aload_n g dX11_exponent_27 rfl rfl ?_
          refine J.get g jX11 13 (by decide) lf_X11_85 0 rfl rfl dX11_exponent_28 ?_
          refine J.iconstN g 1 dX11_exponent_31 ?_
          refine J.iload_n g dX11_exponent_32 rfl rfl ?_
          refine J.iaddN g dX11_exponent_33 ?_
          refine J.ialdN g 1 rfl (by omega) (by decide) dX11_exponent_34 ?_
          refine J.callS0 g (c_X11_divisor l γ 40 (mexp cd i) (w (1 + i)) (by omega) (by omega) (by omega)) jy_X11_divisor lm_X11_197 ⟨⟨Nat.le_of_ble_eq_true rfl, Nat.le_of_ble_eq_true rfl⟩, Nat.le_of_ble_eq_true rfl, Nat.le_of_ble_eq_true rfl⟩ (Nat.le_of_ble_eq_true rfl) rfl [] rfl rfl dX11_exponent_35 ?_
          intro _ _
          dsimp only [jpush]
          refine J.idivN g dX11_exponent_38 (by omega) (by rw [hsk]; exact Nat.gcd_pos_of_pos_left _ (by omega)) (by have := Nat.gcd_le_right (w (1 + i)) (show 0 < mexp cd i by omega); omega) ?_
          refine J.aload_n g dX11_exponent_39 rfl rfl ?_
          refine J.get g jX11 13 (by decide) lf_X11_85 0 rfl rfl dX11_exponent_40 ?_
          refine J.iconstN g 1 dX11_exponent_43 ?_
          refine J.iload_n g dX11_exponent_44 rfl rfl ?_
          refine J.iaddN g dX11_exponent_45 ?_
          refine J.ialdN g 1 rfl (by omega) (by decide) dX11_exponent_46 ?_
          refine J.imulN g dX11_exponent_47 ?_
          refine J.istore_n g dX11_exponent_48 rfl rfl rfl ?_
          try dsimp only [List.set_cons_zero, List.set_cons_succ]
          have hq : mexp cd (i + 1) = mexp cd i / Nat.gcd (w (1 + i)) (mexp cd i) * w (1 + i) := by rw [mexp, hsk, Nat.gcd_comm]
          refine J.iincN g 1 dX11_exponent_49 rfl rfl ?_
          try dsimp only [List.set_cons_zero, List.set_cons_succ]
          refine J.goto g dX11_exponent_52 (tgt := 15) (by decide) ?_
          have ih2 := ih_lp (i + 1) (by omega) (by omega)
          rw [hq] at ih2
          exact J.lvle (jle_s (jle_s (jle_s jle_0))) ih2
    exact J.lvle (jle_s (jle_s (jle_s jle_0))) (lp _ 0 (Nat.lt_succ_self _) (Nat.zero_le _))
  · refine J.iconstN g 0 dX11_exponent_9 ?_
    exact J.iret g hE () (by rw [gpt_0 cd hw.1 (by omega)]; decide +kernel) trivial rfl ⟨Nat.le_of_ble_eq_true rfl, Nat.le_of_ble_eq_true rfl⟩ dX11_exponent_10
set_option maxHeartbeats 4000000 in
set_option maxRecDepth 100000 in
theorem c_X11_shifted (l : Launch) (γ : jγ) (mo mta mtd msz mto mfr mso mnu mfa mpl mro mnw mrd mkp msn mbf mlv mik msm msu mbe mfe mmy mof msf mlr mty mfm mrn mrb mln mtb : Nat) (mth mfw mse : Int32) (mwd : Int64) (cd n : Nat) (f w : Nat → Nat) (s a : Nat) (hw : mIs cd n f w) (hs : s < 2 ^ 24) (ha : a < god cd) : jM (S := Unit) l γ yX11_shifted cX11_shifted 5 (some .int) ({ frames := 2, cells := 0, slots := 0, locals := 52 } : Room) [.ref mo, .int (nI s), .int (nI a)] [(mo, .inr (11, [.int mth, .ref mta, .int (nI mtd), .int (nI msz), .int (nI mto), .int (nI mfr), .int (nI mso), .int (nI mnu), .int (nI mfa), .int mfw, .int (nI mpl), .int (nI mro), .long mwd, .ref mnw, .ref mrd, .ref mkp, .ref msn, .ref mbf, .ref mlv, .ref mik, .int (nI msm), .ref msu, .ref mbe, .ref mfe, .ref mmy, .ref mof, .ref msf, .ref mlr, .ref mty, .ref mfm, .ref mrn, .ref mrb, .int (nI mln), .ref mtb, .int mse])), (mnw, .inl (γ.2 0, 17, .inl (fun j => nI (w j))))] (fun w0 => some (.int (nI (jmoved (god cd) (jmf cd) s a (god cd))))) (fun w0 => [(mo, .inr (11, [.int mth, .ref mta, .int (nI mtd), .int (nI msz), .int (nI mto), .int (nI mfr), .int (nI mso), .int (nI mnu), .int (nI mfa), .int mfw, .int (nI mpl), .int (nI mro), .long mwd, .ref mnw, .ref mrd, .ref mkp, .ref msn, .ref mbf, .ref mlv, .ref mik, .int (nI msm), .ref msu, .ref mbe, .ref mfe, .ref mmy, .ref mof, .ref msf, .ref mlr, .ref mty, .ref mfm, .ref mrn, .ref mrb, .int (nI mln), .ref mtb, .int mse])), (mnw, .inl (γ.2 0, 17, .inl (fun j => nI (w j))))]) (fun w0 => True) := by
  refine jM.of [some (.ref mo), some (.int (nI s)), some (.int (nI a)), none, none] rfl (Nat.le_of_ble_eq_true rfl) (by decide) ?_
  intro x g hE hin
  have hwg := hw.g
  have hw5 := hw.2.2.2.2.2.1
  have hwf := hw.2.2.2.2.2.2
  have hw3 := hw.2.2.1
  refine J.iconstN g 0 dX11_shifted_0 ?_
  refine J.istore_n g dX11_shifted_1 rfl rfl rfl ?_
  try dsimp only [List.set_cons_zero, List.set_cons_succ]
  refine J.iconstN g 0 dX11_shifted_2 ?_
  refine J.istore g dX11_shifted_3 rfl rfl ?_
  try dsimp only [List.set_cons_zero, List.set_cons_succ]
  have lp : ∀ (d : Nat) (i : Nat), god cd - i < d → (i ≤ god cd) → J γ l x [(mo, .inr (11, [.int mth, .ref mta, .int (nI mtd), .int (nI msz), .int (nI mto), .int (nI mfr), .int (nI mso), .int (nI mnu), .int (nI mfa), .int mfw, .int (nI mpl), .int (nI mro), .long mwd, .ref mnw, .ref mrd, .ref mkp, .ref msn, .ref mbf, .ref mlv, .ref mik, .int (nI msm), .ref msu, .ref mbe, .ref mfe, .ref mmy, .ref mof, .ref msf, .ref mlr, .ref mty, .ref mfm, .ref mrn, .ref mrb, .int (nI mln), .ref mtb, .int mse])), (mnw, .inl (γ.2 0, 17, .inl (fun j => nI (w j))))] [some (.ref mo), some (.int (nI s)), some (.int (nI a)), some (.int (nI (jmoved (god cd) (jmf cd) s a i))), some (.int (nI i))] [] 0 0 5 := by
    intro d
    induction d with
    | zero => intro i hm; exact absurd hm (Nat.not_lt_zero _)
    | succ d ih_lp =>
      intro i hm hi
      refine J.iload g dX11_shifted_5 rfl ?_
      refine J.aload_n g dX11_shifted_7 rfl rfl ?_
      refine J.callV0 g (c_X11_order l γ _ _ _ _ _ _ _ _ _ _ _ _ _ _ _ _ _ _ _ _ _ _ _ _ _ _ _ _ _ _ _ _ _ _ _ _ _ _ _ _ hw) jy_X11_order lm_X11_186 (q0 := 0) rfl jX11.1 ⟨⟨Nat.le_of_ble_eq_true rfl, Nat.le_of_ble_eq_true rfl⟩, Nat.le_of_ble_eq_true rfl, Nat.le_of_ble_eq_true rfl⟩ (Nat.le_of_ble_eq_true rfl) rfl [0, 1] rfl rfl dX11_shifted_8 ?_
      intro _ _
      dsimp only [jpush]
      refine J.icmp_geN g dX11_shifted_11 (tgt := 41) (by decide) (by omega) (by omega) (fun c_11 => ?_) (fun c_11 => ?_)
      · refine J.iload_n g dX11_shifted_41 rfl rfl ?_
        exact J.iret g hE () (by rw [show god cd = i by omega]) trivial rfl ⟨Nat.le_of_ble_eq_true rfl, Nat.le_of_ble_eq_true rfl⟩ dX11_shifted_42
      · refine J.iload_n g dX11_shifted_14 rfl rfl ?_
        refine J.iload g dX11_shifted_15 rfl ?_
        refine J.callS0 g (c_X11_has l γ _ _ (by omega) (by omega)) jy_X11_has lm_X11_7 ⟨⟨Nat.le_of_ble_eq_true rfl, Nat.le_of_ble_eq_true rfl⟩, Nat.le_of_ble_eq_true rfl, Nat.le_of_ble_eq_true rfl⟩ (Nat.le_of_ble_eq_true rfl) rfl [] rfl rfl dX11_shifted_17 ?_
        intro _ _
        dsimp only [jpush]
        refine J.if_eqB g dX11_shifted_20 (tgt := 35) (by decide) (fun c_20 => ?_) (fun c_20 => ?_)
        · have hq : jmoved (god cd) (jmf cd) s a (i + 1) = jmoved (god cd) (jmf cd) s a i := by rw [jmoved, if_neg (by rw [c_20]; decide)]
          refine J.iincN g 1 dX11_shifted_35 rfl rfl ?_
          try dsimp only [List.set_cons_zero, List.set_cons_succ]
          refine J.goto g dX11_shifted_38 (tgt := 5) (by decide) ?_
          have ih2 := ih_lp (i + 1) (by omega) (by omega)
          rw [hq] at ih2
          exact J.lvle (jle_s (jle_s (jle_s (jle_s (jle_s jle_0))))) ih2
        · refine J.iload_n g dX11_shifted_23 rfl rfl ?_
          refine J.iconstN g 1 dX11_shifted_24 ?_
          refine J.aload_n g dX11_shifted_25 rfl rfl ?_
          refine J.iload g dX11_shifted_26 rfl ?_
          refine J.iload_n g dX11_shifted_28 rfl rfl ?_
          refine J.callV0 g (c_X11_together l γ _ _ _ _ _ _ _ _ _ _ _ _ _ _ _ _ _ _ _ _ _ _ _ _ _ _ _ _ _ _ _ _ _ _ _ _ _ _ _ _ _ _ hw (by omega) ha) jy_X11_together lm_X11_201 (q0 := 0) rfl jX11.1 ⟨⟨Nat.le_of_ble_eq_true rfl, Nat.le_of_ble_eq_true rfl⟩, Nat.le_of_ble_eq_true rfl, Nat.le_of_ble_eq_true rfl⟩ (Nat.le_of_ble_eq_true rfl) rfl [0, 1] rfl rfl dX11_shifted_29 ?_
          intro _ _
          dsimp only [jpush]
          have hgl := gP_lt hw.1 (show i < god cd by omega) ha
          refine J.ishl' g dX11_shifted_32 (j_shl1 (by omega)) ?_
          refine J.ior' g dX11_shifted_33 (j_or _ _) ?_
          have hq : jmoved (god cd) (jmf cd) s a (i + 1) = jmoved (god cd) (jmf cd) s a i ||| 1 <<< gP cd i a := by rw [jmoved, if_pos c_20]; rfl
          refine J.istore_n g dX11_shifted_34 rfl rfl rfl ?_
          try dsimp only [List.set_cons_zero, List.set_cons_succ]
          refine J.iincN g 1 dX11_shifted_35 rfl rfl ?_
          try dsimp only [List.set_cons_zero, List.set_cons_succ]
          refine J.goto g dX11_shifted_38 (tgt := 5) (by decide) ?_
          have ih2 := ih_lp (i + 1) (by omega) (by omega)
          rw [hq] at ih2
          exact J.lvle (jle_s (jle_s (jle_s (jle_s (jle_s jle_0))))) ih2
  exact J.lvle (jle_s (jle_s (jle_s (jle_s (jle_s jle_0))))) (lp _ 0 (Nat.lt_succ_self _) (Nat.zero_le _))
set_option maxHeartbeats 4000000 in
set_option maxRecDepth 100000 in
theorem c_X11_opposite (l : Launch) (γ : jγ) (mo mta mtd msz mto mfr mso mnu mfa mpl mro mnw mrd mkp msn mbf mlv mik msm msu mbe mfe mmy mof msf mlr mty mfm mrn mrb mln mtb : Nat) (mth mfw mse : Int32) (mwd : Int64) (cd n : Nat) (f w : Nat → Nat) (a : Nat) (hw : mIs cd n f w) (ha : a < god cd) : jM (S := Unit) l γ yX11_opposite cX11_opposite 3 (some .int) ({ frames := 2, cells := 0, slots := 0, locals := 52 } : Room) [.ref mo, .int (nI a)] [(mo, .inr (11, [.int mth, .ref mta, .int (nI mtd), .int (nI msz), .int (nI mto), .int (nI mfr), .int (nI mso), .int (nI mnu), .int (nI mfa), .int mfw, .int (nI mpl), .int (nI mro), .long mwd, .ref mnw, .ref mrd, .ref mkp, .ref msn, .ref mbf, .ref mlv, .ref mik, .int (nI msm), .ref msu, .ref mbe, .ref mfe, .ref mmy, .ref mof, .ref msf, .ref mlr, .ref mty, .ref mfm, .ref mrn, .ref mrb, .int (nI mln), .ref mtb, .int mse])), (mnw, .inl (γ.2 0, 17, .inl (fun j => nI (w j))))] (fun w0 => some (.int (nI (gN cd a)))) (fun w0 => [(mo, .inr (11, [.int mth, .ref mta, .int (nI mtd), .int (nI msz), .int (nI mto), .int (nI mfr), .int (nI mso), .int (nI mnu), .int (nI mfa), .int mfw, .int (nI mpl), .int (nI mro), .long mwd, .ref mnw, .ref mrd, .ref mkp, .ref msn, .ref mbf, .ref mlv, .ref mik, .int (nI msm), .ref msu, .ref mbe, .ref mfe, .ref mmy, .ref mof, .ref msf, .ref mlr, .ref mty, .ref mfm, .ref mrn, .ref mrb, .int (nI mln), .ref mtb, .int mse])), (mnw, .inl (γ.2 0, 17, .inl (fun j => nI (w j))))]) (fun w0 => True) := by
  refine jM.of [some (.ref mo), some (.int (nI a)), none] rfl (Nat.le_of_ble_eq_true rfl) (by decide) ?_
  intro x g hE hin
  have hwg := hw.g
  have hw5 := hw.2.2.2.2.2.1
  have hwf := hw.2.2.2.2.2.2
  have hw3 := hw.2.2.1
  have hno := gN_in hw.1 ha
  refine J.iconstN g 0 dX11_opposite_0 ?_
  refine J.istore_n g dX11_opposite_1 rfl rfl rfl ?_
  try dsimp only [List.set_cons_zero, List.set_cons_succ]
  have lp : ∀ (d : Nat) (i : Nat), gN cd a + 1 - i < d → (i ≤ gN cd a) → J γ l x [(mo, .inr (11, [.int mth, .ref mta, .int (nI mtd), .int (nI msz), .int (nI mto), .int (nI mfr), .int (nI mso), .int (nI mnu), .int (nI mfa), .int mfw, .int (nI mpl), .int (nI mro), .long mwd, .ref mnw, .ref mrd, .ref mkp, .ref msn, .ref mbf, .ref mlv, .ref mik, .int (nI msm), .ref msu, .ref mbe, .ref mfe, .ref mmy, .ref mof, .ref msf, .ref mlr, .ref mty, .ref mfm, .ref mrn, .ref mrb, .int (nI mln), .ref mtb, .int mse])), (mnw, .inl (γ.2 0, 17, .inl (fun j => nI (w j))))] [some (.ref mo), some (.int (nI a)), some (.int (nI i))] [] 0 0 2 := by
    intro d
    induction d with
    | zero => intro i hm; exact absurd hm (Nat.not_lt_zero _)
    | succ d ih_lp =>
      intro i hm hi
      refine J.aload_n g dX11_opposite_2 rfl rfl ?_
      refine J.iload_n g dX11_opposite_3 rfl rfl ?_
      refine J.iload_n g dX11_opposite_4 rfl rfl ?_
      refine J.callV0 g (c_X11_together l γ _ _ _ _ _ _ _ _ _ _ _ _ _ _ _ _ _ _ _ _ _ _ _ _ _ _ _ _ _ _ _ _ _ _ _ _ _ _ _ _ _ _ hw (by omega) ha) jy_X11_together lm_X11_201 (q0 := 0) rfl jX11.1 ⟨⟨Nat.le_of_ble_eq_true rfl, Nat.le_of_ble_eq_true rfl⟩, Nat.le_of_ble_eq_true rfl, Nat.le_of_ble_eq_true rfl⟩ (Nat.le_of_ble_eq_true rfl) rfl [0, 1] rfl rfl dX11_opposite_5 ?_
      intro _ _
      dsimp only [jpush]
      have hgl := gP_lt hw.1 (show i < god cd by omega) ha
      refine J.if_eqN g dX11_opposite_8 (tgt := 17) (by decide) (by omega) (fun c_8 => ?_) (fun c_8 => ?_)
      · refine J.iload_n g dX11_opposite_17 rfl rfl ?_
        exact J.iret g hE () (by rw [gN_uniq hw.1 ha (show i < god cd by omega) (by rw [gP_comm hw.1]; exact c_8)]) trivial rfl ⟨Nat.le_of_ble_eq_true rfl, Nat.le_of_ble_eq_true rfl⟩ dX11_opposite_18
      · have hnx : i + 1 ≤ gN cd a := by rcases Nat.lt_or_ge i (gN cd a) with z | z; (· exact z); (· exfalso; obtain rfl : i = gN cd a := (by omega); exact c_8 (by rw [gP_comm hw.1]; exact hno.2))
        refine J.iincN g 1 dX11_opposite_11 rfl rfl ?_
        try dsimp only [List.set_cons_zero, List.set_cons_succ]
        refine J.goto g dX11_opposite_14 (tgt := 2) (by decide) ?_
        exact J.lvle (jle_s (jle_s (jle_s jle_0))) (ih_lp (i + 1) (by omega) hnx)
  exact J.lvle (jle_s (jle_s (jle_s jle_0))) (lp _ 0 (Nat.lt_succ_self _) (Nat.zero_le _))
set_option maxHeartbeats 4000000 in
set_option maxRecDepth 100000 in
theorem c_X11_laysSums (l : Launch) (γ : jγ) (mo mta mtd msz mto mfr mso mnu mfa mpl mro mnw mrd mkp msn mbf mlv mik msm msu mbe mfe mmy mof msf mlr mty mfm mrn mrb mln mtb : Nat) (mth mfw mse : Int32) (mwd : Int64) (cd n : Nat) (f w : Nat → Nat) (su : Nat → Nat) (hw : mIs cd n f w) : jM (S := Nat → Nat) l γ yX11_laysSums cX11_laysSums 2 none ({ frames := 2, cells := 0, slots := 0, locals := 52 } : Room) [.ref mo] [(mo, .inr (11, [.int mth, .ref mta, .int (nI mtd), .int (nI msz), .int (nI mto), .int (nI mfr), .int (nI mso), .int (nI mnu), .int (nI mfa), .int mfw, .int (nI mpl), .int (nI mro), .long mwd, .ref mnw, .ref mrd, .ref mkp, .ref msn, .ref mbf, .ref mlv, .ref mik, .int (nI msm), .ref msu, .ref mbe, .ref mfe, .ref mmy, .ref mof, .ref msf, .ref mlr, .ref mty, .ref mfm, .ref mrn, .ref mrb, .int (nI mln), .ref mtb, .int mse])), (mnw, .inl (γ.2 0, 17, .inl (fun j => nI (w j)))), (msu, .inl (γ.2 0, 4096, .inl (fun j => nI (su j))))] (fun u => none) (fun u => [(mo, .inr (11, [.int mth, .ref mta, .int (nI mtd), .int (nI msz), .int (nI mto), .int (nI mfr), .int (nI mso), .int (nI mnu), .int (nI mfa), .int mfw, .int (nI mpl), .int (nI mro), .long mwd, .ref mnw, .ref mrd, .ref mkp, .ref msn, .ref mbf, .ref mlv, .ref mik, .int (nI msm), .ref msu, .ref mbe, .ref mfe, .ref mmy, .ref mof, .ref msf, .ref mlr, .ref mty, .ref mfm, .ref mrn, .ref mrb, .int (nI mln), .ref mtb, .int mse])), (mnw, .inl (γ.2 0, 17, .inl (fun j => nI (w j)))), (msu, .inl (γ.2 0, 4096, .inl (fun j => nI (u j))))]) (fun u => ∀ s, s < 2 ^ n → u s = gS cd f n s) := by
  refine jM.of [some (.ref mo), none] rfl (Nat.le_of_ble_eq_true rfl) (by decide) ?_
  intro x g hE hin
  have hwg := hw.g
  have hw5 := hw.2.2.2.2.2.1
  have hwf := hw.2.2.2.2.2.2
  have hw3 := hw.2.2.1
  have hpw : 2 ^ n ≤ 2 ^ 12 := Nat.pow_le_pow_right (by omega) hwg.2.2.2.2.1
  have hpp := Nat.two_pow_pos n
  refine J.aload_n g dX11_laysSums_0 rfl rfl ?_
  refine J.get g jX11 21 (by decide) lf_X11_107 0 rfl rfl dX11_laysSums_1 ?_
  refine J.iconstN g 0 dX11_laysSums_4 ?_
  refine J.iconstN g 0 dX11_laysSums_5 ?_
  refine J.iastN g 2 rfl (by omega) (by decide) dX11_laysSums_6 ?_
  try dsimp only [List.set_cons_zero, List.set_cons_succ]
  refine J.iconstN g 1 dX11_laysSums_7 ?_
  refine J.istore_n g dX11_laysSums_8 rfl rfl rfl ?_
  try dsimp only [List.set_cons_zero, List.set_cons_succ]
  have lp : ∀ (d : Nat) (s : Nat) (S : Nat → Nat), 2 ^ n - s < d → (1 ≤ s ∧ s ≤ 2 ^ n) → (∀ t, t < s → S t = gS cd f n t) → J γ l x [(mo, .inr (11, [.int mth, .ref mta, .int (nI mtd), .int (nI msz), .int (nI mto), .int (nI mfr), .int (nI mso), .int (nI mnu), .int (nI mfa), .int mfw, .int (nI mpl), .int (nI mro), .long mwd, .ref mnw, .ref mrd, .ref mkp, .ref msn, .ref mbf, .ref mlv, .ref mik, .int (nI msm), .ref msu, .ref mbe, .ref mfe, .ref mmy, .ref mof, .ref msf, .ref mlr, .ref mty, .ref mfm, .ref mrn, .ref mrb, .int (nI mln), .ref mtb, .int mse])), (mnw, .inl (γ.2 0, 17, .inl (fun j => nI (w j)))), (msu, .inl (γ.2 0, 4096, .inl (fun j => nI (S j))))] [some (.ref mo), some (.int (nI s))] [] 0 0 9 := by
    intro d
    induction d with
    | zero => intro s S hm; exact absurd hm (Nat.not_lt_zero _)
    | succ d ih_lp =>
      intro s S hm hs hh
      refine J.iload_n g dX11_laysSums_9 rfl rfl ?_
      refine J.aload_n g dX11_laysSums_10 rfl rfl ?_
      refine J.callV0 g (c_X11_all l γ _ _ _ _ _ _ _ _ _ _ _ _ _ _ _ _ _ _ _ _ _ _ _ _ _ _ _ _ _ _ _ _ _ _ _ _ _ _ _ _ hw) jy_X11_all lm_X11_204 (q0 := 0) rfl jX11.1 ⟨⟨Nat.le_of_ble_eq_true rfl, Nat.le_of_ble_eq_true rfl⟩, Nat.le_of_ble_eq_true rfl, Nat.le_of_ble_eq_true rfl⟩ (Nat.le_of_ble_eq_true rfl) rfl [0, 1] rfl rfl dX11_laysSums_11 ?_
      intro _ _
      dsimp only [jpush]
      refine J.icmp_gtN g dX11_laysSums_14 (tgt := 54) (by decide) (by omega) (by omega) (fun c_14 => ?_) (fun c_14 => ?_)
      · exact J.vret g hE S rfl (fun t ht => hh t (by omega)) rfl ⟨Nat.le_of_ble_eq_true rfl, Nat.le_of_ble_eq_true rfl⟩ dX11_laysSums_54
      · have hlow := gS_low (cd := cd) (f := f) (s := s) (n := n) hw.1 (by omega) hwg.2.2.2.2.1 (by omega) hwf
        have hlk := hlow.1
        have hmo := (mlw_ok (s := s) (by omega) (by omega)).2.2.2.1
        have hSa := hh _ hmo
        have hg0 : 0 < god cd := by have := hwf _ hlk; omega
        refine J.aload_n g dX11_laysSums_17 rfl rfl ?_
        refine J.get g jX11 21 (by decide) lf_X11_107 0 rfl rfl dX11_laysSums_18 ?_
        refine J.iload_n g dX11_laysSums_21 rfl rfl ?_
        refine J.aload_n g dX11_laysSums_22 rfl rfl ?_
        refine J.aload_n g dX11_laysSums_23 rfl rfl ?_
        refine J.get g jX11 21 (by decide) lf_X11_107 0 rfl rfl dX11_laysSums_24 ?_
        refine J.iload_n g dX11_laysSums_27 rfl rfl ?_
        refine J.iload_n g dX11_laysSums_28 rfl rfl ?_
        refine J.iconstN g 1 dX11_laysSums_29 ?_
        refine J.isubN g dX11_laysSums_30 (by omega) ?_
        refine J.iand' g dX11_laysSums_31 (j_and _ _) ?_
        refine J.ialdN g 2 rfl (by omega) (by decide) dX11_laysSums_32 ?_
        refine J.aload_n g dX11_laysSums_33 rfl rfl ?_
        refine J.get g jX11 13 (by decide) lf_X11_85 0 rfl rfl dX11_laysSums_34 ?_
        refine J.iconstN g 5 dX11_laysSums_37 ?_
        refine J.iload_n g dX11_laysSums_38 rfl rfl ?_
        refine J.callS0 g (c_X11_least l γ _ (by omega) (by omega)) jy_X11_least lm_X11_207 ⟨⟨Nat.le_of_ble_eq_true rfl, Nat.le_of_ble_eq_true rfl⟩, Nat.le_of_ble_eq_true rfl, Nat.le_of_ble_eq_true rfl⟩ (Nat.le_of_ble_eq_true rfl) rfl [] rfl rfl dX11_laysSums_39 ?_
        intro _ _
        dsimp only [jpush]
        refine J.iaddN g dX11_laysSums_42 ?_
        refine J.ialdN g 1 rfl (by omega) (by decide) dX11_laysSums_43 ?_
        rw [hw5 _ hlk]
        refine J.callV0 g (c_X11_together l γ _ _ _ _ _ _ _ _ _ _ _ _ _ _ _ _ _ _ _ _ _ _ _ _ _ _ _ _ _ _ _ _ _ _ _ _ _ _ _ _ _ _ hw (by rw [hSa]; exact gS_lt hw.1 hg0 _ n hwf) (hwf _ hlk)) jy_X11_together lm_X11_201 (q0 := 0) rfl jX11.1 ⟨⟨Nat.le_of_ble_eq_true rfl, Nat.le_of_ble_eq_true rfl⟩, Nat.le_of_ble_eq_true rfl, Nat.le_of_ble_eq_true rfl⟩ (Nat.le_of_ble_eq_true rfl) rfl [0, 1] rfl rfl dX11_laysSums_44 ?_
        intro _ _
        dsimp only [jpush]
        have hv : gP cd (S (s &&& (s - 1))) (f (mlw s 12 0)) = gS cd f n s := by rw [hSa]; exact hlow.2.symm
        refine J.iastN g 2 rfl (by omega) (by decide) dX11_laysSums_47 ?_
        try dsimp only [List.set_cons_zero, List.set_cons_succ]
        refine J.iincN g 1 dX11_laysSums_48 rfl rfl ?_
        try dsimp only [List.set_cons_zero, List.set_cons_succ]
        refine J.goto g dX11_laysSums_51 (tgt := 9) (by decide) ?_
        exact J.lvle (jle_s (jle_s jle_0)) (ih_lp (s + 1) _ (by omega) (by omega) (lt_s (fun t ht => (up_ne (by omega)).trans (hh t ht)) (by rw [up_at]; exact hv)))
  exact J.lvle (jle_s (jle_s jle_0)) (lp _ 1 (va_up su 0 0) (Nat.lt_succ_self _) (by omega) (fun t ht => by obtain rfl : t = 0 := (by omega); rw [up_at, gS_z]))
set_option maxHeartbeats 4000000 in
set_option maxRecDepth 100000 in
theorem c_X11_fault (l : Launch) (γ : jγ) (mo mta mtd msz mto mfr mso mnu mfa mpl mro mnw mrd mkp msn mbf mlv mik msm msu mbe mfe mmy mof msf mlr mty mfm mrn mrb mln mtb : Nat) (mth mfw mse : Int32) (mwd : Int64) (i : Int32)  : jM (S := Unit) l γ yX11_fault cX11_fault 2 (some .int) ({ frames := 0, cells := 0, slots := 0, locals := 0 } : Room) [.ref mo, .int i] [(mo, .inr (11, [.int mth, .ref mta, .int (nI mtd), .int (nI msz), .int (nI mto), .int (nI mfr), .int (nI mso), .int (nI mnu), .int (nI mfa), .int mfw, .int (nI mpl), .int (nI mro), .long mwd, .ref mnw, .ref mrd, .ref mkp, .ref msn, .ref mbf, .ref mlv, .ref mik, .int (nI msm), .ref msu, .ref mbe, .ref mfe, .ref mmy, .ref mof, .ref msf, .ref mlr, .ref mty, .ref mfm, .ref mrn, .ref mrb, .int (nI mln), .ref mtb, .int mse]))] (fun w0 => some (.int (if i = 0 then nI mfa else if i = nI 1 then mfw else -1))) (fun w0 => [(mo, .inr (11, [.int (nI 0), .ref mta, .int (nI mtd), .int (nI msz), .int (nI mto), .int (nI mfr), .int (nI mso), .int (nI mnu), .int (nI mfa), .int mfw, .int (nI mpl), .int (nI mro), .long mwd, .ref mnw, .ref mrd, .ref mkp, .ref msn, .ref mbf, .ref mlv, .ref mik, .int (nI msm), .ref msu, .ref mbe, .ref mfe, .ref mmy, .ref mof, .ref msf, .ref mlr, .ref mty, .ref mfm, .ref mrn, .ref mrb, .int (nI mln), .ref mtb, .int mse]))]) (fun w0 => True) := by
  refine jM.of [some (.ref mo), some (.int i)] rfl (Nat.le_of_ble_eq_true rfl) (by decide) ?_
  intro x g hE hin
  refine J.aload_n g dX11_fault_0 rfl rfl ?_
  refine J.iconstN g 0 dX11_fault_1 ?_
  refine J.put g jX11 0 (by decide) lf_X11_1 0 rfl rfl (Nat.le_of_ble_eq_true rfl) rfl rfl dX11_fault_2 ?_
  try dsimp only [List.set_cons_zero, List.set_cons_succ]
  refine J.iload_n g dX11_fault_5 rfl rfl ?_
  refine J.if_ne g dX11_fault_6 (tgt := 16) (by decide) (fun c_6 => ?_) (fun c_6 => ?_)
  · refine J.iload_n g dX11_fault_16 rfl rfl ?_
    refine J.iconstN g 1 dX11_fault_17 ?_
    refine J.icmp_ne g dX11_fault_18 (tgt := 28) (by decide) (fun c_18 => ?_) (fun c_18 => ?_)
    · refine J.iconst (v := -1) g dX11_fault_28 (by decide) ?_
      exact J.iret g hE () (by first | rw [if_pos c_6] | rw [if_neg c_6, if_pos c_18] | rw [if_neg c_6, if_neg c_18]) trivial rfl ⟨Nat.le_of_ble_eq_true rfl, Nat.le_of_ble_eq_true rfl⟩ dX11_fault_29
    · refine J.aload_n g dX11_fault_21 rfl rfl ?_
      refine J.get g jX11 9 (by decide) lf_X11_73 0 rfl rfl dX11_fault_22 ?_
      refine J.goto g dX11_fault_25 (tgt := 29) (by decide) ?_
      exact J.iret g hE () (by first | rw [if_pos c_6] | rw [if_neg c_6, if_pos c_18] | rw [if_neg c_6, if_neg c_18]) trivial rfl ⟨Nat.le_of_ble_eq_true rfl, Nat.le_of_ble_eq_true rfl⟩ dX11_fault_29
  · refine J.aload_n g dX11_fault_9 rfl rfl ?_
    refine J.get g jX11 8 (by decide) lf_X11_64 0 rfl rfl dX11_fault_10 ?_
    refine J.goto g dX11_fault_13 (tgt := 29) (by decide) ?_
    exact J.iret g hE () (by first | rw [if_pos c_6] | rw [if_neg c_6, if_pos c_18] | rw [if_neg c_6, if_neg c_18]) trivial rfl ⟨Nat.le_of_ble_eq_true rfl, Nat.le_of_ble_eq_true rfl⟩ dX11_fault_29
set_option maxHeartbeats 4000000 in
set_option maxRecDepth 100000 in
theorem c_X11_now (l : Launch) (γ : jγ) (mo mta mtd msz mto mfr mso mnu mfa mpl mro mnw mrd mkp msn mbf mlv mik msm msu mbe mfe mmy mof msf mlr mty mfm mrn mrb mln mtb : Nat) (mth mfw mse : Int32) (mwd : Int64) (cd n : Nat) (f w : Nat → Nat) (su : Nat → Nat) (i : Int32) (hw : mIs cd n f w) : jM (S := Nat → Nat) l γ yX11_now cX11_now 2 (some .int) ({ frames := 47, cells := 0, slots := 0, locals := 1143 } : Room) [.ref mo, .int i] [(mo, .inr (11, [.int mth, .ref mta, .int (nI mtd), .int (nI msz), .int (nI mto), .int (nI mfr), .int (nI mso), .int (nI mnu), .int (nI mfa), .int mfw, .int (nI mpl), .int (nI mro), .long mwd, .ref mnw, .ref mrd, .ref mkp, .ref msn, .ref mbf, .ref mlv, .ref mik, .int (nI msm), .ref msu, .ref mbe, .ref mfe, .ref mmy, .ref mof, .ref msf, .ref mlr, .ref mty, .ref mfm, .ref mrn, .ref mrb, .int (nI mln), .ref mtb, .int mse])), (mnw, .inl (γ.2 0, 17, .inl (fun j => nI (w j)))), (msu, .inl (γ.2 0, 4096, .inl (fun j => nI (su j))))] (fun u => some (.int (jsel i [nI (gpt cd), nI (god cd), nI (gex cd), nI n, jsa (god cd) (jmf cd) f n, nI msm, nI mtd]))) (fun u => [(mo, .inr (11, [.int (nI 0), .ref mta, .int (nI mtd), .int (nI msz), .int (nI mto), .int (nI mfr), .int (nI mso), .int (nI mnu), .int (nI mfa), .int mfw, .int (nI mpl), .int (nI mro), .long mwd, .ref mnw, .ref mrd, .ref mkp, .ref msn, .ref mbf, .ref mlv, .ref mik, .int (nI msm), .ref msu, .ref mbe, .ref mfe, .ref mmy, .ref mof, .ref msf, .ref mlr, .ref mty, .ref mfm, .ref mrn, .ref mrb, .int (nI mln), .ref mtb, .int mse])), (mnw, .inl (γ.2 0, 17, .inl (fun j => nI (w j)))), (msu, .inl (γ.2 0, 4096, .inl (fun j => nI (u j))))]) (fun u => True) := by
  refine jM.of [some (.ref mo), some (.int i)] rfl (Nat.le_of_ble_eq_true rfl) (by decide) ?_
  intro x g hE hin
  have hwg := hw.g
  have hw5 := hw.2.2.2.2.2.1
  have hwf := hw.2.2.2.2.2.2
  have hw3 := hw.2.2.1
  have hpw : 2 ^ n ≤ 2 ^ 12 := Nat.pow_le_pow_right (by omega) hwg.2.2.2.2.1
  have hpp := Nat.two_pow_pos n
  refine J.aload_n g dX11_now_0 rfl rfl ?_
  refine J.iconstN g 0 dX11_now_1 ?_
  refine J.put g jX11 0 (by decide) lf_X11_1 0 rfl rfl (Nat.le_of_ble_eq_true rfl) rfl rfl dX11_now_2 ?_
  try dsimp only [List.set_cons_zero, List.set_cons_succ]
  refine J.iload_n g dX11_now_5 rfl rfl ?_
  refine J.ts g (N := 7) (dt := 105) [48, 55, 60, 65, 70, 95, 100] dX11_now_6 rfl (by decide) (by decide +kernel) (by decide) (fun k_6 hk_6 hx_6 => ?_) (fun c_6 => ?_)
  · subst hx_6
    rcases (show k_6 = 0 ∨ k_6 = 1 ∨ k_6 = 2 ∨ k_6 = 3 ∨ k_6 = 4 ∨ k_6 = 5 ∨ k_6 = 6 by omega) with rfl | rfl | rfl | rfl | rfl | rfl | rfl
    · show J γ l x _ _ _ _ _ 48
      refine J.aload_n g dX11_now_48 rfl rfl ?_
      refine J.get g jX11 13 (by decide) lf_X11_85 0 rfl rfl dX11_now_49 ?_
      refine J.iconstN g 0 dX11_now_52 ?_
      refine J.ialdN g 1 rfl (by omega) (by decide) dX11_now_53 ?_
      exact J.iret g hE su (by rw [jsel_t (N := 7) rfl (by decide) (by decide), hwg.2.2.1]; rfl) trivial rfl ⟨Nat.le_of_ble_eq_true rfl, Nat.le_of_ble_eq_true rfl⟩ dX11_now_54
    · show J γ l x _ _ _ _ _ 55
      refine J.aload_n g dX11_now_55 rfl rfl ?_
      refine J.callV0 g (c_X11_order l γ _ _ _ _ _ _ _ _ _ _ _ _ _ _ _ _ _ _ _ _ _ _ _ _ _ _ _ _ _ _ _ _ _ _ _ _ _ _ _ _ hw) jy_X11_order lm_X11_186 (q0 := 0) rfl jX11.1 ⟨⟨Nat.le_of_ble_eq_true rfl, Nat.le_of_ble_eq_true rfl⟩, Nat.le_of_ble_eq_true rfl, Nat.le_of_ble_eq_true rfl⟩ (Nat.le_of_ble_eq_true rfl) rfl [0, 1] rfl rfl dX11_now_56 ?_
      intro _ _
      dsimp only [jpush]
      exact J.iret g hE su (by rw [jsel_t (N := 7) rfl (by decide) (by decide)]; rfl) trivial rfl ⟨Nat.le_of_ble_eq_true rfl, Nat.le_of_ble_eq_true rfl⟩ dX11_now_59
    · show J γ l x _ _ _ _ _ 60
      refine J.aload_n g dX11_now_60 rfl rfl ?_
      refine J.callV0 g (c_X11_exponent l γ _ _ _ _ _ _ _ _ _ _ _ _ _ _ _ _ _ _ _ _ _ _ _ _ _ _ _ _ _ _ _ _ _ _ _ _ _ _ _ _ hw) jy_X11_exponent lm_X11_210 (q0 := 0) rfl jX11.1 ⟨⟨Nat.le_of_ble_eq_true rfl, Nat.le_of_ble_eq_true rfl⟩, Nat.le_of_ble_eq_true rfl, Nat.le_of_ble_eq_true rfl⟩ (Nat.le_of_ble_eq_true rfl) rfl [0, 1] rfl rfl dX11_now_61 ?_
      intro _ _
      dsimp only [jpush]
      exact J.iret g hE su (by rw [jsel_t (N := 7) rfl (by decide) (by decide)]; rfl) trivial rfl ⟨Nat.le_of_ble_eq_true rfl, Nat.le_of_ble_eq_true rfl⟩ dX11_now_64
    · show J γ l x _ _ _ _ _ 65
      refine J.aload_n g dX11_now_65 rfl rfl ?_
      refine J.callV0 g (c_X11_places l γ _ _ _ _ _ _ _ _ _ _ _ _ _ _ _ _ _ _ _ _ _ _ _ _ _ _ _ _ _ _ _ _ _ _ _ _ _ _ _ _ hw) jy_X11_places lm_X11_190 (q0 := 0) rfl jX11.1 ⟨⟨Nat.le_of_ble_eq_true rfl, Nat.le_of_ble_eq_true rfl⟩, Nat.le_of_ble_eq_true rfl, Nat.le_of_ble_eq_true rfl⟩ (Nat.le_of_ble_eq_true rfl) rfl [0, 1] rfl rfl dX11_now_66 ?_
      intro _ _
      dsimp only [jpush]
      exact J.iret g hE su (by rw [jsel_t (N := 7) rfl (by decide) (by decide)]; rfl) trivial rfl ⟨Nat.le_of_ble_eq_true rfl, Nat.le_of_ble_eq_true rfl⟩ dX11_now_69
    · show J γ l x _ _ _ _ _ 70
      refine J.aload_n g dX11_now_70 rfl rfl ?_
      refine J.callV g (c_X11_laysSums l γ _ _ _ _ _ _ _ _ _ _ _ _ _ _ _ _ _ _ _ _ _ _ _ _ _ _ _ _ _ _ _ _ _ _ _ _ _ _ _ _ _ hw) jy_X11_laysSums lm_X11_213 (q0 := 0) rfl jX11.1 ⟨⟨Nat.le_of_ble_eq_true rfl, Nat.le_of_ble_eq_true rfl⟩, Nat.le_of_ble_eq_true rfl, Nat.le_of_ble_eq_true rfl⟩ (Nat.le_of_ble_eq_true rfl) rfl [0, 1, 2] rfl (fun _ => rfl) rfl dX11_now_71 ?_
      intro u_71 h_71
      dsimp only [jput, List.set_cons_zero, List.set_cons_succ, Option.toList, List.append, List.cons_append, List.nil_append, List.append_nil]
      refine J.aload_n g dX11_now_74 rfl rfl ?_
      refine J.callV0 g (c_X11_places l γ _ _ _ _ _ _ _ _ _ _ _ _ _ _ _ _ _ _ _ _ _ _ _ _ _ _ _ _ _ _ _ _ _ _ _ _ _ _ _ _ hw) jy_X11_places lm_X11_190 (q0 := 0) rfl jX11.1 ⟨⟨Nat.le_of_ble_eq_true rfl, Nat.le_of_ble_eq_true rfl⟩, Nat.le_of_ble_eq_true rfl, Nat.le_of_ble_eq_true rfl⟩ (Nat.le_of_ble_eq_true rfl) rfl [0, 1] rfl rfl dX11_now_75 ?_
      intro _ _
      dsimp only [jpush]
      refine J.if_neN g dX11_now_78 (tgt := 85) (by decide) (by omega) (fun c_78 => ?_) (fun c_78 => ?_)
      · refine J.aload_n g dX11_now_85 rfl rfl ?_
        refine J.get g jX11 21 (by decide) lf_X11_107 0 rfl rfl dX11_now_86 ?_
        refine J.aload_n g dX11_now_89 rfl rfl ?_
        refine J.callV0 g (c_X11_all l γ _ _ _ _ _ _ _ _ _ _ _ _ _ _ _ _ _ _ _ _ _ _ _ _ _ _ _ _ _ _ _ _ _ _ _ _ _ _ _ _ hw) jy_X11_all lm_X11_204 (q0 := 0) rfl jX11.1 ⟨⟨Nat.le_of_ble_eq_true rfl, Nat.le_of_ble_eq_true rfl⟩, Nat.le_of_ble_eq_true rfl, Nat.le_of_ble_eq_true rfl⟩ (Nat.le_of_ble_eq_true rfl) rfl [0, 1] rfl rfl dX11_now_90 ?_
        intro _ _
        dsimp only [jpush]
        refine J.ialdN g 2 rfl (by omega) (by decide) dX11_now_93 ?_
        exact J.iret g hE u_71 (by rw [jsel_t (N := 7) rfl (by decide) (by decide)]; first | exact congrArg (fun z => some (Value.int z)) (if_pos c_78) | (rw [h_71 _ (by omega)]; exact congrArg (fun z => some (Value.int z)) (if_neg c_78))) trivial rfl ⟨Nat.le_of_ble_eq_true rfl, Nat.le_of_ble_eq_true rfl⟩ dX11_now_94
      · refine J.iconst (v := -1) g dX11_now_81 (by decide) ?_
        refine J.goto g dX11_now_82 (tgt := 94) (by decide) ?_
        exact J.iret g hE u_71 (by rw [jsel_t (N := 7) rfl (by decide) (by decide)]; first | exact congrArg (fun z => some (Value.int z)) (if_pos c_78) | (rw [h_71 _ (by omega)]; exact congrArg (fun z => some (Value.int z)) (if_neg c_78))) trivial rfl ⟨Nat.le_of_ble_eq_true rfl, Nat.le_of_ble_eq_true rfl⟩ dX11_now_94
    · show J γ l x _ _ _ _ _ 95
      refine J.aload_n g dX11_now_95 rfl rfl ?_
      refine J.get g jX11 20 (by decide) lf_X11_183 0 rfl rfl dX11_now_96 ?_
      exact J.iret g hE su (by rw [jsel_t (N := 7) rfl (by decide) (by decide)]; rfl) trivial rfl ⟨Nat.le_of_ble_eq_true rfl, Nat.le_of_ble_eq_true rfl⟩ dX11_now_99
    · show J γ l x _ _ _ _ _ 100
      refine J.aload_n g dX11_now_100 rfl rfl ?_
      refine J.get g jX11 2 (by decide) lf_X11_15 0 rfl rfl dX11_now_101 ?_
      exact J.iret g hE su (by rw [jsel_t (N := 7) rfl (by decide) (by decide)]; rfl) trivial rfl ⟨Nat.le_of_ble_eq_true rfl, Nat.le_of_ble_eq_true rfl⟩ dX11_now_104
  · show J γ l x _ _ _ _ _ 105
    refine J.iconst (v := -1) g dX11_now_105 (by decide) ?_
    exact J.iret g hE su (by rw [jsel_f c_6]) trivial rfl ⟨Nat.le_of_ble_eq_true rfl, Nat.le_of_ble_eq_true rfl⟩ dX11_now_106
set_option maxHeartbeats 4000000 in
set_option maxRecDepth 100000 in
theorem c_X11_part (l : Launch) (γ : jγ) (mo mta mtd msz mto mfr mso mnu mfa mpl mro mnw mrd mkp msn mbf mlv mik msm msu mbe mfe mmy mof msf mlr mty mfm mrn mrb mln mtb : Nat) (mth mfw mse : Int32) (mwd : Int64) (cd n : Nat) (f w : Nat → Nat) (i : Int32) (hw : mIs cd n f w) : jM (S := Unit) l γ yX11_part cX11_part 2 (some .int) ({ frames := 1, cells := 0, slots := 0, locals := 22 } : Room) [.ref mo, .int i] [(mo, .inr (11, [.int mth, .ref mta, .int (nI mtd), .int (nI msz), .int (nI mto), .int (nI mfr), .int (nI mso), .int (nI mnu), .int (nI mfa), .int mfw, .int (nI mpl), .int (nI mro), .long mwd, .ref mnw, .ref mrd, .ref mkp, .ref msn, .ref mbf, .ref mlv, .ref mik, .int (nI msm), .ref msu, .ref mbe, .ref mfe, .ref mmy, .ref mof, .ref msf, .ref mlr, .ref mty, .ref mfm, .ref mrn, .ref mrb, .int (nI mln), .ref mtb, .int mse])), (mnw, .inl (γ.2 0, 17, .inl (fun j => nI (w j))))] (fun w0 => some (.int (jpart cd (gpt cd) i))) (fun w0 => [(mo, .inr (11, [.int (nI 0), .ref mta, .int (nI mtd), .int (nI msz), .int (nI mto), .int (nI mfr), .int (nI mso), .int (nI mnu), .int (nI mfa), .int mfw, .int (nI mpl), .int (nI mro), .long mwd, .ref mnw, .ref mrd, .ref mkp, .ref msn, .ref mbf, .ref mlv, .ref mik, .int (nI msm), .ref msu, .ref mbe, .ref mfe, .ref mmy, .ref mof, .ref msf, .ref mlr, .ref mty, .ref mfm, .ref mrn, .ref mrb, .int (nI mln), .ref mtb, .int mse])), (mnw, .inl (γ.2 0, 17, .inl (fun j => nI (w j))))]) (fun w0 => True) := by
  refine jM.of [some (.ref mo), some (.int i)] rfl (Nat.le_of_ble_eq_true rfl) (by decide) ?_
  intro x g hE hin
  have hwg := hw.g
  have hw5 := hw.2.2.2.2.2.1
  have hwf := hw.2.2.2.2.2.2
  have hw3 := hw.2.2.1
  refine J.aload_n g dX11_part_0 rfl rfl ?_
  refine J.iconstN g 0 dX11_part_1 ?_
  refine J.put g jX11 0 (by decide) lf_X11_1 0 rfl rfl (Nat.le_of_ble_eq_true rfl) rfl rfl dX11_part_2 ?_
  try dsimp only [List.set_cons_zero, List.set_cons_succ]
  refine J.iload_n g dX11_part_5 rfl rfl ?_
  refine J.iconstN g 0 dX11_part_6 ?_
  refine J.aload_n g dX11_part_7 rfl rfl ?_
  refine J.get g jX11 13 (by decide) lf_X11_85 0 rfl rfl dX11_part_8 ?_
  refine J.iconstN g 0 dX11_part_11 ?_
  refine J.ialdN g 1 rfl (by omega) (by decide) dX11_part_12 ?_
  refine J.iconstN g 1 dX11_part_13 ?_
  refine J.isub' g dX11_part_14 (j_subm _) ?_
  refine J.callS0 g (c_X11_isIn l γ _ _ _ ) jy_X11_isIn lm_X11_157 ⟨⟨Nat.le_of_ble_eq_true rfl, Nat.le_of_ble_eq_true rfl⟩, Nat.le_of_ble_eq_true rfl, Nat.le_of_ble_eq_true rfl⟩ (Nat.le_of_ble_eq_true rfl) rfl [] rfl rfl dX11_part_15 ?_
  intro _ _
  dsimp only [jpush]
  have hmi := mIn_has (v := i) (k := w 0) (by omega)
  rw [hwg.2.2.1] at hmi ⊢
  refine J.if_eqB g dX11_part_18 (tgt := 32) (by decide) (fun c_18 => ?_) (fun c_18 => ?_)
  · refine J.iconst (v := -1) g dX11_part_32 (by decide) ?_
    exact J.iret g hE () (by first | rw [jpart_f (hmi.symm.trans c_18)] | rw [jpart_t hk hwg.2.1, ← hw3 k hk]) trivial rfl ⟨Nat.le_of_ble_eq_true rfl, Nat.le_of_ble_eq_true rfl⟩ dX11_part_33
  · obtain ⟨k, hk, rfl⟩ := jhas_t (hmi.symm.trans c_18)
    refine J.aload_n g dX11_part_21 rfl rfl ?_
    refine J.get g jX11 13 (by decide) lf_X11_85 0 rfl rfl dX11_part_22 ?_
    refine J.iconstN g 1 dX11_part_25 ?_
    refine J.iload_n g dX11_part_26 rfl rfl ?_
    refine J.iaddN g dX11_part_27 ?_
    refine J.ialdN g 1 rfl (by omega) (by decide) dX11_part_28 ?_
    refine J.goto g dX11_part_29 (tgt := 33) (by decide) ?_
    exact J.iret g hE () (by first | rw [jpart_f (hmi.symm.trans c_18)] | rw [jpart_t hk hwg.2.1, ← hw3 k hk]) trivial rfl ⟨Nat.le_of_ble_eq_true rfl, Nat.le_of_ble_eq_true rfl⟩ dX11_part_33
set_option maxHeartbeats 4000000 in
set_option maxRecDepth 100000 in
theorem c_X11_at (l : Launch) (γ : jγ) (mo mta mtd msz mto mfr mso mnu mfa mpl mro mnw mrd mkp msn mbf mlv mik msm msu mbe mfe mmy mof msf mlr mty mfm mrn mrb mln mtb : Nat) (mth mfw mse : Int32) (mwd : Int64) (cd n : Nat) (f w : Nat → Nat) (i : Int32) (hw : mIs cd n f w) : jM (S := Unit) l γ yX11_at cX11_at 2 (some .int) ({ frames := 2, cells := 0, slots := 0, locals := 43 } : Room) [.ref mo, .int i] [(mo, .inr (11, [.int mth, .ref mta, .int (nI mtd), .int (nI msz), .int (nI mto), .int (nI mfr), .int (nI mso), .int (nI mnu), .int (nI mfa), .int mfw, .int (nI mpl), .int (nI mro), .long mwd, .ref mnw, .ref mrd, .ref mkp, .ref msn, .ref mbf, .ref mlv, .ref mik, .int (nI msm), .ref msu, .ref mbe, .ref mfe, .ref mmy, .ref mof, .ref msf, .ref mlr, .ref mty, .ref mfm, .ref mrn, .ref mrb, .int (nI mln), .ref mtb, .int mse])), (mnw, .inl (γ.2 0, 17, .inl (fun j => nI (w j))))] (fun w0 => some (.int (jat f n i))) (fun w0 => [(mo, .inr (11, [.int (nI 0), .ref mta, .int (nI mtd), .int (nI msz), .int (nI mto), .int (nI mfr), .int (nI mso), .int (nI mnu), .int (nI mfa), .int mfw, .int (nI mpl), .int (nI mro), .long mwd, .ref mnw, .ref mrd, .ref mkp, .ref msn, .ref mbf, .ref mlv, .ref mik, .int (nI msm), .ref msu, .ref mbe, .ref mfe, .ref mmy, .ref mof, .ref msf, .ref mlr, .ref mty, .ref mfm, .ref mrn, .ref mrb, .int (nI mln), .ref mtb, .int mse])), (mnw, .inl (γ.2 0, 17, .inl (fun j => nI (w j))))]) (fun w0 => True) := by
  refine jM.of [some (.ref mo), some (.int i)] rfl (Nat.le_of_ble_eq_true rfl) (by decide) ?_
  intro x g hE hin
  have hwg := hw.g
  have hw5 := hw.2.2.2.2.2.1
  have hwf := hw.2.2.2.2.2.2
  have hw3 := hw.2.2.1
  refine J.aload_n g dX11_at_0 rfl rfl ?_
  refine J.iconstN g 0 dX11_at_1 ?_
  refine J.put g jX11 0 (by decide) lf_X11_1 0 rfl rfl (Nat.le_of_ble_eq_true rfl) rfl rfl dX11_at_2 ?_
  try dsimp only [List.set_cons_zero, List.set_cons_succ]
  refine J.aload_n g dX11_at_5 rfl rfl ?_
  refine J.iload_n g dX11_at_6 rfl rfl ?_
  refine J.callV0 g (c_X11_isPlace l γ _ _ _ _ _ _ _ _ _ _ _ _ _ _ _ _ _ _ _ _ _ _ _ _ _ _ _ _ _ _ _ _ _ _ _ _ _ _ _ _ _ hw) jy_X11_isPlace lm_X11_216 (q0 := 0) rfl jX11.1 ⟨⟨Nat.le_of_ble_eq_true rfl, Nat.le_of_ble_eq_true rfl⟩, Nat.le_of_ble_eq_true rfl, Nat.le_of_ble_eq_true rfl⟩ (Nat.le_of_ble_eq_true rfl) rfl [0, 1] rfl rfl dX11_at_7 ?_
  intro _ _
  dsimp only [jpush]
  refine J.if_eqB g dX11_at_10 (tgt := 24) (by decide) (fun c_10 => ?_) (fun c_10 => ?_)
  · refine J.iconst (v := -1) g dX11_at_24 (by decide) ?_
    exact J.iret g hE () (by first | rw [jat_f c_10] | rw [jat_t c_10, nI_clamp (by omega), hw5 k hk]) trivial rfl ⟨Nat.le_of_ble_eq_true rfl, Nat.le_of_ble_eq_true rfl⟩ dX11_at_25
  · obtain ⟨k, hk, rfl⟩ := jhas_t c_10
    refine J.aload_n g dX11_at_13 rfl rfl ?_
    refine J.get g jX11 13 (by decide) lf_X11_85 0 rfl rfl dX11_at_14 ?_
    refine J.iconstN g 5 dX11_at_17 ?_
    refine J.iload_n g dX11_at_18 rfl rfl ?_
    refine J.iaddN g dX11_at_19 ?_
    refine J.ialdN g 1 rfl (by omega) (by decide) dX11_at_20 ?_
    refine J.goto g dX11_at_21 (tgt := 25) (by decide) ?_
    exact J.iret g hE () (by first | rw [jat_f c_10] | rw [jat_t c_10, nI_clamp (by omega), hw5 k hk]) trivial rfl ⟨Nat.le_of_ble_eq_true rfl, Nat.le_of_ble_eq_true rfl⟩ dX11_at_25
set_option maxHeartbeats 4000000 in
set_option maxRecDepth 100000 in
theorem c_X11_add (l : Launch) (γ : jγ) (mo mta mtd msz mto mfr mso mnu mfa mpl mro mnw mrd mkp msn mbf mlv mik msm msu mbe mfe mmy mof msf mlr mty mfm mrn mrb mln mtb : Nat) (mth mfw mse : Int32) (mwd : Int64) (cd n : Nat) (f w : Nat → Nat) (a b : Int32) (hw : mIs cd n f w) : jM (S := Unit) l γ yX11_add cX11_add 3 (some .int) ({ frames := 3, cells := 0, slots := 0, locals := 63 } : Room) [.ref mo, .int a, .int b] [(mo, .inr (11, [.int mth, .ref mta, .int (nI mtd), .int (nI msz), .int (nI mto), .int (nI mfr), .int (nI mso), .int (nI mnu), .int (nI mfa), .int mfw, .int (nI mpl), .int (nI mro), .long mwd, .ref mnw, .ref mrd, .ref mkp, .ref msn, .ref mbf, .ref mlv, .ref mik, .int (nI msm), .ref msu, .ref mbe, .ref mfe, .ref mmy, .ref mof, .ref msf, .ref mlr, .ref mty, .ref mfm, .ref mrn, .ref mrb, .int (nI mln), .ref mtb, .int mse])), (mnw, .inl (γ.2 0, 17, .inl (fun j => nI (w j))))] (fun w0 => some (.int (jadd (god cd) (jmf cd) a b))) (fun w0 => [(mo, .inr (11, [.int (nI 0), .ref mta, .int (nI mtd), .int (nI msz), .int (nI mto), .int (nI mfr), .int (nI mso), .int (nI mnu), .int (nI mfa), .int mfw, .int (nI mpl), .int (nI mro), .long mwd, .ref mnw, .ref mrd, .ref mkp, .ref msn, .ref mbf, .ref mlv, .ref mik, .int (nI msm), .ref msu, .ref mbe, .ref mfe, .ref mmy, .ref mof, .ref msf, .ref mlr, .ref mty, .ref mfm, .ref mrn, .ref mrb, .int (nI mln), .ref mtb, .int mse])), (mnw, .inl (γ.2 0, 17, .inl (fun j => nI (w j))))]) (fun w0 => True) := by
  refine jM.of [some (.ref mo), some (.int a), some (.int b)] rfl (Nat.le_of_ble_eq_true rfl) (by decide) ?_
  intro x g hE hin
  have hwg := hw.g
  have hw5 := hw.2.2.2.2.2.1
  have hwf := hw.2.2.2.2.2.2
  have hw3 := hw.2.2.1
  refine J.aload_n g dX11_add_0 rfl rfl ?_
  refine J.iconstN g 0 dX11_add_1 ?_
  refine J.put g jX11 0 (by decide) lf_X11_1 0 rfl rfl (Nat.le_of_ble_eq_true rfl) rfl rfl dX11_add_2 ?_
  try dsimp only [List.set_cons_zero, List.set_cons_succ]
  refine J.aload_n g dX11_add_5 rfl rfl ?_
  refine J.iload_n g dX11_add_6 rfl rfl ?_
  refine J.callV0 g (c_X11_isElement l γ _ _ _ _ _ _ _ _ _ _ _ _ _ _ _ _ _ _ _ _ _ _ _ _ _ _ _ _ _ _ _ _ _ _ _ _ _ _ _ _ _ hw) jy_X11_isElement lm_X11_219 (q0 := 0) rfl jX11.1 ⟨⟨Nat.le_of_ble_eq_true rfl, Nat.le_of_ble_eq_true rfl⟩, Nat.le_of_ble_eq_true rfl, Nat.le_of_ble_eq_true rfl⟩ (Nat.le_of_ble_eq_true rfl) rfl [0, 1] rfl rfl dX11_add_7 ?_
  intro _ _
  dsimp only [jpush]
  refine J.if_eqB g dX11_add_10 (tgt := 30) (by decide) (fun c_10 => ?_) (fun c_10 => ?_)
  · refine J.iconst (v := -1) g dX11_add_30 (by decide) ?_
    exact J.iret g hE () (by first | (rw [jadd_t hwg.1 hka hkb]; rfl) | rw [jadd_f2 c_18] | rw [jadd_f1 c_10]) trivial rfl ⟨Nat.le_of_ble_eq_true rfl, Nat.le_of_ble_eq_true rfl⟩ dX11_add_31
  · obtain ⟨ka, hka, rfl⟩ := jhas_t c_10
    refine J.aload_n g dX11_add_13 rfl rfl ?_
    refine J.iload_n g dX11_add_14 rfl rfl ?_
    refine J.callV0 g (c_X11_isElement l γ _ _ _ _ _ _ _ _ _ _ _ _ _ _ _ _ _ _ _ _ _ _ _ _ _ _ _ _ _ _ _ _ _ _ _ _ _ _ _ _ _ hw) jy_X11_isElement lm_X11_219 (q0 := 0) rfl jX11.1 ⟨⟨Nat.le_of_ble_eq_true rfl, Nat.le_of_ble_eq_true rfl⟩, Nat.le_of_ble_eq_true rfl, Nat.le_of_ble_eq_true rfl⟩ (Nat.le_of_ble_eq_true rfl) rfl [0, 1] rfl rfl dX11_add_15 ?_
    intro _ _
    dsimp only [jpush]
    refine J.if_eqB g dX11_add_18 (tgt := 30) (by decide) (fun c_18 => ?_) (fun c_18 => ?_)
    · refine J.iconst (v := -1) g dX11_add_30 (by decide) ?_
      exact J.iret g hE () (by first | (rw [jadd_t hwg.1 hka hkb]; rfl) | rw [jadd_f2 c_18] | rw [jadd_f1 c_10]) trivial rfl ⟨Nat.le_of_ble_eq_true rfl, Nat.le_of_ble_eq_true rfl⟩ dX11_add_31
    · obtain ⟨kb, hkb, rfl⟩ := jhas_t c_18
      refine J.aload_n g dX11_add_21 rfl rfl ?_
      refine J.iload_n g dX11_add_22 rfl rfl ?_
      refine J.iload_n g dX11_add_23 rfl rfl ?_
      refine J.callV0 g (c_X11_together l γ _ _ _ _ _ _ _ _ _ _ _ _ _ _ _ _ _ _ _ _ _ _ _ _ _ _ _ _ _ _ _ _ _ _ _ _ _ _ _ _ _ _ hw hka hkb) jy_X11_together lm_X11_201 (q0 := 0) rfl jX11.1 ⟨⟨Nat.le_of_ble_eq_true rfl, Nat.le_of_ble_eq_true rfl⟩, Nat.le_of_ble_eq_true rfl, Nat.le_of_ble_eq_true rfl⟩ (Nat.le_of_ble_eq_true rfl) rfl [0, 1] rfl rfl dX11_add_24 ?_
      intro _ _
      dsimp only [jpush]
      refine J.goto g dX11_add_27 (tgt := 31) (by decide) ?_
      exact J.iret g hE () (by first | (rw [jadd_t hwg.1 hka hkb]; rfl) | rw [jadd_f2 c_18] | rw [jadd_f1 c_10]) trivial rfl ⟨Nat.le_of_ble_eq_true rfl, Nat.le_of_ble_eq_true rfl⟩ dX11_add_31
set_option maxHeartbeats 4000000 in
set_option maxRecDepth 100000 in
theorem c_X11_sum_yes (l : Launch) (γ : jγ) (mo mta mtd msz mto mfr mso mnu mfa mpl mro mnw mrd mkp msn mbf mlv mik msm msu mbe mfe mmy mof msf mlr mty mfm mrn mrb mln mtb : Nat) (mth mfw mse : Int32) (mwd : Int64) (cd n : Nat) (f w : Nat → Nat) (su : Nat → Nat) (s : Nat) (hw : mIs cd n f w) (hs : 1 ≤ s ∧ s ≤ 2 ^ n - 1) : jM (S := Nat → Nat) l γ yX11_sum cX11_sum 2 (some .int) ({ frames := 3, cells := 0, slots := 0, locals := 73 } : Room) [.ref mo, .int (nI s)] [(mo, .inr (11, [.int mth, .ref mta, .int (nI mtd), .int (nI msz), .int (nI mto), .int (nI mfr), .int (nI mso), .int (nI mnu), .int (nI mfa), .int mfw, .int (nI mpl), .int (nI mro), .long mwd, .ref mnw, .ref mrd, .ref mkp, .ref msn, .ref mbf, .ref mlv, .ref mik, .int (nI msm), .ref msu, .ref mbe, .ref mfe, .ref mmy, .ref mof, .ref msf, .ref mlr, .ref mty, .ref mfm, .ref mrn, .ref mrb, .int (nI mln), .ref mtb, .int mse])), (mnw, .inl (γ.2 0, 17, .inl (fun j => nI (w j)))), (msu, .inl (γ.2 0, 4096, .inl (fun j => nI (su j))))] (fun u => some (.int (nI (gS cd f n s)))) (fun u => [(mo, .inr (11, [.int (nI 0), .ref mta, .int (nI mtd), .int (nI msz), .int (nI mto), .int (nI mfr), .int (nI mso), .int (nI mnu), .int (nI mfa), .int mfw, .int (nI mpl), .int (nI mro), .long mwd, .ref mnw, .ref mrd, .ref mkp, .ref msn, .ref mbf, .ref mlv, .ref mik, .int (nI msm), .ref msu, .ref mbe, .ref mfe, .ref mmy, .ref mof, .ref msf, .ref mlr, .ref mty, .ref mfm, .ref mrn, .ref mrb, .int (nI mln), .ref mtb, .int mse])), (mnw, .inl (γ.2 0, 17, .inl (fun j => nI (w j)))), (msu, .inl (γ.2 0, 4096, .inl (fun j => nI (u j))))]) (fun u => True) := by
  refine jM.of [some (.ref mo), some (.int (nI s))] rfl (Nat.le_of_ble_eq_true rfl) (by decide) ?_
  intro x g hE hin
  have hwg := hw.g
  have hw5 := hw.2.2.2.2.2.1
  have hwf := hw.2.2.2.2.2.2
  have hw3 := hw.2.2.1
  have hpw : 2 ^ n ≤ 2 ^ 12 := Nat.pow_le_pow_right (by omega) hwg.2.2.2.2.1
  have hpp := Nat.two_pow_pos n
  refine J.aload_n g dX11_sum_0 rfl rfl ?_
  refine J.iconstN g 0 dX11_sum_1 ?_
  refine J.put g jX11 0 (by decide) lf_X11_1 0 rfl rfl (Nat.le_of_ble_eq_true rfl) rfl rfl dX11_sum_2 ?_
  try dsimp only [List.set_cons_zero, List.set_cons_succ]
  refine J.iload_n g dX11_sum_5 rfl rfl ?_
  refine J.iconstN g 1 dX11_sum_6 ?_
  refine J.aload_n g dX11_sum_7 rfl rfl ?_
  refine J.callV0 g (c_X11_all l γ _ _ _ _ _ _ _ _ _ _ _ _ _ _ _ _ _ _ _ _ _ _ _ _ _ _ _ _ _ _ _ _ _ _ _ _ _ _ _ _ hw) jy_X11_all lm_X11_204 (q0 := 0) rfl jX11.1 ⟨⟨Nat.le_of_ble_eq_true rfl, Nat.le_of_ble_eq_true rfl⟩, Nat.le_of_ble_eq_true rfl, Nat.le_of_ble_eq_true rfl⟩ (Nat.le_of_ble_eq_true rfl) rfl [0, 1] rfl rfl dX11_sum_8 ?_
  intro _ _
  dsimp only [jpush]
  refine J.callS0 g (c_X11_isIn l γ _ _ _ ) jy_X11_isIn lm_X11_157 ⟨⟨Nat.le_of_ble_eq_true rfl, Nat.le_of_ble_eq_true rfl⟩, Nat.le_of_ble_eq_true rfl, Nat.le_of_ble_eq_true rfl⟩ (Nat.le_of_ble_eq_true rfl) rfl [] rfl rfl dX11_sum_11 ?_
  intro _ _
  dsimp only [jpush]
  refine J.if_neB g dX11_sum_14 (tgt := 22) (by decide) (fun c_14 => ?_) (fun c_14 => absurd c_14 (by rw [mIn_nn (by omega) (by omega) (by omega), decide_eq_true (by omega)] at c_14; cases c_14))
  refine J.aload_n g dX11_sum_22 rfl rfl ?_
  refine J.callV g (c_X11_laysSums l γ _ _ _ _ _ _ _ _ _ _ _ _ _ _ _ _ _ _ _ _ _ _ _ _ _ _ _ _ _ _ _ _ _ _ _ _ _ _ _ _ _ hw) jy_X11_laysSums lm_X11_213 (q0 := 0) rfl jX11.1 ⟨⟨Nat.le_of_ble_eq_true rfl, Nat.le_of_ble_eq_true rfl⟩, Nat.le_of_ble_eq_true rfl, Nat.le_of_ble_eq_true rfl⟩ (Nat.le_of_ble_eq_true rfl) rfl [0, 1, 2] rfl (fun _ => rfl) rfl dX11_sum_23 ?_
  intro u_23 h_23
  dsimp only [jput, List.set_cons_zero, List.set_cons_succ, Option.toList, List.append, List.cons_append, List.nil_append, List.append_nil]
  refine J.aload_n g dX11_sum_26 rfl rfl ?_
  refine J.get g jX11 21 (by decide) lf_X11_107 0 rfl rfl dX11_sum_27 ?_
  refine J.iload_n g dX11_sum_30 rfl rfl ?_
  refine J.ialdN g 2 rfl (by omega) (by decide) dX11_sum_31 ?_
  exact J.iret g hE u_23 (by rw [h_23 s (by omega)]) trivial rfl ⟨Nat.le_of_ble_eq_true rfl, Nat.le_of_ble_eq_true rfl⟩ dX11_sum_32
set_option maxHeartbeats 4000000 in
set_option maxRecDepth 100000 in
theorem c_X11_sum_no (l : Launch) (γ : jγ) (mo mta mtd msz mto mfr mso mnu mfa mpl mro mnw mrd mkp msn mbf mlv mik msm msu mbe mfe mmy mof msf mlr mty mfm mrn mrb mln mtb : Nat) (mth mfw mse : Int32) (mwd : Int64) (cd n : Nat) (f w : Nat → Nat) (i : Int32) (hw : mIs cd n f w) (hs : mIn i (nI 1) (nI (2 ^ n - 1)) = false) : jM (S := Unit) l γ yX11_sum cX11_sum 2 (some .int) ({ frames := 3, cells := 0, slots := 0, locals := 73 } : Room) [.ref mo, .int i] [(mo, .inr (11, [.int mth, .ref mta, .int (nI mtd), .int (nI msz), .int (nI mto), .int (nI mfr), .int (nI mso), .int (nI mnu), .int (nI mfa), .int mfw, .int (nI mpl), .int (nI mro), .long mwd, .ref mnw, .ref mrd, .ref mkp, .ref msn, .ref mbf, .ref mlv, .ref mik, .int (nI msm), .ref msu, .ref mbe, .ref mfe, .ref mmy, .ref mof, .ref msf, .ref mlr, .ref mty, .ref mfm, .ref mrn, .ref mrb, .int (nI mln), .ref mtb, .int mse])), (mnw, .inl (γ.2 0, 17, .inl (fun j => nI (w j))))] (fun w0 => some (.int (nI 0))) (fun w0 => [(mo, .inr (11, [.int (nI 1), .ref mta, .int (nI mtd), .int (nI msz), .int (nI mto), .int (nI mfr), .int (nI mso), .int (nI mnu), .int (nI mfa), .int mfw, .int (nI mpl), .int (nI mro), .long mwd, .ref mnw, .ref mrd, .ref mkp, .ref msn, .ref mbf, .ref mlv, .ref mik, .int (nI msm), .ref msu, .ref mbe, .ref mfe, .ref mmy, .ref mof, .ref msf, .ref mlr, .ref mty, .ref mfm, .ref mrn, .ref mrb, .int (nI mln), .ref mtb, .int mse])), (mnw, .inl (γ.2 0, 17, .inl (fun j => nI (w j))))]) (fun w0 => True) := by
  refine jM.of [some (.ref mo), some (.int i)] rfl (Nat.le_of_ble_eq_true rfl) (by decide) ?_
  intro x g hE hin
  have hwg := hw.g
  have hw5 := hw.2.2.2.2.2.1
  have hwf := hw.2.2.2.2.2.2
  have hw3 := hw.2.2.1
  have hpw : 2 ^ n ≤ 2 ^ 12 := Nat.pow_le_pow_right (by omega) hwg.2.2.2.2.1
  have hpp := Nat.two_pow_pos n
  refine J.aload_n g dX11_sum_0 rfl rfl ?_
  refine J.iconstN g 0 dX11_sum_1 ?_
  refine J.put g jX11 0 (by decide) lf_X11_1 0 rfl rfl (Nat.le_of_ble_eq_true rfl) rfl rfl dX11_sum_2 ?_
  try dsimp only [List.set_cons_zero, List.set_cons_succ]
  refine J.iload_n g dX11_sum_5 rfl rfl ?_
  refine J.iconstN g 1 dX11_sum_6 ?_
  refine J.aload_n g dX11_sum_7 rfl rfl ?_
  refine J.callV0 g (c_X11_all l γ _ _ _ _ _ _ _ _ _ _ _ _ _ _ _ _ _ _ _ _ _ _ _ _ _ _ _ _ _ _ _ _ _ _ _ _ _ _ _ _ hw) jy_X11_all lm_X11_204 (q0 := 0) rfl jX11.1 ⟨⟨Nat.le_of_ble_eq_true rfl, Nat.le_of_ble_eq_true rfl⟩, Nat.le_of_ble_eq_true rfl, Nat.le_of_ble_eq_true rfl⟩ (Nat.le_of_ble_eq_true rfl) rfl [0, 1] rfl rfl dX11_sum_8 ?_
  intro _ _
  dsimp only [jpush]
  refine J.callS0 g (c_X11_isIn l γ _ _ _ ) jy_X11_isIn lm_X11_157 ⟨⟨Nat.le_of_ble_eq_true rfl, Nat.le_of_ble_eq_true rfl⟩, Nat.le_of_ble_eq_true rfl, Nat.le_of_ble_eq_true rfl⟩ (Nat.le_of_ble_eq_true rfl) rfl [] rfl rfl dX11_sum_11 ?_
  intro _ _
  dsimp only [jpush]
  refine J.if_neB g dX11_sum_14 (tgt := 22) (by decide) (fun c_14 => absurd c_14 (by rw [hs] at c_14; cases c_14)) (fun c_14 => ?_)
  refine J.aload_n g dX11_sum_17 rfl rfl ?_
  refine J.callV g (c_X11_refuse l γ _ _ _ _ _ _ _ _ _ _ _ _ _ _ _ _ _ _ _ _ _ _ _ _ _ _ _ _ _ _ _ _ _ _ _ _ ) jy_X11_refuse lm_X11_222 (q0 := 0) rfl jX11.1 ⟨⟨Nat.le_of_ble_eq_true rfl, Nat.le_of_ble_eq_true rfl⟩, Nat.le_of_ble_eq_true rfl, Nat.le_of_ble_eq_true rfl⟩ (Nat.le_of_ble_eq_true rfl) rfl [0] rfl (fun _ => rfl) rfl dX11_sum_18 ?_
  intro _ _
  dsimp only [jput, List.set_cons_zero, List.set_cons_succ, Option.toList, List.append, List.cons_append, List.nil_append, List.append_nil]
  exact J.iret g hE () rfl trivial rfl ⟨Nat.le_of_ble_eq_true rfl, Nat.le_of_ble_eq_true rfl⟩ dX11_sum_21
set_option maxHeartbeats 4000000 in
set_option maxRecDepth 100000 in
theorem c_X11_sums (l : Launch) (γ : jγ) (mo mta mtd msz mto mfr mso mnu mfa mpl mro mnw mrd mkp msn mbf mlv mik msm msu mbe mfe mmy mof msf mlr mty mfm mrn mrb mln mtb : Nat) (mth mfw mse : Int32) (mwd : Int64) (cd n : Nat) (f w : Nat → Nat) (su : Nat → Nat) (hw : mIs cd n f w) : jM (S := Nat → Nat) l γ yX11_sums cX11_sums 3 (some .int) ({ frames := 3, cells := 0, slots := 0, locals := 73 } : Room) [.ref mo] [(mo, .inr (11, [.int mth, .ref mta, .int (nI mtd), .int (nI msz), .int (nI mto), .int (nI mfr), .int (nI mso), .int (nI mnu), .int (nI mfa), .int mfw, .int (nI mpl), .int (nI mro), .long mwd, .ref mnw, .ref mrd, .ref mkp, .ref msn, .ref mbf, .ref mlv, .ref mik, .int (nI msm), .ref msu, .ref mbe, .ref mfe, .ref mmy, .ref mof, .ref msf, .ref mlr, .ref mty, .ref mfm, .ref mrn, .ref mrb, .int (nI mln), .ref mtb, .int mse])), (mnw, .inl (γ.2 0, 17, .inl (fun j => nI (w j)))), (msu, .inl (γ.2 0, 4096, .inl (fun j => nI (su j))))] (fun u => some (.int (nI (mors (gS cd f n) (2 ^ n - 1))))) (fun u => [(mo, .inr (11, [.int (nI 0), .ref mta, .int (nI mtd), .int (nI msz), .int (nI mto), .int (nI mfr), .int (nI mso), .int (nI mnu), .int (nI mfa), .int mfw, .int (nI mpl), .int (nI mro), .long mwd, .ref mnw, .ref mrd, .ref mkp, .ref msn, .ref mbf, .ref mlv, .ref mik, .int (nI msm), .ref msu, .ref mbe, .ref mfe, .ref mmy, .ref mof, .ref msf, .ref mlr, .ref mty, .ref mfm, .ref mrn, .ref mrb, .int (nI mln), .ref mtb, .int mse])), (mnw, .inl (γ.2 0, 17, .inl (fun j => nI (w j)))), (msu, .inl (γ.2 0, 4096, .inl (fun j => nI (u j))))]) (fun u => True) := by
  refine jM.of [some (.ref mo), none, none] rfl (Nat.le_of_ble_eq_true rfl) (by decide) ?_
  intro x g hE hin
  have hwg := hw.g
  have hw5 := hw.2.2.2.2.2.1
  have hwf := hw.2.2.2.2.2.2
  have hw3 := hw.2.2.1
  have hpw : 2 ^ n ≤ 2 ^ 12 := Nat.pow_le_pow_right (by omega) hwg.2.2.2.2.1
  have hpp := Nat.two_pow_pos n
  refine J.aload_n g dX11_sums_0 rfl rfl ?_
  refine J.iconstN g 0 dX11_sums_1 ?_
  refine J.put g jX11 0 (by decide) lf_X11_1 0 rfl rfl (Nat.le_of_ble_eq_true rfl) rfl rfl dX11_sums_2 ?_
  try dsimp only [List.set_cons_zero, List.set_cons_succ]
  refine J.aload_n g dX11_sums_5 rfl rfl ?_
  refine J.callV g (c_X11_laysSums l γ _ _ _ _ _ _ _ _ _ _ _ _ _ _ _ _ _ _ _ _ _ _ _ _ _ _ _ _ _ _ _ _ _ _ _ _ _ _ _ _ _ hw) jy_X11_laysSums lm_X11_213 (q0 := 0) rfl jX11.1 ⟨⟨Nat.le_of_ble_eq_true rfl, Nat.le_of_ble_eq_true rfl⟩, Nat.le_of_ble_eq_true rfl, Nat.le_of_ble_eq_true rfl⟩ (Nat.le_of_ble_eq_true rfl) rfl [0, 1, 2] rfl (fun _ => rfl) rfl dX11_sums_6 ?_
  intro u_6 h_6
  dsimp only [jput, List.set_cons_zero, List.set_cons_succ, Option.toList, List.append, List.cons_append, List.nil_append, List.append_nil]
  refine J.iconstN g 0 dX11_sums_9 ?_
  refine J.istore_n g dX11_sums_10 rfl rfl rfl ?_
  try dsimp only [List.set_cons_zero, List.set_cons_succ]
  refine J.iconstN g 1 dX11_sums_11 ?_
  refine J.istore_n g dX11_sums_12 rfl rfl rfl ?_
  try dsimp only [List.set_cons_zero, List.set_cons_succ]
  have lp : ∀ (d : Nat) (s : Nat), 2 ^ n - s < d → (1 ≤ s ∧ s ≤ 2 ^ n) → J γ l x [(mo, .inr (11, [.int (nI 0), .ref mta, .int (nI mtd), .int (nI msz), .int (nI mto), .int (nI mfr), .int (nI mso), .int (nI mnu), .int (nI mfa), .int mfw, .int (nI mpl), .int (nI mro), .long mwd, .ref mnw, .ref mrd, .ref mkp, .ref msn, .ref mbf, .ref mlv, .ref mik, .int (nI msm), .ref msu, .ref mbe, .ref mfe, .ref mmy, .ref mof, .ref msf, .ref mlr, .ref mty, .ref mfm, .ref mrn, .ref mrb, .int (nI mln), .ref mtb, .int mse])), (mnw, .inl (γ.2 0, 17, .inl (fun j => nI (w j)))), (msu, .inl (γ.2 0, 4096, .inl (fun j => nI (u_6 j))))] [some (.ref mo), some (.int (nI (mors (gS cd f n) (s - 1)))), some (.int (nI s))] [] 0 0 13 := by
    intro d
    induction d with
    | zero => intro s hm; exact absurd hm (Nat.not_lt_zero _)
    | succ d ih_lp =>
      intro s hm hs
      refine J.iload_n g dX11_sums_13 rfl rfl ?_
      refine J.aload_n g dX11_sums_14 rfl rfl ?_
      refine J.callV0 g (c_X11_all l γ _ _ _ _ _ _ _ _ _ _ _ _ _ _ _ _ _ _ _ _ _ _ _ _ _ _ _ _ _ _ _ _ _ _ _ _ _ _ _ _ hw) jy_X11_all lm_X11_204 (q0 := 0) rfl jX11.1 ⟨⟨Nat.le_of_ble_eq_true rfl, Nat.le_of_ble_eq_true rfl⟩, Nat.le_of_ble_eq_true rfl, Nat.le_of_ble_eq_true rfl⟩ (Nat.le_of_ble_eq_true rfl) rfl [0, 1] rfl rfl dX11_sums_15 ?_
      intro _ _
      dsimp only [jpush]
      refine J.icmp_gtN g dX11_sums_18 (tgt := 38) (by decide) (by omega) (by omega) (fun c_18 => ?_) (fun c_18 => ?_)
      · refine J.iload_n g dX11_sums_38 rfl rfl ?_
        exact J.iret g hE u_6 (by rw [show 2 ^ n - 1 = s - 1 by omega]) trivial rfl ⟨Nat.le_of_ble_eq_true rfl, Nat.le_of_ble_eq_true rfl⟩ dX11_sums_39
      · have hsv := h_6 s (by omega)
        have hsl : gS cd f n s < 24 := by have := gS_lt1 (cd := cd) (f := f) (s := s) hw.1 n hwf; omega
        have hq : mors (gS cd f n) (s + 1 - 1) = mors (gS cd f n) (s - 1) ||| 1 <<< u_6 s := by obtain ⟨z, rfl⟩ : ∃ z, s = z + 1 := ⟨s - 1, by omega⟩; rw [hsv]; rfl
        refine J.iload_n g dX11_sums_21 rfl rfl ?_
        refine J.iconstN g 1 dX11_sums_22 ?_
        refine J.aload_n g dX11_sums_23 rfl rfl ?_
        refine J.get g jX11 21 (by decide) lf_X11_107 0 rfl rfl dX11_sums_24 ?_
        refine J.iload_n g dX11_sums_27 rfl rfl ?_
        refine J.ialdN g 2 rfl (by omega) (by decide) dX11_sums_28 ?_
        refine J.ishl' g dX11_sums_29 (j_shl1 (by omega)) ?_
        refine J.ior' g dX11_sums_30 (j_or _ _) ?_
        refine J.istore_n g dX11_sums_31 rfl rfl rfl ?_
        try dsimp only [List.set_cons_zero, List.set_cons_succ]
        refine J.iincN g 1 dX11_sums_32 rfl rfl ?_
        try dsimp only [List.set_cons_zero, List.set_cons_succ]
        refine J.goto g dX11_sums_35 (tgt := 13) (by decide) ?_
        have ih2 := ih_lp (s + 1) (by omega) (by omega)
        rw [hq] at ih2
        exact J.lvle (jle_s (jle_s (jle_s jle_0))) ih2
  exact J.lvle (jle_s (jle_s (jle_s jle_0))) (lp _ 1 (Nat.lt_succ_self _) (by omega))
set_option maxHeartbeats 4000000 in
set_option maxRecDepth 100000 in
theorem c_X11_firstOf (l : Launch) (γ : jγ) (mo mta mtd msz mto mfr mso mnu mfa mpl mro mnw mrd mkp msn mbf mlv mik msm msu mbe mfe mmy mof msf mlr mty mfm mrn mrb mln mtb : Nat) (mth mfw mse : Int32) (mwd : Int64) (cd n : Nat) (f w : Nat → Nat) (su : Nat → Nat) (gg k : Nat) (hw : mIs cd n f w) (hsu : ∀ s, s < 2 ^ n → su s = gS cd f n s) (hg : gg < 2 ^ 31) (hk : k < 2 ^ 31) : jM (S := Unit) l γ yX11_firstOf cX11_firstOf 4 (some .int) ({ frames := 2, cells := 0, slots := 0, locals := 40 } : Room) [.ref mo, .int (nI gg), .int (nI k)] [(mo, .inr (11, [.int mth, .ref mta, .int (nI mtd), .int (nI msz), .int (nI mto), .int (nI mfr), .int (nI mso), .int (nI mnu), .int (nI mfa), .int mfw, .int (nI mpl), .int (nI mro), .long mwd, .ref mnw, .ref mrd, .ref mkp, .ref msn, .ref mbf, .ref mlv, .ref mik, .int (nI msm), .ref msu, .ref mbe, .ref mfe, .ref mmy, .ref mof, .ref msf, .ref mlr, .ref mty, .ref mfm, .ref mrn, .ref mrb, .int (nI mln), .ref mtb, .int mse])), (mnw, .inl (γ.2 0, 17, .inl (fun j => nI (w j)))), (msu, .inl (γ.2 0, 4096, .inl (fun j => nI (su j))))] (fun w0 => some (.int (nI (mTkN cd f n gg k)))) (fun w0 => [(mo, .inr (11, [.int mth, .ref mta, .int (nI mtd), .int (nI msz), .int (nI mto), .int (nI mfr), .int (nI mso), .int (nI mnu), .int (nI mfa), .int mfw, .int (nI mpl), .int (nI mro), .long mwd, .ref mnw, .ref mrd, .ref mkp, .ref msn, .ref mbf, .ref mlv, .ref mik, .int (nI msm), .ref msu, .ref mbe, .ref mfe, .ref mmy, .ref mof, .ref msf, .ref mlr, .ref mty, .ref mfm, .ref mrn, .ref mrb, .int (nI mln), .ref mtb, .int mse])), (mnw, .inl (γ.2 0, 17, .inl (fun j => nI (w j)))), (msu, .inl (γ.2 0, 4096, .inl (fun j => nI (su j))))]) (fun w0 => True) := by
  refine jM.of [some (.ref mo), some (.int (nI gg)), some (.int (nI k)), none] rfl (Nat.le_of_ble_eq_true rfl) (by decide) ?_
  intro x g hE hin
  have hwg := hw.g
  have hw5 := hw.2.2.2.2.2.1
  have hwf := hw.2.2.2.2.2.2
  have hw3 := hw.2.2.1
  have hpw : 2 ^ n ≤ 2 ^ 12 := Nat.pow_le_pow_right (by omega) hwg.2.2.2.2.1
  have hpp := Nat.two_pow_pos n
  refine J.iconstN g 1 dX11_firstOf_0 ?_
  refine J.istore_n g dX11_firstOf_1 rfl rfl rfl ?_
  try dsimp only [List.set_cons_zero, List.set_cons_succ]
  have lp : ∀ (d : Nat) (s : Nat), 2 ^ n - s < d → (1 ≤ s ∧ s ≤ 2 ^ n) → (mTkN cd f n gg k = mfst (mTk cd f n gg k) (2 ^ n - s) s) → J γ l x [(mo, .inr (11, [.int mth, .ref mta, .int (nI mtd), .int (nI msz), .int (nI mto), .int (nI mfr), .int (nI mso), .int (nI mnu), .int (nI mfa), .int mfw, .int (nI mpl), .int (nI mro), .long mwd, .ref mnw, .ref mrd, .ref mkp, .ref msn, .ref mbf, .ref mlv, .ref mik, .int (nI msm), .ref msu, .ref mbe, .ref mfe, .ref mmy, .ref mof, .ref msf, .ref mlr, .ref mty, .ref mfm, .ref mrn, .ref mrb, .int (nI mln), .ref mtb, .int mse])), (mnw, .inl (γ.2 0, 17, .inl (fun j => nI (w j)))), (msu, .inl (γ.2 0, 4096, .inl (fun j => nI (su j))))] [some (.ref mo), some (.int (nI gg)), some (.int (nI k)), some (.int (nI s))] [] 0 0 2 := by
    intro d
    induction d with
    | zero => intro s hm; exact absurd hm (Nat.not_lt_zero _)
    | succ d ih_lp =>
      intro s hm hs hr
      refine J.iload_n g dX11_firstOf_2 rfl rfl ?_
      refine J.aload_n g dX11_firstOf_3 rfl rfl ?_
      refine J.callV0 g (c_X11_all l γ _ _ _ _ _ _ _ _ _ _ _ _ _ _ _ _ _ _ _ _ _ _ _ _ _ _ _ _ _ _ _ _ _ _ _ _ _ _ _ _ hw) jy_X11_all lm_X11_204 (q0 := 0) rfl jX11.1 ⟨⟨Nat.le_of_ble_eq_true rfl, Nat.le_of_ble_eq_true rfl⟩, Nat.le_of_ble_eq_true rfl, Nat.le_of_ble_eq_true rfl⟩ (Nat.le_of_ble_eq_true rfl) rfl [0, 1] rfl rfl dX11_firstOf_4 ?_
      intro _ _
      dsimp only [jpush]
      refine J.icmp_gtN g dX11_firstOf_7 (tgt := 40) (by decide) (by omega) (by omega) (fun c_7 => ?_) (fun c_7 => ?_)
      · refine J.iconstN g 0 dX11_firstOf_40 ?_
        exact J.iret g hE () (by rw [hr, mfst_0 (by omega)]) trivial rfl ⟨Nat.le_of_ble_eq_true rfl, Nat.le_of_ble_eq_true rfl⟩ dX11_firstOf_41
      · have hsv := hsu s (by omega)
        have hsl : gS cd f n s < 24 := by have := gS_lt1 (cd := cd) (f := f) (s := s) hw.1 n hwf; omega
        refine J.aload_n g dX11_firstOf_10 rfl rfl ?_
        refine J.get g jX11 21 (by decide) lf_X11_107 0 rfl rfl dX11_firstOf_11 ?_
        refine J.iload_n g dX11_firstOf_14 rfl rfl ?_
        refine J.ialdN g 2 rfl (by omega) (by decide) dX11_firstOf_15 ?_
        refine J.iload_n g dX11_firstOf_16 rfl rfl ?_
        refine J.icmp_neN g dX11_firstOf_17 (tgt := 34) (by decide) (by omega) (by omega) (fun c_17 => ?_) (fun c_17 => ?_)
        · refine J.iincN g 1 dX11_firstOf_34 rfl rfl ?_
          try dsimp only [List.set_cons_zero, List.set_cons_succ]
          refine J.goto g dX11_firstOf_37 (tgt := 2) (by decide) ?_
          exact J.lvle (jle_s (jle_s (jle_s (jle_s jle_0)))) (ih_lp (s + 1) (by omega) (by omega) (hr.trans (mfst_n (by omega) (by first | exact mTk_1 (hsv ▸ c_17) | exact mTk_2 c_21 c_29))))
        · refine J.iload_n g dX11_firstOf_20 rfl rfl ?_
          refine J.if_eqN g dX11_firstOf_21 (tgt := 32) (by decide) (by omega) (fun c_21 => ?_) (fun c_21 => ?_)
          · refine J.iload_n g dX11_firstOf_32 rfl rfl ?_
            exact J.iret g hE () (by rw [hr, mfst_t (by omega) (by first | exact mTk_3 (hsv ▸ c_17) c_21 | exact mTk_4 (hsv ▸ c_17) c_29)]) trivial rfl ⟨Nat.le_of_ble_eq_true rfl, Nat.le_of_ble_eq_true rfl⟩ dX11_firstOf_33
          · refine J.iload_n g dX11_firstOf_24 rfl rfl ?_
            refine J.callS0 g (c_X11_bits l γ _ (by omega)) jy_X11_bits lm_X11_225 ⟨⟨Nat.le_of_ble_eq_true rfl, Nat.le_of_ble_eq_true rfl⟩, Nat.le_of_ble_eq_true rfl, Nat.le_of_ble_eq_true rfl⟩ (Nat.le_of_ble_eq_true rfl) rfl [] rfl rfl dX11_firstOf_25 ?_
            intro _ _
            dsimp only [jpush]
            have hjp : jpc s 12 ≤ 12 := jpc_le s 12
            refine J.iload_n g dX11_firstOf_28 rfl rfl ?_
            refine J.icmp_neN g dX11_firstOf_29 (tgt := 34) (by decide) (by omega) (by omega) (fun c_29 => ?_) (fun c_29 => ?_)
            · refine J.iincN g 1 dX11_firstOf_34 rfl rfl ?_
              try dsimp only [List.set_cons_zero, List.set_cons_succ]
              refine J.goto g dX11_firstOf_37 (tgt := 2) (by decide) ?_
              exact J.lvle (jle_s (jle_s (jle_s (jle_s jle_0)))) (ih_lp (s + 1) (by omega) (by omega) (hr.trans (mfst_n (by omega) (by first | exact mTk_1 (hsv ▸ c_17) | exact mTk_2 c_21 c_29))))
            · refine J.iload_n g dX11_firstOf_32 rfl rfl ?_
              exact J.iret g hE () (by rw [hr, mfst_t (by omega) (by first | exact mTk_3 (hsv ▸ c_17) c_21 | exact mTk_4 (hsv ▸ c_17) c_29)]) trivial rfl ⟨Nat.le_of_ble_eq_true rfl, Nat.le_of_ble_eq_true rfl⟩ dX11_firstOf_33
  exact J.lvle (jle_s (jle_s (jle_s (jle_s jle_0)))) (lp _ 1 (Nat.lt_succ_self _) (by omega) rfl)
set_option maxHeartbeats 4000000 in
set_option maxRecDepth 100000 in
theorem c_X11_found_yes (l : Launch) (γ : jγ) (mo mta mtd msz mto mfr mso mnu mfa mpl mro mnw mrd mkp msn mbf mlv mik msm msu mbe mfe mmy mof msf mlr mty mfm mrn mrb mln mtb : Nat) (mth mfw mse : Int32) (mwd : Int64) (cd n : Nat) (f w : Nat → Nat) (su : Nat → Nat) (gg : Nat) (i : Int32) (hw : mIs cd n f w) (hg : gg < god cd) (hi : mIn i (nI 0) (nI 1) = true) : jM (S := Nat → Nat) l γ yX11_found cX11_found 4 (some .int) ({ frames := 3, cells := 0, slots := 0, locals := 73 } : Room) [.ref mo, .int (nI gg), .int i] [(mo, .inr (11, [.int mth, .ref mta, .int (nI mtd), .int (nI msz), .int (nI mto), .int (nI mfr), .int (nI mso), .int (nI mnu), .int (nI mfa), .int mfw, .int (nI mpl), .int (nI mro), .long mwd, .ref mnw, .ref mrd, .ref mkp, .ref msn, .ref mbf, .ref mlv, .ref mik, .int (nI msm), .ref msu, .ref mbe, .ref mfe, .ref mmy, .ref mof, .ref msf, .ref mlr, .ref mty, .ref mfm, .ref mrn, .ref mrb, .int (nI mln), .ref mtb, .int mse])), (mnw, .inl (γ.2 0, 17, .inl (fun j => nI (w j)))), (msu, .inl (γ.2 0, 4096, .inl (fun j => nI (su j))))] (fun u => some (.int (mfnd (mTkN cd f n gg) i n 1))) (fun u => [(mo, .inr (11, [.int (nI 0), .ref mta, .int (nI mtd), .int (nI msz), .int (nI mto), .int (nI mfr), .int (nI mso), .int (nI mnu), .int (nI mfa), .int mfw, .int (nI mpl), .int (nI mro), .long mwd, .ref mnw, .ref mrd, .ref mkp, .ref msn, .ref mbf, .ref mlv, .ref mik, .int (nI msm), .ref msu, .ref mbe, .ref mfe, .ref mmy, .ref mof, .ref msf, .ref mlr, .ref mty, .ref mfm, .ref mrn, .ref mrb, .int (nI mln), .ref mtb, .int mse])), (mnw, .inl (γ.2 0, 17, .inl (fun j => nI (w j)))), (msu, .inl (γ.2 0, 4096, .inl (fun j => nI (u j))))]) (fun u => True) := by
  refine jM.of [some (.ref mo), some (.int (nI gg)), some (.int i), none] rfl (Nat.le_of_ble_eq_true rfl) (by decide) ?_
  intro x g hE hin
  have hwg := hw.g
  have hw5 := hw.2.2.2.2.2.1
  have hwf := hw.2.2.2.2.2.2
  have hw3 := hw.2.2.1
  have hpw : 2 ^ n ≤ 2 ^ 12 := Nat.pow_le_pow_right (by omega) hwg.2.2.2.2.1
  have hpp := Nat.two_pow_pos n
  refine J.aload_n g dX11_found_0 rfl rfl ?_
  refine J.iconstN g 0 dX11_found_1 ?_
  refine J.put g jX11 0 (by decide) lf_X11_1 0 rfl rfl (Nat.le_of_ble_eq_true rfl) rfl rfl dX11_found_2 ?_
  try dsimp only [List.set_cons_zero, List.set_cons_succ]
  refine J.aload_n g dX11_found_5 rfl rfl ?_
  refine J.iload_n g dX11_found_6 rfl rfl ?_
  refine J.callV0 g (c_X11_isElement l γ _ _ _ _ _ _ _ _ _ _ _ _ _ _ _ _ _ _ _ _ _ _ _ _ _ _ _ _ _ _ _ _ _ _ _ _ _ _ _ _ _ hw) jy_X11_isElement lm_X11_219 (q0 := 0) rfl jX11.1 ⟨⟨Nat.le_of_ble_eq_true rfl, Nat.le_of_ble_eq_true rfl⟩, Nat.le_of_ble_eq_true rfl, Nat.le_of_ble_eq_true rfl⟩ (Nat.le_of_ble_eq_true rfl) rfl [0, 1] rfl rfl dX11_found_7 ?_
  intro _ _
  dsimp only [jpush]
  refine J.if_eqB g dX11_found_10 (tgt := 22) (by decide) (fun c_10 => absurd c_10 (by rw [jhas_n _ (by omega), decide_eq_true hg] at c_10; cases c_10)) (fun c_10 => ?_)
  refine J.iload_n g dX11_found_13 rfl rfl ?_
  refine J.iconstN g 0 dX11_found_14 ?_
  refine J.iconstN g 1 dX11_found_15 ?_
  refine J.callS0 g (c_X11_isIn l γ _ _ _ ) jy_X11_isIn lm_X11_157 ⟨⟨Nat.le_of_ble_eq_true rfl, Nat.le_of_ble_eq_true rfl⟩, Nat.le_of_ble_eq_true rfl, Nat.le_of_ble_eq_true rfl⟩ (Nat.le_of_ble_eq_true rfl) rfl [] rfl rfl dX11_found_16 ?_
  intro _ _
  dsimp only [jpush]
  refine J.if_neB g dX11_found_19 (tgt := 24) (by decide) (fun c_19 => ?_) (fun c_19 => absurd c_19 (by rw [hi] at c_19; cases c_19))
  refine J.aload_n g dX11_found_24 rfl rfl ?_
  refine J.callV g (c_X11_laysSums l γ _ _ _ _ _ _ _ _ _ _ _ _ _ _ _ _ _ _ _ _ _ _ _ _ _ _ _ _ _ _ _ _ _ _ _ _ _ _ _ _ _ hw) jy_X11_laysSums lm_X11_213 (q0 := 0) rfl jX11.1 ⟨⟨Nat.le_of_ble_eq_true rfl, Nat.le_of_ble_eq_true rfl⟩, Nat.le_of_ble_eq_true rfl, Nat.le_of_ble_eq_true rfl⟩ (Nat.le_of_ble_eq_true rfl) rfl [0, 1, 2] rfl (fun _ => rfl) rfl dX11_found_25 ?_
  intro u_25 h_25
  dsimp only [jput, List.set_cons_zero, List.set_cons_succ, Option.toList, List.append, List.cons_append, List.nil_append, List.append_nil]
  refine J.iconstN g 1 dX11_found_28 ?_
  refine J.istore_n g dX11_found_29 rfl rfl rfl ?_
  try dsimp only [List.set_cons_zero, List.set_cons_succ]
  have lp : ∀ (d : Nat) (k : Nat), n + 1 - k < d → (1 ≤ k ∧ k ≤ n + 1) → (mfnd (mTkN cd f n gg) i n 1 = mfnd (mTkN cd f n gg) i (n + 1 - k) k) → J γ l x [(mo, .inr (11, [.int (nI 0), .ref mta, .int (nI mtd), .int (nI msz), .int (nI mto), .int (nI mfr), .int (nI mso), .int (nI mnu), .int (nI mfa), .int mfw, .int (nI mpl), .int (nI mro), .long mwd, .ref mnw, .ref mrd, .ref mkp, .ref msn, .ref mbf, .ref mlv, .ref mik, .int (nI msm), .ref msu, .ref mbe, .ref mfe, .ref mmy, .ref mof, .ref msf, .ref mlr, .ref mty, .ref mfm, .ref mrn, .ref mrb, .int (nI mln), .ref mtb, .int mse])), (mnw, .inl (γ.2 0, 17, .inl (fun j => nI (w j)))), (msu, .inl (γ.2 0, 4096, .inl (fun j => nI (u_25 j))))] [some (.ref mo), some (.int (nI gg)), some (.int i), some (.int (nI k))] [] 0 0 30 := by
    intro d
    induction d with
    | zero => intro k hm; exact absurd hm (Nat.not_lt_zero _)
    | succ d ih_lp =>
      intro k hm hk hr
      refine J.iload_n g dX11_found_30 rfl rfl ?_
      refine J.aload_n g dX11_found_31 rfl rfl ?_
      refine J.callV0 g (c_X11_places l γ _ _ _ _ _ _ _ _ _ _ _ _ _ _ _ _ _ _ _ _ _ _ _ _ _ _ _ _ _ _ _ _ _ _ _ _ _ _ _ _ hw) jy_X11_places lm_X11_190 (q0 := 0) rfl jX11.1 ⟨⟨Nat.le_of_ble_eq_true rfl, Nat.le_of_ble_eq_true rfl⟩, Nat.le_of_ble_eq_true rfl, Nat.le_of_ble_eq_true rfl⟩ (Nat.le_of_ble_eq_true rfl) rfl [0, 1] rfl rfl dX11_found_32 ?_
      intro _ _
      dsimp only [jpush]
      refine J.icmp_gtN g dX11_found_35 (tgt := 68) (by decide) (by omega) (by omega) (fun c_35 => ?_) (fun c_35 => ?_)
      · refine J.iconst (v := -1) g dX11_found_68 (by decide) ?_
        exact J.iret g hE u_25 (by rw [hr, mfnd_0 (by omega)]) trivial rfl ⟨Nat.le_of_ble_eq_true rfl, Nat.le_of_ble_eq_true rfl⟩ dX11_found_69
      · refine J.aload_n g dX11_found_38 rfl rfl ?_
        refine J.iload_n g dX11_found_39 rfl rfl ?_
        refine J.iload_n g dX11_found_40 rfl rfl ?_
        refine J.callV0 g (c_X11_firstOf l γ _ _ _ _ _ _ _ _ _ _ _ _ _ _ _ _ _ _ _ _ _ _ _ _ _ _ _ _ _ _ _ _ _ _ _ _ _ _ _ _ _ _ _ hw h_25 (by omega) (by omega)) jy_X11_firstOf lm_X11_228 (q0 := 0) rfl jX11.1 ⟨⟨Nat.le_of_ble_eq_true rfl, Nat.le_of_ble_eq_true rfl⟩, Nat.le_of_ble_eq_true rfl, Nat.le_of_ble_eq_true rfl⟩ (Nat.le_of_ble_eq_true rfl) rfl [0, 1, 2] rfl rfl dX11_found_41 ?_
        intro _ _
        dsimp only [jpush]
        have hfl : mTkN cd f n gg k < 4096 := mTkN_lt hpw
        refine J.if_eqN g dX11_found_44 (tgt := 62) (by decide) (by omega) (fun c_44 => ?_) (fun c_44 => ?_)
        · refine J.iincN g 1 dX11_found_62 rfl rfl ?_
          try dsimp only [List.set_cons_zero, List.set_cons_succ]
          refine J.goto g dX11_found_65 (tgt := 30) (by decide) ?_
          exact J.lvle (jle_s (jle_s (jle_s (jle_s jle_0)))) (ih_lp (k + 1) (by omega) (by omega) (hr.trans (mfnd_n (by omega) c_44)))
        · refine J.iload_n g dX11_found_47 rfl rfl ?_
          refine J.if_ne g dX11_found_48 (tgt := 55) (by decide) (fun c_48 => ?_) (fun c_48 => ?_)
          · refine J.aload_n g dX11_found_55 rfl rfl ?_
            refine J.iload_n g dX11_found_56 rfl rfl ?_
            refine J.iload_n g dX11_found_57 rfl rfl ?_
            refine J.callV0 g (c_X11_firstOf l γ _ _ _ _ _ _ _ _ _ _ _ _ _ _ _ _ _ _ _ _ _ _ _ _ _ _ _ _ _ _ _ _ _ _ _ _ _ _ _ _ _ _ _ hw h_25 (by omega) (by omega)) jy_X11_firstOf lm_X11_228 (q0 := 0) rfl jX11.1 ⟨⟨Nat.le_of_ble_eq_true rfl, Nat.le_of_ble_eq_true rfl⟩, Nat.le_of_ble_eq_true rfl, Nat.le_of_ble_eq_true rfl⟩ (Nat.le_of_ble_eq_true rfl) rfl [0, 1, 2] rfl rfl dX11_found_58 ?_
            intro _ _
            dsimp only [jpush]
            exact J.iret g hE u_25 (by rw [hr, mfnd_t (by omega) c_44]; first | rw [if_pos c_48] | rw [if_neg c_48]) trivial rfl ⟨Nat.le_of_ble_eq_true rfl, Nat.le_of_ble_eq_true rfl⟩ dX11_found_61
          · refine J.iload_n g dX11_found_51 rfl rfl ?_
            refine J.goto g dX11_found_52 (tgt := 61) (by decide) ?_
            exact J.iret g hE u_25 (by rw [hr, mfnd_t (by omega) c_44]; first | rw [if_pos c_48] | rw [if_neg c_48]) trivial rfl ⟨Nat.le_of_ble_eq_true rfl, Nat.le_of_ble_eq_true rfl⟩ dX11_found_61
  exact J.lvle (jle_s (jle_s (jle_s (jle_s jle_0)))) (lp _ 1 (Nat.lt_succ_self _) (by omega) rfl)
set_option maxHeartbeats 4000000 in
set_option maxRecDepth 100000 in
theorem c_X11_found_no (l : Launch) (γ : jγ) (mo mta mtd msz mto mfr mso mnu mfa mpl mro mnw mrd mkp msn mbf mlv mik msm msu mbe mfe mmy mof msf mlr mty mfm mrn mrb mln mtb : Nat) (mth mfw mse : Int32) (mwd : Int64) (cd n : Nat) (f w : Nat → Nat) (a i : Int32) (hw : mIs cd n f w) (hi : jhas a (god cd) = false ∨ mIn i (nI 0) (nI 1) = false) : jM (S := Unit) l γ yX11_found cX11_found 4 (some .int) ({ frames := 3, cells := 0, slots := 0, locals := 73 } : Room) [.ref mo, .int a, .int i] [(mo, .inr (11, [.int mth, .ref mta, .int (nI mtd), .int (nI msz), .int (nI mto), .int (nI mfr), .int (nI mso), .int (nI mnu), .int (nI mfa), .int mfw, .int (nI mpl), .int (nI mro), .long mwd, .ref mnw, .ref mrd, .ref mkp, .ref msn, .ref mbf, .ref mlv, .ref mik, .int (nI msm), .ref msu, .ref mbe, .ref mfe, .ref mmy, .ref mof, .ref msf, .ref mlr, .ref mty, .ref mfm, .ref mrn, .ref mrb, .int (nI mln), .ref mtb, .int mse])), (mnw, .inl (γ.2 0, 17, .inl (fun j => nI (w j))))] (fun w0 => some (.int (-1))) (fun w0 => [(mo, .inr (11, [.int (nI 0), .ref mta, .int (nI mtd), .int (nI msz), .int (nI mto), .int (nI mfr), .int (nI mso), .int (nI mnu), .int (nI mfa), .int mfw, .int (nI mpl), .int (nI mro), .long mwd, .ref mnw, .ref mrd, .ref mkp, .ref msn, .ref mbf, .ref mlv, .ref mik, .int (nI msm), .ref msu, .ref mbe, .ref mfe, .ref mmy, .ref mof, .ref msf, .ref mlr, .ref mty, .ref mfm, .ref mrn, .ref mrb, .int (nI mln), .ref mtb, .int mse])), (mnw, .inl (γ.2 0, 17, .inl (fun j => nI (w j))))]) (fun w0 => True) := by
  refine jM.of [some (.ref mo), some (.int a), some (.int i), none] rfl (Nat.le_of_ble_eq_true rfl) (by decide) ?_
  intro x g hE hin
  have hwg := hw.g
  have hw5 := hw.2.2.2.2.2.1
  have hwf := hw.2.2.2.2.2.2
  have hw3 := hw.2.2.1
  refine J.aload_n g dX11_found_0 rfl rfl ?_
  refine J.iconstN g 0 dX11_found_1 ?_
  refine J.put g jX11 0 (by decide) lf_X11_1 0 rfl rfl (Nat.le_of_ble_eq_true rfl) rfl rfl dX11_found_2 ?_
  try dsimp only [List.set_cons_zero, List.set_cons_succ]
  refine J.aload_n g dX11_found_5 rfl rfl ?_
  refine J.iload_n g dX11_found_6 rfl rfl ?_
  refine J.callV0 g (c_X11_isElement l γ _ _ _ _ _ _ _ _ _ _ _ _ _ _ _ _ _ _ _ _ _ _ _ _ _ _ _ _ _ _ _ _ _ _ _ _ _ _ _ _ _ hw) jy_X11_isElement lm_X11_219 (q0 := 0) rfl jX11.1 ⟨⟨Nat.le_of_ble_eq_true rfl, Nat.le_of_ble_eq_true rfl⟩, Nat.le_of_ble_eq_true rfl, Nat.le_of_ble_eq_true rfl⟩ (Nat.le_of_ble_eq_true rfl) rfl [0, 1] rfl rfl dX11_found_7 ?_
  intro _ _
  dsimp only [jpush]
  refine J.if_eqB g dX11_found_10 (tgt := 22) (by decide) (fun c_10 => ?_) (fun c_10 => ?_)
  · refine J.iconst (v := -1) g dX11_found_22 (by decide) ?_
    exact J.iret g hE () rfl trivial rfl ⟨Nat.le_of_ble_eq_true rfl, Nat.le_of_ble_eq_true rfl⟩ dX11_found_23
  · refine J.iload_n g dX11_found_13 rfl rfl ?_
    refine J.iconstN g 0 dX11_found_14 ?_
    refine J.iconstN g 1 dX11_found_15 ?_
    refine J.callS0 g (c_X11_isIn l γ _ _ _ ) jy_X11_isIn lm_X11_157 ⟨⟨Nat.le_of_ble_eq_true rfl, Nat.le_of_ble_eq_true rfl⟩, Nat.le_of_ble_eq_true rfl, Nat.le_of_ble_eq_true rfl⟩ (Nat.le_of_ble_eq_true rfl) rfl [] rfl rfl dX11_found_16 ?_
    intro _ _
    dsimp only [jpush]
    refine J.if_neB g dX11_found_19 (tgt := 24) (by decide) (fun c_19 => absurd c_19 (by rcases hi with hi | hi <;> simp_all)) (fun c_19 => ?_)
    refine J.iconst (v := -1) g dX11_found_22 (by decide) ?_
    exact J.iret g hE () rfl trivial rfl ⟨Nat.le_of_ble_eq_true rfl, Nat.le_of_ble_eq_true rfl⟩ dX11_found_23
set_option maxHeartbeats 4000000 in
set_option maxRecDepth 100000 in
theorem c_X11_ways_yes (l : Launch) (γ : jγ) (mo mta mtd msz mto mfr mso mnu mfa mpl mro mnw mrd mkp msn mbf mlv mik msm msu mbe mfe mmy mof msf mlr mty mfm mrn mrb mln mtb : Nat) (mth mfw mse : Int32) (mwd : Int64) (cd n : Nat) (f w : Nat → Nat) (su : Nat → Nat) (gg k : Nat) (hw : mIs cd n f w) (hg : gg < god cd) (hk : k ≤ n) : jM (S := Nat → Nat) l γ yX11_ways cX11_ways 5 (some .int) ({ frames := 3, cells := 0, slots := 0, locals := 73 } : Room) [.ref mo, .int (nI gg), .int (nI k)] [(mo, .inr (11, [.int mth, .ref mta, .int (nI mtd), .int (nI msz), .int (nI mto), .int (nI mfr), .int (nI mso), .int (nI mnu), .int (nI mfa), .int mfw, .int (nI mpl), .int (nI mro), .long mwd, .ref mnw, .ref mrd, .ref mkp, .ref msn, .ref mbf, .ref mlv, .ref mik, .int (nI msm), .ref msu, .ref mbe, .ref mfe, .ref mmy, .ref mof, .ref msf, .ref mlr, .ref mty, .ref mfm, .ref mrn, .ref mrb, .int (nI mln), .ref mtb, .int mse])), (mnw, .inl (γ.2 0, 17, .inl (fun j => nI (w j)))), (msu, .inl (γ.2 0, 4096, .inl (fun j => nI (su j))))] (fun u => some (.int (nI (mcnt (mTk cd f n gg k) (2 ^ n - 1))))) (fun u => [(mo, .inr (11, [.int (nI 0), .ref mta, .int (nI mtd), .int (nI msz), .int (nI mto), .int (nI mfr), .int (nI mso), .int (nI mnu), .int (nI mfa), .int mfw, .int (nI mpl), .int (nI mro), .long mwd, .ref mnw, .ref mrd, .ref mkp, .ref msn, .ref mbf, .ref mlv, .ref mik, .int (nI msm), .ref msu, .ref mbe, .ref mfe, .ref mmy, .ref mof, .ref msf, .ref mlr, .ref mty, .ref mfm, .ref mrn, .ref mrb, .int (nI mln), .ref mtb, .int mse])), (mnw, .inl (γ.2 0, 17, .inl (fun j => nI (w j)))), (msu, .inl (γ.2 0, 4096, .inl (fun j => nI (u j))))]) (fun u => True) := by
  refine jM.of [some (.ref mo), some (.int (nI gg)), some (.int (nI k)), none, none] rfl (Nat.le_of_ble_eq_true rfl) (by decide) ?_
  intro x g hE hin
  have hwg := hw.g
  have hw5 := hw.2.2.2.2.2.1
  have hwf := hw.2.2.2.2.2.2
  have hw3 := hw.2.2.1
  have hpw : 2 ^ n ≤ 2 ^ 12 := Nat.pow_le_pow_right (by omega) hwg.2.2.2.2.1
  have hpp := Nat.two_pow_pos n
  refine J.aload_n g dX11_ways_0 rfl rfl ?_
  refine J.iconstN g 0 dX11_ways_1 ?_
  refine J.put g jX11 0 (by decide) lf_X11_1 0 rfl rfl (Nat.le_of_ble_eq_true rfl) rfl rfl dX11_ways_2 ?_
  try dsimp only [List.set_cons_zero, List.set_cons_succ]
  refine J.aload_n g dX11_ways_5 rfl rfl ?_
  refine J.iload_n g dX11_ways_6 rfl rfl ?_
  refine J.callV0 g (c_X11_isElement l γ _ _ _ _ _ _ _ _ _ _ _ _ _ _ _ _ _ _ _ _ _ _ _ _ _ _ _ _ _ _ _ _ _ _ _ _ _ _ _ _ _ hw) jy_X11_isElement lm_X11_219 (q0 := 0) rfl jX11.1 ⟨⟨Nat.le_of_ble_eq_true rfl, Nat.le_of_ble_eq_true rfl⟩, Nat.le_of_ble_eq_true rfl, Nat.le_of_ble_eq_true rfl⟩ (Nat.le_of_ble_eq_true rfl) rfl [0, 1] rfl rfl dX11_ways_7 ?_
  intro _ _
  dsimp only [jpush]
  refine J.if_eqB g dX11_ways_10 (tgt := 25) (by decide) (fun c_10 => absurd c_10 (by rw [jhas_n _ (by omega), decide_eq_true hg] at c_10; cases c_10)) (fun c_10 => ?_)
  refine J.iload_n g dX11_ways_13 rfl rfl ?_
  refine J.iconstN g 0 dX11_ways_14 ?_
  refine J.aload_n g dX11_ways_15 rfl rfl ?_
  refine J.callV0 g (c_X11_places l γ _ _ _ _ _ _ _ _ _ _ _ _ _ _ _ _ _ _ _ _ _ _ _ _ _ _ _ _ _ _ _ _ _ _ _ _ _ _ _ _ hw) jy_X11_places lm_X11_190 (q0 := 0) rfl jX11.1 ⟨⟨Nat.le_of_ble_eq_true rfl, Nat.le_of_ble_eq_true rfl⟩, Nat.le_of_ble_eq_true rfl, Nat.le_of_ble_eq_true rfl⟩ (Nat.le_of_ble_eq_true rfl) rfl [0, 1] rfl rfl dX11_ways_16 ?_
  intro _ _
  dsimp only [jpush]
  refine J.callS0 g (c_X11_isIn l γ _ _ _ ) jy_X11_isIn lm_X11_157 ⟨⟨Nat.le_of_ble_eq_true rfl, Nat.le_of_ble_eq_true rfl⟩, Nat.le_of_ble_eq_true rfl, Nat.le_of_ble_eq_true rfl⟩ (Nat.le_of_ble_eq_true rfl) rfl [] rfl rfl dX11_ways_19 ?_
  intro _ _
  dsimp only [jpush]
  refine J.if_neB g dX11_ways_22 (tgt := 27) (by decide) (fun c_22 => ?_) (fun c_22 => absurd c_22 (by rw [mIn_nn (by omega) (by omega) (by omega), decide_eq_true (by omega)] at c_22; cases c_22))
  refine J.aload_n g dX11_ways_27 rfl rfl ?_
  refine J.callV g (c_X11_laysSums l γ _ _ _ _ _ _ _ _ _ _ _ _ _ _ _ _ _ _ _ _ _ _ _ _ _ _ _ _ _ _ _ _ _ _ _ _ _ _ _ _ _ hw) jy_X11_laysSums lm_X11_213 (q0 := 0) rfl jX11.1 ⟨⟨Nat.le_of_ble_eq_true rfl, Nat.le_of_ble_eq_true rfl⟩, Nat.le_of_ble_eq_true rfl, Nat.le_of_ble_eq_true rfl⟩ (Nat.le_of_ble_eq_true rfl) rfl [0, 1, 2] rfl (fun _ => rfl) rfl dX11_ways_28 ?_
  intro u_28 h_28
  dsimp only [jput, List.set_cons_zero, List.set_cons_succ, Option.toList, List.append, List.cons_append, List.nil_append, List.append_nil]
  refine J.iconstN g 0 dX11_ways_31 ?_
  refine J.istore_n g dX11_ways_32 rfl rfl rfl ?_
  try dsimp only [List.set_cons_zero, List.set_cons_succ]
  refine J.iconstN g 1 dX11_ways_33 ?_
  refine J.istore g dX11_ways_34 rfl rfl ?_
  try dsimp only [List.set_cons_zero, List.set_cons_succ]
  have lp : ∀ (d : Nat) (s : Nat), 2 ^ n - s < d → (1 ≤ s ∧ s ≤ 2 ^ n) → J γ l x [(mo, .inr (11, [.int (nI 0), .ref mta, .int (nI mtd), .int (nI msz), .int (nI mto), .int (nI mfr), .int (nI mso), .int (nI mnu), .int (nI mfa), .int mfw, .int (nI mpl), .int (nI mro), .long mwd, .ref mnw, .ref mrd, .ref mkp, .ref msn, .ref mbf, .ref mlv, .ref mik, .int (nI msm), .ref msu, .ref mbe, .ref mfe, .ref mmy, .ref mof, .ref msf, .ref mlr, .ref mty, .ref mfm, .ref mrn, .ref mrb, .int (nI mln), .ref mtb, .int mse])), (mnw, .inl (γ.2 0, 17, .inl (fun j => nI (w j)))), (msu, .inl (γ.2 0, 4096, .inl (fun j => nI (u_28 j))))] [some (.ref mo), some (.int (nI gg)), some (.int (nI k)), some (.int (nI (mcnt (mTk cd f n gg k) (s - 1)))), some (.int (nI s))] [] 0 0 36 := by
    intro d
    induction d with
    | zero => intro s hm; exact absurd hm (Nat.not_lt_zero _)
    | succ d ih_lp =>
      intro s hm hs
      refine J.iload g dX11_ways_36 rfl ?_
      refine J.aload_n g dX11_ways_38 rfl rfl ?_
      refine J.callV0 g (c_X11_all l γ _ _ _ _ _ _ _ _ _ _ _ _ _ _ _ _ _ _ _ _ _ _ _ _ _ _ _ _ _ _ _ _ _ _ _ _ _ _ _ _ hw) jy_X11_all lm_X11_204 (q0 := 0) rfl jX11.1 ⟨⟨Nat.le_of_ble_eq_true rfl, Nat.le_of_ble_eq_true rfl⟩, Nat.le_of_ble_eq_true rfl, Nat.le_of_ble_eq_true rfl⟩ (Nat.le_of_ble_eq_true rfl) rfl [0, 1] rfl rfl dX11_ways_39 ?_
      intro _ _
      dsimp only [jpush]
      refine J.icmp_gtN g dX11_ways_42 (tgt := 78) (by decide) (by omega) (by omega) (fun c_42 => ?_) (fun c_42 => ?_)
      · refine J.iload_n g dX11_ways_78 rfl rfl ?_
        exact J.iret g hE u_28 (by rw [show 2 ^ n - 1 = s - 1 by omega]) trivial rfl ⟨Nat.le_of_ble_eq_true rfl, Nat.le_of_ble_eq_true rfl⟩ dX11_ways_79
      · have hsv := h_28 s (by omega)
        have hsl : gS cd f n s < 24 := by have := gS_lt1 (cd := cd) (f := f) (s := s) hw.1 n hwf; omega
        refine J.aload_n g dX11_ways_45 rfl rfl ?_
        refine J.get g jX11 21 (by decide) lf_X11_107 0 rfl rfl dX11_ways_46 ?_
        refine J.iload g dX11_ways_49 rfl ?_
        refine J.ialdN g 2 rfl (by omega) (by decide) dX11_ways_51 ?_
        refine J.iload_n g dX11_ways_52 rfl rfl ?_
        refine J.icmp_neN g dX11_ways_53 (tgt := 72) (by decide) (by omega) (by omega) (fun c_53 => ?_) (fun c_53 => ?_)
        · have hq : mcnt (mTk cd f n gg k) (s + 1 - 1) = mcnt (mTk cd f n gg k) (s - 1) := (mcnt_f hs.1 (mTk_1 (hsv ▸ c_53))).symm
          refine J.iincN g 1 dX11_ways_72 rfl rfl ?_
          try dsimp only [List.set_cons_zero, List.set_cons_succ]
          refine J.goto g dX11_ways_75 (tgt := 36) (by decide) ?_
          have ih2 := ih_lp (s + 1) (by omega) (by omega)
          rw [hq] at ih2
          exact J.lvle (jle_s (jle_s (jle_s (jle_s (jle_s jle_0))))) ih2
        · refine J.iload_n g dX11_ways_56 rfl rfl ?_
          refine J.if_eqN g dX11_ways_57 (tgt := 69) (by decide) (by omega) (fun c_57 => ?_) (fun c_57 => ?_)
          · have hq : mcnt (mTk cd f n gg k) (s + 1 - 1) = mcnt (mTk cd f n gg k) (s - 1) + 1 := (mcnt_t hs.1 (mTk_3 (hsv ▸ c_53) c_57)).symm
            refine J.iincN g 1 dX11_ways_69 rfl rfl ?_
            try dsimp only [List.set_cons_zero, List.set_cons_succ]
            refine J.iincN g 1 dX11_ways_72 rfl rfl ?_
            try dsimp only [List.set_cons_zero, List.set_cons_succ]
            refine J.goto g dX11_ways_75 (tgt := 36) (by decide) ?_
            have ih2 := ih_lp (s + 1) (by omega) (by omega)
            rw [hq] at ih2
            exact J.lvle (jle_s (jle_s (jle_s (jle_s (jle_s jle_0))))) ih2
          · refine J.iload g dX11_ways_60 rfl ?_
            refine J.callS0 g (c_X11_bits l γ _ (by omega)) jy_X11_bits lm_X11_225 ⟨⟨Nat.le_of_ble_eq_true rfl, Nat.le_of_ble_eq_true rfl⟩, Nat.le_of_ble_eq_true rfl, Nat.le_of_ble_eq_true rfl⟩ (Nat.le_of_ble_eq_true rfl) rfl [] rfl rfl dX11_ways_62 ?_
            intro _ _
            dsimp only [jpush]
            have hjp : jpc s 12 ≤ 12 := jpc_le s 12
            refine J.iload_n g dX11_ways_65 rfl rfl ?_
            refine J.icmp_neN g dX11_ways_66 (tgt := 72) (by decide) (by omega) (by omega) (fun c_66 => ?_) (fun c_66 => ?_)
            · have hq : mcnt (mTk cd f n gg k) (s + 1 - 1) = mcnt (mTk cd f n gg k) (s - 1) := (mcnt_f hs.1 (mTk_2 c_57 c_66)).symm
              refine J.iincN g 1 dX11_ways_72 rfl rfl ?_
              try dsimp only [List.set_cons_zero, List.set_cons_succ]
              refine J.goto g dX11_ways_75 (tgt := 36) (by decide) ?_
              have ih2 := ih_lp (s + 1) (by omega) (by omega)
              rw [hq] at ih2
              exact J.lvle (jle_s (jle_s (jle_s (jle_s (jle_s jle_0))))) ih2
            · have hq : mcnt (mTk cd f n gg k) (s + 1 - 1) = mcnt (mTk cd f n gg k) (s - 1) + 1 := (mcnt_t hs.1 (mTk_4 (hsv ▸ c_53) c_66)).symm
              refine J.iincN g 1 dX11_ways_69 rfl rfl ?_
              try dsimp only [List.set_cons_zero, List.set_cons_succ]
              refine J.iincN g 1 dX11_ways_72 rfl rfl ?_
              try dsimp only [List.set_cons_zero, List.set_cons_succ]
              refine J.goto g dX11_ways_75 (tgt := 36) (by decide) ?_
              have ih2 := ih_lp (s + 1) (by omega) (by omega)
              rw [hq] at ih2
              exact J.lvle (jle_s (jle_s (jle_s (jle_s (jle_s jle_0))))) ih2
  exact J.lvle (jle_s (jle_s (jle_s (jle_s (jle_s jle_0))))) (lp _ 1 (Nat.lt_succ_self _) (by omega))
set_option maxHeartbeats 4000000 in
set_option maxRecDepth 100000 in
theorem c_X11_ways_no (l : Launch) (γ : jγ) (mo mta mtd msz mto mfr mso mnu mfa mpl mro mnw mrd mkp msn mbf mlv mik msm msu mbe mfe mmy mof msf mlr mty mfm mrn mrb mln mtb : Nat) (mth mfw mse : Int32) (mwd : Int64) (cd n : Nat) (f w : Nat → Nat) (a i : Int32) (hw : mIs cd n f w) (hi : jhas a (god cd) = false ∨ jhas i (n + 1) = false) : jM (S := Unit) l γ yX11_ways cX11_ways 5 (some .int) ({ frames := 3, cells := 0, slots := 0, locals := 73 } : Room) [.ref mo, .int a, .int i] [(mo, .inr (11, [.int mth, .ref mta, .int (nI mtd), .int (nI msz), .int (nI mto), .int (nI mfr), .int (nI mso), .int (nI mnu), .int (nI mfa), .int mfw, .int (nI mpl), .int (nI mro), .long mwd, .ref mnw, .ref mrd, .ref mkp, .ref msn, .ref mbf, .ref mlv, .ref mik, .int (nI msm), .ref msu, .ref mbe, .ref mfe, .ref mmy, .ref mof, .ref msf, .ref mlr, .ref mty, .ref mfm, .ref mrn, .ref mrb, .int (nI mln), .ref mtb, .int mse])), (mnw, .inl (γ.2 0, 17, .inl (fun j => nI (w j))))] (fun w0 => some (.int (-1))) (fun w0 => [(mo, .inr (11, [.int (nI 0), .ref mta, .int (nI mtd), .int (nI msz), .int (nI mto), .int (nI mfr), .int (nI mso), .int (nI mnu), .int (nI mfa), .int mfw, .int (nI mpl), .int (nI mro), .long mwd, .ref mnw, .ref mrd, .ref mkp, .ref msn, .ref mbf, .ref mlv, .ref mik, .int (nI msm), .ref msu, .ref mbe, .ref mfe, .ref mmy, .ref mof, .ref msf, .ref mlr, .ref mty, .ref mfm, .ref mrn, .ref mrb, .int (nI mln), .ref mtb, .int mse])), (mnw, .inl (γ.2 0, 17, .inl (fun j => nI (w j))))]) (fun w0 => True) := by
  refine jM.of [some (.ref mo), some (.int a), some (.int i), none, none] rfl (Nat.le_of_ble_eq_true rfl) (by decide) ?_
  intro x g hE hin
  have hwg := hw.g
  have hw5 := hw.2.2.2.2.2.1
  have hwf := hw.2.2.2.2.2.2
  have hw3 := hw.2.2.1
  rw [← mIn_le (v := i) (k := n) (by omega)] at hi
  refine J.aload_n g dX11_ways_0 rfl rfl ?_
  refine J.iconstN g 0 dX11_ways_1 ?_
  refine J.put g jX11 0 (by decide) lf_X11_1 0 rfl rfl (Nat.le_of_ble_eq_true rfl) rfl rfl dX11_ways_2 ?_
  try dsimp only [List.set_cons_zero, List.set_cons_succ]
  refine J.aload_n g dX11_ways_5 rfl rfl ?_
  refine J.iload_n g dX11_ways_6 rfl rfl ?_
  refine J.callV0 g (c_X11_isElement l γ _ _ _ _ _ _ _ _ _ _ _ _ _ _ _ _ _ _ _ _ _ _ _ _ _ _ _ _ _ _ _ _ _ _ _ _ _ _ _ _ _ hw) jy_X11_isElement lm_X11_219 (q0 := 0) rfl jX11.1 ⟨⟨Nat.le_of_ble_eq_true rfl, Nat.le_of_ble_eq_true rfl⟩, Nat.le_of_ble_eq_true rfl, Nat.le_of_ble_eq_true rfl⟩ (Nat.le_of_ble_eq_true rfl) rfl [0, 1] rfl rfl dX11_ways_7 ?_
  intro _ _
  dsimp only [jpush]
  refine J.if_eqB g dX11_ways_10 (tgt := 25) (by decide) (fun c_10 => ?_) (fun c_10 => ?_)
  · refine J.iconst (v := -1) g dX11_ways_25 (by decide) ?_
    exact J.iret g hE () rfl trivial rfl ⟨Nat.le_of_ble_eq_true rfl, Nat.le_of_ble_eq_true rfl⟩ dX11_ways_26
  · refine J.iload_n g dX11_ways_13 rfl rfl ?_
    refine J.iconstN g 0 dX11_ways_14 ?_
    refine J.aload_n g dX11_ways_15 rfl rfl ?_
    refine J.callV0 g (c_X11_places l γ _ _ _ _ _ _ _ _ _ _ _ _ _ _ _ _ _ _ _ _ _ _ _ _ _ _ _ _ _ _ _ _ _ _ _ _ _ _ _ _ hw) jy_X11_places lm_X11_190 (q0 := 0) rfl jX11.1 ⟨⟨Nat.le_of_ble_eq_true rfl, Nat.le_of_ble_eq_true rfl⟩, Nat.le_of_ble_eq_true rfl, Nat.le_of_ble_eq_true rfl⟩ (Nat.le_of_ble_eq_true rfl) rfl [0, 1] rfl rfl dX11_ways_16 ?_
    intro _ _
    dsimp only [jpush]
    refine J.callS0 g (c_X11_isIn l γ _ _ _ ) jy_X11_isIn lm_X11_157 ⟨⟨Nat.le_of_ble_eq_true rfl, Nat.le_of_ble_eq_true rfl⟩, Nat.le_of_ble_eq_true rfl, Nat.le_of_ble_eq_true rfl⟩ (Nat.le_of_ble_eq_true rfl) rfl [] rfl rfl dX11_ways_19 ?_
    intro _ _
    dsimp only [jpush]
    refine J.if_neB g dX11_ways_22 (tgt := 27) (by decide) (fun c_22 => absurd c_22 (by rcases hi with hi | hi <;> simp_all)) (fun c_22 => ?_)
    refine J.iconst (v := -1) g dX11_ways_25 (by decide) ?_
    exact J.iret g hE () rfl trivial rfl ⟨Nat.le_of_ble_eq_true rfl, Nat.le_of_ble_eq_true rfl⟩ dX11_ways_26
set_option maxHeartbeats 4000000 in
set_option maxRecDepth 100000 in
theorem c_X11_exactly_yes (l : Launch) (γ : jγ) (mo mta mtd msz mto mfr mso mnu mfa mpl mro mnw mrd mkp msn mbf mlv mik msm msu mbe mfe mmy mof msf mlr mty mfm mrn mrb mln mtb : Nat) (mth mfw mse : Int32) (mwd : Int64) (cd n : Nat) (f w : Nat → Nat) (su : Nat → Nat) (gg k : Nat) (hw : mIs cd n f w) (hg : gg < god cd) (hk : 1 ≤ k ∧ k ≤ n) : jM (S := Nat → Nat) l γ yX11_exactly cX11_exactly 3 (some .int) ({ frames := 3, cells := 0, slots := 0, locals := 73 } : Room) [.ref mo, .int (nI gg), .int (nI k)] [(mo, .inr (11, [.int mth, .ref mta, .int (nI mtd), .int (nI msz), .int (nI mto), .int (nI mfr), .int (nI mso), .int (nI mnu), .int (nI mfa), .int mfw, .int (nI mpl), .int (nI mro), .long mwd, .ref mnw, .ref mrd, .ref mkp, .ref msn, .ref mbf, .ref mlv, .ref mik, .int (nI msm), .ref msu, .ref mbe, .ref mfe, .ref mmy, .ref mof, .ref msf, .ref mlr, .ref mty, .ref mfm, .ref mrn, .ref mrb, .int (nI mln), .ref mtb, .int mse])), (mnw, .inl (γ.2 0, 17, .inl (fun j => nI (w j)))), (msu, .inl (γ.2 0, 4096, .inl (fun j => nI (su j))))] (fun u => some (.int (if mTkN cd f n gg k = 0 then -1 else nI (mTkN cd f n gg k)))) (fun u => [(mo, .inr (11, [.int (nI 0), .ref mta, .int (nI mtd), .int (nI msz), .int (nI mto), .int (nI mfr), .int (nI mso), .int (nI mnu), .int (nI mfa), .int mfw, .int (nI mpl), .int (nI mro), .long mwd, .ref mnw, .ref mrd, .ref mkp, .ref msn, .ref mbf, .ref mlv, .ref mik, .int (nI msm), .ref msu, .ref mbe, .ref mfe, .ref mmy, .ref mof, .ref msf, .ref mlr, .ref mty, .ref mfm, .ref mrn, .ref mrb, .int (nI mln), .ref mtb, .int mse])), (mnw, .inl (γ.2 0, 17, .inl (fun j => nI (w j)))), (msu, .inl (γ.2 0, 4096, .inl (fun j => nI (u j))))]) (fun u => True) := by
  refine jM.of [some (.ref mo), some (.int (nI gg)), some (.int (nI k))] rfl (Nat.le_of_ble_eq_true rfl) (by decide) ?_
  intro x g hE hin
  have hwg := hw.g
  have hw5 := hw.2.2.2.2.2.1
  have hwf := hw.2.2.2.2.2.2
  have hw3 := hw.2.2.1
  have hpw : 2 ^ n ≤ 2 ^ 12 := Nat.pow_le_pow_right (by omega) hwg.2.2.2.2.1
  have hpp := Nat.two_pow_pos n
  refine J.aload_n g dX11_exactly_0 rfl rfl ?_
  refine J.iconstN g 0 dX11_exactly_1 ?_
  refine J.put g jX11 0 (by decide) lf_X11_1 0 rfl rfl (Nat.le_of_ble_eq_true rfl) rfl rfl dX11_exactly_2 ?_
  try dsimp only [List.set_cons_zero, List.set_cons_succ]
  refine J.aload_n g dX11_exactly_5 rfl rfl ?_
  refine J.iload_n g dX11_exactly_6 rfl rfl ?_
  refine J.callV0 g (c_X11_isElement l γ _ _ _ _ _ _ _ _ _ _ _ _ _ _ _ _ _ _ _ _ _ _ _ _ _ _ _ _ _ _ _ _ _ _ _ _ _ _ _ _ _ hw) jy_X11_isElement lm_X11_219 (q0 := 0) rfl jX11.1 ⟨⟨Nat.le_of_ble_eq_true rfl, Nat.le_of_ble_eq_true rfl⟩, Nat.le_of_ble_eq_true rfl, Nat.le_of_ble_eq_true rfl⟩ (Nat.le_of_ble_eq_true rfl) rfl [0, 1] rfl rfl dX11_exactly_7 ?_
  intro _ _
  dsimp only [jpush]
  refine J.if_eqB g dX11_exactly_10 (tgt := 25) (by decide) (fun c_10 => absurd c_10 (by rw [jhas_n _ (by omega), decide_eq_true hg] at c_10; cases c_10)) (fun c_10 => ?_)
  refine J.iload_n g dX11_exactly_13 rfl rfl ?_
  refine J.iconstN g 1 dX11_exactly_14 ?_
  refine J.aload_n g dX11_exactly_15 rfl rfl ?_
  refine J.callV0 g (c_X11_places l γ _ _ _ _ _ _ _ _ _ _ _ _ _ _ _ _ _ _ _ _ _ _ _ _ _ _ _ _ _ _ _ _ _ _ _ _ _ _ _ _ hw) jy_X11_places lm_X11_190 (q0 := 0) rfl jX11.1 ⟨⟨Nat.le_of_ble_eq_true rfl, Nat.le_of_ble_eq_true rfl⟩, Nat.le_of_ble_eq_true rfl, Nat.le_of_ble_eq_true rfl⟩ (Nat.le_of_ble_eq_true rfl) rfl [0, 1] rfl rfl dX11_exactly_16 ?_
  intro _ _
  dsimp only [jpush]
  refine J.callS0 g (c_X11_isIn l γ _ _ _ ) jy_X11_isIn lm_X11_157 ⟨⟨Nat.le_of_ble_eq_true rfl, Nat.le_of_ble_eq_true rfl⟩, Nat.le_of_ble_eq_true rfl, Nat.le_of_ble_eq_true rfl⟩ (Nat.le_of_ble_eq_true rfl) rfl [] rfl rfl dX11_exactly_19 ?_
  intro _ _
  dsimp only [jpush]
  refine J.if_neB g dX11_exactly_22 (tgt := 27) (by decide) (fun c_22 => ?_) (fun c_22 => absurd c_22 (by rw [mIn_nn (by omega) (by omega) (by omega), decide_eq_true (by omega)] at c_22; cases c_22))
  refine J.aload_n g dX11_exactly_27 rfl rfl ?_
  refine J.callV g (c_X11_laysSums l γ _ _ _ _ _ _ _ _ _ _ _ _ _ _ _ _ _ _ _ _ _ _ _ _ _ _ _ _ _ _ _ _ _ _ _ _ _ _ _ _ _ hw) jy_X11_laysSums lm_X11_213 (q0 := 0) rfl jX11.1 ⟨⟨Nat.le_of_ble_eq_true rfl, Nat.le_of_ble_eq_true rfl⟩, Nat.le_of_ble_eq_true rfl, Nat.le_of_ble_eq_true rfl⟩ (Nat.le_of_ble_eq_true rfl) rfl [0, 1, 2] rfl (fun _ => rfl) rfl dX11_exactly_28 ?_
  intro u_28 h_28
  dsimp only [jput, List.set_cons_zero, List.set_cons_succ, Option.toList, List.append, List.cons_append, List.nil_append, List.append_nil]
  refine J.aload_n g dX11_exactly_31 rfl rfl ?_
  refine J.iload_n g dX11_exactly_32 rfl rfl ?_
  refine J.iload_n g dX11_exactly_33 rfl rfl ?_
  refine J.callV0 g (c_X11_firstOf l γ _ _ _ _ _ _ _ _ _ _ _ _ _ _ _ _ _ _ _ _ _ _ _ _ _ _ _ _ _ _ _ _ _ _ _ _ _ _ _ _ _ _ _ hw h_28 (by omega) (by omega)) jy_X11_firstOf lm_X11_228 (q0 := 0) rfl jX11.1 ⟨⟨Nat.le_of_ble_eq_true rfl, Nat.le_of_ble_eq_true rfl⟩, Nat.le_of_ble_eq_true rfl, Nat.le_of_ble_eq_true rfl⟩ (Nat.le_of_ble_eq_true rfl) rfl [0, 1, 2] rfl rfl dX11_exactly_34 ?_
  intro _ _
  dsimp only [jpush]
  have hfl : mTkN cd f n gg k < 4096 := mTkN_lt hpw
  refine J.if_neN g dX11_exactly_37 (tgt := 44) (by decide) (by omega) (fun c_37 => ?_) (fun c_37 => ?_)
  · refine J.aload_n g dX11_exactly_44 rfl rfl ?_
    refine J.iload_n g dX11_exactly_45 rfl rfl ?_
    refine J.iload_n g dX11_exactly_46 rfl rfl ?_
    refine J.callV0 g (c_X11_firstOf l γ _ _ _ _ _ _ _ _ _ _ _ _ _ _ _ _ _ _ _ _ _ _ _ _ _ _ _ _ _ _ _ _ _ _ _ _ _ _ _ _ _ _ _ hw h_28 (by omega) (by omega)) jy_X11_firstOf lm_X11_228 (q0 := 0) rfl jX11.1 ⟨⟨Nat.le_of_ble_eq_true rfl, Nat.le_of_ble_eq_true rfl⟩, Nat.le_of_ble_eq_true rfl, Nat.le_of_ble_eq_true rfl⟩ (Nat.le_of_ble_eq_true rfl) rfl [0, 1, 2] rfl rfl dX11_exactly_47 ?_
    intro _ _
    dsimp only [jpush]
    exact J.iret g hE u_28 (by first | rw [if_pos c_37] | rw [if_neg c_37]) trivial rfl ⟨Nat.le_of_ble_eq_true rfl, Nat.le_of_ble_eq_true rfl⟩ dX11_exactly_50
  · refine J.iconst (v := -1) g dX11_exactly_40 (by decide) ?_
    refine J.goto g dX11_exactly_41 (tgt := 50) (by decide) ?_
    exact J.iret g hE u_28 (by first | rw [if_pos c_37] | rw [if_neg c_37]) trivial rfl ⟨Nat.le_of_ble_eq_true rfl, Nat.le_of_ble_eq_true rfl⟩ dX11_exactly_50
set_option maxHeartbeats 4000000 in
set_option maxRecDepth 100000 in
theorem c_X11_exactly_no (l : Launch) (γ : jγ) (mo mta mtd msz mto mfr mso mnu mfa mpl mro mnw mrd mkp msn mbf mlv mik msm msu mbe mfe mmy mof msf mlr mty mfm mrn mrb mln mtb : Nat) (mth mfw mse : Int32) (mwd : Int64) (cd n : Nat) (f w : Nat → Nat) (a i : Int32) (hw : mIs cd n f w) (hi : jhas a (god cd) = false ∨ mIn i (nI 1) (nI n) = false) : jM (S := Unit) l γ yX11_exactly cX11_exactly 3 (some .int) ({ frames := 3, cells := 0, slots := 0, locals := 73 } : Room) [.ref mo, .int a, .int i] [(mo, .inr (11, [.int mth, .ref mta, .int (nI mtd), .int (nI msz), .int (nI mto), .int (nI mfr), .int (nI mso), .int (nI mnu), .int (nI mfa), .int mfw, .int (nI mpl), .int (nI mro), .long mwd, .ref mnw, .ref mrd, .ref mkp, .ref msn, .ref mbf, .ref mlv, .ref mik, .int (nI msm), .ref msu, .ref mbe, .ref mfe, .ref mmy, .ref mof, .ref msf, .ref mlr, .ref mty, .ref mfm, .ref mrn, .ref mrb, .int (nI mln), .ref mtb, .int mse])), (mnw, .inl (γ.2 0, 17, .inl (fun j => nI (w j))))] (fun w0 => some (.int (-1))) (fun w0 => [(mo, .inr (11, [.int (nI 0), .ref mta, .int (nI mtd), .int (nI msz), .int (nI mto), .int (nI mfr), .int (nI mso), .int (nI mnu), .int (nI mfa), .int mfw, .int (nI mpl), .int (nI mro), .long mwd, .ref mnw, .ref mrd, .ref mkp, .ref msn, .ref mbf, .ref mlv, .ref mik, .int (nI msm), .ref msu, .ref mbe, .ref mfe, .ref mmy, .ref mof, .ref msf, .ref mlr, .ref mty, .ref mfm, .ref mrn, .ref mrb, .int (nI mln), .ref mtb, .int mse])), (mnw, .inl (γ.2 0, 17, .inl (fun j => nI (w j))))]) (fun w0 => True) := by
  refine jM.of [some (.ref mo), some (.int a), some (.int i)] rfl (Nat.le_of_ble_eq_true rfl) (by decide) ?_
  intro x g hE hin
  have hwg := hw.g
  have hw5 := hw.2.2.2.2.2.1
  have hwf := hw.2.2.2.2.2.2
  have hw3 := hw.2.2.1
  refine J.aload_n g dX11_exactly_0 rfl rfl ?_
  refine J.iconstN g 0 dX11_exactly_1 ?_
  refine J.put g jX11 0 (by decide) lf_X11_1 0 rfl rfl (Nat.le_of_ble_eq_true rfl) rfl rfl dX11_exactly_2 ?_
  try dsimp only [List.set_cons_zero, List.set_cons_succ]
  refine J.aload_n g dX11_exactly_5 rfl rfl ?_
  refine J.iload_n g dX11_exactly_6 rfl rfl ?_
  refine J.callV0 g (c_X11_isElement l γ _ _ _ _ _ _ _ _ _ _ _ _ _ _ _ _ _ _ _ _ _ _ _ _ _ _ _ _ _ _ _ _ _ _ _ _ _ _ _ _ _ hw) jy_X11_isElement lm_X11_219 (q0 := 0) rfl jX11.1 ⟨⟨Nat.le_of_ble_eq_true rfl, Nat.le_of_ble_eq_true rfl⟩, Nat.le_of_ble_eq_true rfl, Nat.le_of_ble_eq_true rfl⟩ (Nat.le_of_ble_eq_true rfl) rfl [0, 1] rfl rfl dX11_exactly_7 ?_
  intro _ _
  dsimp only [jpush]
  refine J.if_eqB g dX11_exactly_10 (tgt := 25) (by decide) (fun c_10 => ?_) (fun c_10 => ?_)
  · refine J.iconst (v := -1) g dX11_exactly_25 (by decide) ?_
    exact J.iret g hE () rfl trivial rfl ⟨Nat.le_of_ble_eq_true rfl, Nat.le_of_ble_eq_true rfl⟩ dX11_exactly_26
  · refine J.iload_n g dX11_exactly_13 rfl rfl ?_
    refine J.iconstN g 1 dX11_exactly_14 ?_
    refine J.aload_n g dX11_exactly_15 rfl rfl ?_
    refine J.callV0 g (c_X11_places l γ _ _ _ _ _ _ _ _ _ _ _ _ _ _ _ _ _ _ _ _ _ _ _ _ _ _ _ _ _ _ _ _ _ _ _ _ _ _ _ _ hw) jy_X11_places lm_X11_190 (q0 := 0) rfl jX11.1 ⟨⟨Nat.le_of_ble_eq_true rfl, Nat.le_of_ble_eq_true rfl⟩, Nat.le_of_ble_eq_true rfl, Nat.le_of_ble_eq_true rfl⟩ (Nat.le_of_ble_eq_true rfl) rfl [0, 1] rfl rfl dX11_exactly_16 ?_
    intro _ _
    dsimp only [jpush]
    refine J.callS0 g (c_X11_isIn l γ _ _ _ ) jy_X11_isIn lm_X11_157 ⟨⟨Nat.le_of_ble_eq_true rfl, Nat.le_of_ble_eq_true rfl⟩, Nat.le_of_ble_eq_true rfl, Nat.le_of_ble_eq_true rfl⟩ (Nat.le_of_ble_eq_true rfl) rfl [] rfl rfl dX11_exactly_19 ?_
    intro _ _
    dsimp only [jpush]
    refine J.if_neB g dX11_exactly_22 (tgt := 27) (by decide) (fun c_22 => absurd c_22 (by rcases hi with hi | hi <;> simp_all)) (fun c_22 => ?_)
    refine J.iconst (v := -1) g dX11_exactly_25 (by decide) ?_
    exact J.iret g hE () rfl trivial rfl ⟨Nat.le_of_ble_eq_true rfl, Nat.le_of_ble_eq_true rfl⟩ dX11_exactly_26
set_option maxHeartbeats 4000000 in
set_option maxRecDepth 100000 in
theorem c_X11_run_yes (l : Launch) (γ : jγ) (mo mta mtd msz mto mfr mso mnu mfa mpl mro mnw mrd mkp msn mbf mlv mik msm msu mbe mfe mmy mof msf mlr mty mfm mrn mrb mln mtb : Nat) (mth mfw mse : Int32) (mwd : Int64) (cd n : Nat) (f w : Nat → Nat) (gg : Nat) (i : Int32) (hw : mIs cd n f w) (hg : gg < god cd) (hi : mIn i (nI 0) (nI 1) = true) : jM (S := Unit) l γ yX11_run cX11_run 6 (some .int) ({ frames := 3, cells := 0, slots := 0, locals := 63 } : Room) [.ref mo, .int (nI gg), .int i] [(mo, .inr (11, [.int mth, .ref mta, .int (nI mtd), .int (nI msz), .int (nI mto), .int (nI mfr), .int (nI mso), .int (nI mnu), .int (nI mfa), .int mfw, .int (nI mpl), .int (nI mro), .long mwd, .ref mnw, .ref mrd, .ref mkp, .ref msn, .ref mbf, .ref mlv, .ref mik, .int (nI msm), .ref msu, .ref mbe, .ref mfe, .ref mmy, .ref mof, .ref msf, .ref mlr, .ref mty, .ref mfm, .ref mrn, .ref mrb, .int (nI mln), .ref mtb, .int mse])), (mnw, .inl (γ.2 0, 17, .inl (fun j => nI (w j))))] (fun w0 => some (.int (jrun (god cd) (jmf cd) f n gg i n 0))) (fun w0 => [(mo, .inr (11, [.int (nI 0), .ref mta, .int (nI mtd), .int (nI msz), .int (nI mto), .int (nI mfr), .int (nI mso), .int (nI mnu), .int (nI mfa), .int mfw, .int (nI mpl), .int (nI mro), .long mwd, .ref mnw, .ref mrd, .ref mkp, .ref msn, .ref mbf, .ref mlv, .ref mik, .int (nI msm), .ref msu, .ref mbe, .ref mfe, .ref mmy, .ref mof, .ref msf, .ref mlr, .ref mty, .ref mfm, .ref mrn, .ref mrb, .int (nI mln), .ref mtb, .int mse])), (mnw, .inl (γ.2 0, 17, .inl (fun j => nI (w j))))]) (fun w0 => True) := by
  refine jM.of [some (.ref mo), some (.int (nI gg)), some (.int i), none, none, none] rfl (Nat.le_of_ble_eq_true rfl) (by decide) ?_
  intro x g hE hin
  have hwg := hw.g
  have hw5 := hw.2.2.2.2.2.1
  have hwf := hw.2.2.2.2.2.2
  have hw3 := hw.2.2.1
  refine J.aload_n g dX11_run_0 rfl rfl ?_
  refine J.iconstN g 0 dX11_run_1 ?_
  refine J.put g jX11 0 (by decide) lf_X11_1 0 rfl rfl (Nat.le_of_ble_eq_true rfl) rfl rfl dX11_run_2 ?_
  try dsimp only [List.set_cons_zero, List.set_cons_succ]
  refine J.aload_n g dX11_run_5 rfl rfl ?_
  refine J.iload_n g dX11_run_6 rfl rfl ?_
  refine J.callV0 g (c_X11_isElement l γ _ _ _ _ _ _ _ _ _ _ _ _ _ _ _ _ _ _ _ _ _ _ _ _ _ _ _ _ _ _ _ _ _ _ _ _ _ _ _ _ _ hw) jy_X11_isElement lm_X11_219 (q0 := 0) rfl jX11.1 ⟨⟨Nat.le_of_ble_eq_true rfl, Nat.le_of_ble_eq_true rfl⟩, Nat.le_of_ble_eq_true rfl, Nat.le_of_ble_eq_true rfl⟩ (Nat.le_of_ble_eq_true rfl) rfl [0, 1] rfl rfl dX11_run_7 ?_
  intro _ _
  dsimp only [jpush]
  refine J.if_eqB g dX11_run_10 (tgt := 22) (by decide) (fun c_10 => absurd c_10 (by rw [jhas_n _ (by omega), decide_eq_true hg] at c_10; cases c_10)) (fun c_10 => ?_)
  refine J.iload_n g dX11_run_13 rfl rfl ?_
  refine J.iconstN g 0 dX11_run_14 ?_
  refine J.iconstN g 1 dX11_run_15 ?_
  refine J.callS0 g (c_X11_isIn l γ _ _ _ ) jy_X11_isIn lm_X11_157 ⟨⟨Nat.le_of_ble_eq_true rfl, Nat.le_of_ble_eq_true rfl⟩, Nat.le_of_ble_eq_true rfl, Nat.le_of_ble_eq_true rfl⟩ (Nat.le_of_ble_eq_true rfl) rfl [] rfl rfl dX11_run_16 ?_
  intro _ _
  dsimp only [jpush]
  refine J.if_neB g dX11_run_19 (tgt := 24) (by decide) (fun c_19 => ?_) (fun c_19 => absurd c_19 (by rw [hi] at c_19; cases c_19))
  refine J.iconstN g 0 dX11_run_24 ?_
  refine J.istore_n g dX11_run_25 rfl rfl rfl ?_
  try dsimp only [List.set_cons_zero, List.set_cons_succ]
  have lp : ∀ (d : Nat) (b : Nat), n - b < d → (b ≤ n) → (jrun (god cd) (jmf cd) f n gg i n 0 = jrun (god cd) (jmf cd) f n gg i (n - b) b) → J γ l x [(mo, .inr (11, [.int (nI 0), .ref mta, .int (nI mtd), .int (nI msz), .int (nI mto), .int (nI mfr), .int (nI mso), .int (nI mnu), .int (nI mfa), .int mfw, .int (nI mpl), .int (nI mro), .long mwd, .ref mnw, .ref mrd, .ref mkp, .ref msn, .ref mbf, .ref mlv, .ref mik, .int (nI msm), .ref msu, .ref mbe, .ref mfe, .ref mmy, .ref mof, .ref msf, .ref mlr, .ref mty, .ref mfm, .ref mrn, .ref mrb, .int (nI mln), .ref mtb, .int mse])), (mnw, .inl (γ.2 0, 17, .inl (fun j => nI (w j))))] [some (.ref mo), some (.int (nI gg)), some (.int i), some (.int (nI b)), none, none] [] 0 0 26 := by
    intro d
    induction d with
    | zero => intro b hm; exact absurd hm (Nat.not_lt_zero _)
    | succ d ih_lp =>
      intro b hm hb hr
      refine J.iload_n g dX11_run_26 rfl rfl ?_
      refine J.aload_n g dX11_run_27 rfl rfl ?_
      refine J.callV0 g (c_X11_places l γ _ _ _ _ _ _ _ _ _ _ _ _ _ _ _ _ _ _ _ _ _ _ _ _ _ _ _ _ _ _ _ _ _ _ _ _ _ _ _ _ hw) jy_X11_places lm_X11_190 (q0 := 0) rfl jX11.1 ⟨⟨Nat.le_of_ble_eq_true rfl, Nat.le_of_ble_eq_true rfl⟩, Nat.le_of_ble_eq_true rfl, Nat.le_of_ble_eq_true rfl⟩ (Nat.le_of_ble_eq_true rfl) rfl [0, 1] rfl rfl dX11_run_28 ?_
      intro _ _
      dsimp only [jpush]
      refine J.icmp_geN g dX11_run_31 (tgt := 99) (by decide) (by omega) (by omega) (fun c_31 => ?_) (fun c_31 => ?_)
      · refine J.iconst (v := -1) g dX11_run_99 (by decide) ?_
        exact J.iret g hE () (by rw [hr, jrun_e (by omega)]) trivial rfl ⟨Nat.le_of_ble_eq_true rfl, Nat.le_of_ble_eq_true rfl⟩ dX11_run_100
      · refine J.iconstN g 0 dX11_run_34 ?_
        refine J.istore g dX11_run_35 rfl rfl ?_
        try dsimp only [List.set_cons_zero, List.set_cons_succ]
        refine J.iload_n g dX11_run_37 rfl rfl ?_
        refine J.istore g dX11_run_38 rfl rfl ?_
        try dsimp only [List.set_cons_zero, List.set_cons_succ]
        have lq : ∀ (d : Nat) (k sm : Nat), n - k < d → (b ≤ k ∧ k ≤ n) → (sm < god cd) → (jrn (god cd) (jmf cd) f gg b (n - b) b 0 = jrn (god cd) (jmf cd) f gg b (n - k) k sm) → J γ l x [(mo, .inr (11, [.int (nI 0), .ref mta, .int (nI mtd), .int (nI msz), .int (nI mto), .int (nI mfr), .int (nI mso), .int (nI mnu), .int (nI mfa), .int mfw, .int (nI mpl), .int (nI mro), .long mwd, .ref mnw, .ref mrd, .ref mkp, .ref msn, .ref mbf, .ref mlv, .ref mik, .int (nI msm), .ref msu, .ref mbe, .ref mfe, .ref mmy, .ref mof, .ref msf, .ref mlr, .ref mty, .ref mfm, .ref mrn, .ref mrb, .int (nI mln), .ref mtb, .int mse])), (mnw, .inl (γ.2 0, 17, .inl (fun j => nI (w j))))] [some (.ref mo), some (.int (nI gg)), some (.int i), some (.int (nI b)), some (.int (nI sm)), some (.int (nI k))] [] 0 0 40 := by
          intro d
          induction d with
          | zero => intro k sm hm; exact absurd hm (Nat.not_lt_zero _)
          | succ d ih_lq =>
            intro k sm hm hk hsm hj
            refine J.iload g dX11_run_40 rfl ?_
            refine J.aload_n g dX11_run_42 rfl rfl ?_
            refine J.callV0 g (c_X11_places l γ _ _ _ _ _ _ _ _ _ _ _ _ _ _ _ _ _ _ _ _ _ _ _ _ _ _ _ _ _ _ _ _ _ _ _ _ _ _ _ _ hw) jy_X11_places lm_X11_190 (q0 := 0) rfl jX11.1 ⟨⟨Nat.le_of_ble_eq_true rfl, Nat.le_of_ble_eq_true rfl⟩, Nat.le_of_ble_eq_true rfl, Nat.le_of_ble_eq_true rfl⟩ (Nat.le_of_ble_eq_true rfl) rfl [0, 1] rfl rfl dX11_run_43 ?_
            intro _ _
            dsimp only [jpush]
            refine J.icmp_geN g dX11_run_46 (tgt := 93) (by decide) (by omega) (by omega) (fun c_46 => ?_) (fun c_46 => ?_)
            · refine J.iincN g 1 dX11_run_93 rfl rfl ?_
              try dsimp only [List.set_cons_zero, List.set_cons_succ]
              refine J.goto g dX11_run_96 (tgt := 26) (by decide) ?_
              exact J.lvle (jle_s (jle_s (jle_s (jle_s (jle_n (jle_n jle_0)))))) (ih_lp (b + 1) (by omega) (by omega) (hr.trans (jrun_n (by omega) (hj.trans (jrn_0 (by omega))))))
            · refine J.aload_n g dX11_run_49 rfl rfl ?_
              refine J.iload g dX11_run_50 rfl ?_
              refine J.aload_n g dX11_run_52 rfl rfl ?_
              refine J.get g jX11 13 (by decide) lf_X11_85 0 rfl rfl dX11_run_53 ?_
              refine J.iconstN g 5 dX11_run_56 ?_
              refine J.iload g dX11_run_57 rfl ?_
              refine J.iaddN g dX11_run_59 ?_
              refine J.ialdN g 1 rfl (by omega) (by decide) dX11_run_60 ?_
              rw [hw5 k (by omega)]
              refine J.callV0 g (c_X11_together l γ _ _ _ _ _ _ _ _ _ _ _ _ _ _ _ _ _ _ _ _ _ _ _ _ _ _ _ _ _ _ _ _ _ _ _ _ _ _ _ _ _ _ hw hsm (hwf k (by omega))) jy_X11_together lm_X11_201 (q0 := 0) rfl jX11.1 ⟨⟨Nat.le_of_ble_eq_true rfl, Nat.le_of_ble_eq_true rfl⟩, Nat.le_of_ble_eq_true rfl, Nat.le_of_ble_eq_true rfl⟩ (Nat.le_of_ble_eq_true rfl) rfl [0, 1] rfl rfl dX11_run_61 ?_
              intro _ _
              dsimp only [jpush]
              have hs2 : gP cd sm (f k) < god cd := gP_lt hw.1 hsm (hwf k (by omega))
              refine J.istore g dX11_run_64 rfl rfl ?_
              try dsimp only [List.set_cons_zero, List.set_cons_succ]
              refine J.iload g dX11_run_66 rfl ?_
              refine J.iload_n g dX11_run_68 rfl rfl ?_
              refine J.icmp_neN g dX11_run_69 (tgt := 87) (by decide) (by omega) (by omega) (fun c_69 => ?_) (fun c_69 => ?_)
              · refine J.iincN g 1 dX11_run_87 rfl rfl ?_
                try dsimp only [List.set_cons_zero, List.set_cons_succ]
                refine J.goto g dX11_run_90 (tgt := 40) (by decide) ?_
                exact J.lvle (jle_s (jle_s (jle_s (jle_s (jle_s (jle_s jle_0)))))) (ih_lq (k + 1) _ (by omega) (by omega) hs2 (hj.trans (jrn_n (by omega) c_69)))
              · refine J.iload_n g dX11_run_72 rfl rfl ?_
                refine J.if_ne g dX11_run_73 (tgt := 80) (by decide) (fun c_73 => ?_) (fun c_73 => ?_)
                · refine J.iload g dX11_run_80 rfl ?_
                  refine J.iload_n g dX11_run_82 rfl rfl ?_
                  refine J.isubN g dX11_run_83 (by omega) ?_
                  refine J.iconstN g 1 dX11_run_84 ?_
                  refine J.iaddN g dX11_run_85 ?_
                  exact J.iret g hE () (by have hjn : jrn (god cd) (jmf cd) f gg b (n - b) b 0 = nI (k - b + 1) := hj.trans (jrn_e (by omega) c_69); have hne : ¬ jrn (god cd) (jmf cd) f gg b (n - b) b 0 = -1 := (by rw [hjn]; exact nI_ne_neg (by omega)); first | rw [hr, jrun_0 (by omega) hne c_73] | rw [hr, jrun_1 (by omega) hne c_73, hjn]) trivial rfl ⟨Nat.le_of_ble_eq_true rfl, Nat.le_of_ble_eq_true rfl⟩ dX11_run_86
                · refine J.iload_n g dX11_run_76 rfl rfl ?_
                  refine J.goto g dX11_run_77 (tgt := 86) (by decide) ?_
                  exact J.iret g hE () (by have hjn : jrn (god cd) (jmf cd) f gg b (n - b) b 0 = nI (k - b + 1) := hj.trans (jrn_e (by omega) c_69); have hne : ¬ jrn (god cd) (jmf cd) f gg b (n - b) b 0 = -1 := (by rw [hjn]; exact nI_ne_neg (by omega)); first | rw [hr, jrun_0 (by omega) hne c_73] | rw [hr, jrun_1 (by omega) hne c_73, hjn]) trivial rfl ⟨Nat.le_of_ble_eq_true rfl, Nat.le_of_ble_eq_true rfl⟩ dX11_run_86
        exact J.lvle (jle_s (jle_s (jle_s (jle_s (jle_s (jle_s jle_0)))))) (lq _ b 0 (Nat.lt_succ_self _) (by omega) (by omega) rfl)
  exact J.lvle (jle_s (jle_s (jle_s (jle_s (jle_n (jle_n jle_0)))))) (lp _ 0 (Nat.lt_succ_self _) (by omega) rfl)
set_option maxHeartbeats 4000000 in
set_option maxRecDepth 100000 in
theorem c_X11_run_no (l : Launch) (γ : jγ) (mo mta mtd msz mto mfr mso mnu mfa mpl mro mnw mrd mkp msn mbf mlv mik msm msu mbe mfe mmy mof msf mlr mty mfm mrn mrb mln mtb : Nat) (mth mfw mse : Int32) (mwd : Int64) (cd n : Nat) (f w : Nat → Nat) (a i : Int32) (hw : mIs cd n f w) (hi : jhas a (god cd) = false ∨ mIn i (nI 0) (nI 1) = false) : jM (S := Unit) l γ yX11_run cX11_run 6 (some .int) ({ frames := 3, cells := 0, slots := 0, locals := 63 } : Room) [.ref mo, .int a, .int i] [(mo, .inr (11, [.int mth, .ref mta, .int (nI mtd), .int (nI msz), .int (nI mto), .int (nI mfr), .int (nI mso), .int (nI mnu), .int (nI mfa), .int mfw, .int (nI mpl), .int (nI mro), .long mwd, .ref mnw, .ref mrd, .ref mkp, .ref msn, .ref mbf, .ref mlv, .ref mik, .int (nI msm), .ref msu, .ref mbe, .ref mfe, .ref mmy, .ref mof, .ref msf, .ref mlr, .ref mty, .ref mfm, .ref mrn, .ref mrb, .int (nI mln), .ref mtb, .int mse])), (mnw, .inl (γ.2 0, 17, .inl (fun j => nI (w j))))] (fun w0 => some (.int (-1))) (fun w0 => [(mo, .inr (11, [.int (nI 0), .ref mta, .int (nI mtd), .int (nI msz), .int (nI mto), .int (nI mfr), .int (nI mso), .int (nI mnu), .int (nI mfa), .int mfw, .int (nI mpl), .int (nI mro), .long mwd, .ref mnw, .ref mrd, .ref mkp, .ref msn, .ref mbf, .ref mlv, .ref mik, .int (nI msm), .ref msu, .ref mbe, .ref mfe, .ref mmy, .ref mof, .ref msf, .ref mlr, .ref mty, .ref mfm, .ref mrn, .ref mrb, .int (nI mln), .ref mtb, .int mse])), (mnw, .inl (γ.2 0, 17, .inl (fun j => nI (w j))))]) (fun w0 => True) := by
  refine jM.of [some (.ref mo), some (.int a), some (.int i), none, none, none] rfl (Nat.le_of_ble_eq_true rfl) (by decide) ?_
  intro x g hE hin
  have hwg := hw.g
  have hw5 := hw.2.2.2.2.2.1
  have hwf := hw.2.2.2.2.2.2
  have hw3 := hw.2.2.1
  refine J.aload_n g dX11_run_0 rfl rfl ?_
  refine J.iconstN g 0 dX11_run_1 ?_
  refine J.put g jX11 0 (by decide) lf_X11_1 0 rfl rfl (Nat.le_of_ble_eq_true rfl) rfl rfl dX11_run_2 ?_
  try dsimp only [List.set_cons_zero, List.set_cons_succ]
  refine J.aload_n g dX11_run_5 rfl rfl ?_
  refine J.iload_n g dX11_run_6 rfl rfl ?_
  refine J.callV0 g (c_X11_isElement l γ _ _ _ _ _ _ _ _ _ _ _ _ _ _ _ _ _ _ _ _ _ _ _ _ _ _ _ _ _ _ _ _ _ _ _ _ _ _ _ _ _ hw) jy_X11_isElement lm_X11_219 (q0 := 0) rfl jX11.1 ⟨⟨Nat.le_of_ble_eq_true rfl, Nat.le_of_ble_eq_true rfl⟩, Nat.le_of_ble_eq_true rfl, Nat.le_of_ble_eq_true rfl⟩ (Nat.le_of_ble_eq_true rfl) rfl [0, 1] rfl rfl dX11_run_7 ?_
  intro _ _
  dsimp only [jpush]
  refine J.if_eqB g dX11_run_10 (tgt := 22) (by decide) (fun c_10 => ?_) (fun c_10 => ?_)
  · refine J.iconst (v := -1) g dX11_run_22 (by decide) ?_
    exact J.iret g hE () rfl trivial rfl ⟨Nat.le_of_ble_eq_true rfl, Nat.le_of_ble_eq_true rfl⟩ dX11_run_23
  · refine J.iload_n g dX11_run_13 rfl rfl ?_
    refine J.iconstN g 0 dX11_run_14 ?_
    refine J.iconstN g 1 dX11_run_15 ?_
    refine J.callS0 g (c_X11_isIn l γ _ _ _ ) jy_X11_isIn lm_X11_157 ⟨⟨Nat.le_of_ble_eq_true rfl, Nat.le_of_ble_eq_true rfl⟩, Nat.le_of_ble_eq_true rfl, Nat.le_of_ble_eq_true rfl⟩ (Nat.le_of_ble_eq_true rfl) rfl [] rfl rfl dX11_run_16 ?_
    intro _ _
    dsimp only [jpush]
    refine J.if_neB g dX11_run_19 (tgt := 24) (by decide) (fun c_19 => absurd c_19 (by rcases hi with hi | hi <;> simp_all)) (fun c_19 => ?_)
    refine J.iconst (v := -1) g dX11_run_22 (by decide) ?_
    exact J.iret g hE () rfl trivial rfl ⟨Nat.le_of_ble_eq_true rfl, Nat.le_of_ble_eq_true rfl⟩ dX11_run_23
