set_option maxHeartbeats 4000000 in
set_option maxRecDepth 100000 in
theorem c_X11_isDigit (l : Launch) (γ : jγ) (b : Nat) (hb : b < 256) : jM (S := Unit) l γ yX11_isDigit cX11_isDigit 1 (some .boolean) ({ frames := 0, cells := 0, slots := 0, locals := 0 } : Room) [.int (nI b)] [] (fun w0 => some (.int (jB (jdg b)))) (fun w0 => []) (fun w0 => True) := by
  refine jM.of [some (.int (nI b))] rfl (Nat.le_of_ble_eq_true rfl) (by decide) ?_
  intro x g hE hin
  refine J.iload_n g dX11_isDigit_0 rfl rfl ?_
  refine J.bipush (v := nI 48) g dX11_isDigit_1 (by decide +kernel) ?_
  refine J.icmp_ltN g dX11_isDigit_3 (tgt := 16) (by decide) (by omega) (by omega) (fun c_3 => ?_) (fun c_3 => ?_)
  · refine J.iconstN g 0 dX11_isDigit_16 ?_
    exact J.zret (by first | rfl | exact j_nz _) g hE () (jB_f (by simp only [jlet, jdg, decide_eq_true_eq, decide_eq_false_iff_not]; omega)) trivial rfl ⟨Nat.le_of_ble_eq_true rfl, Nat.le_of_ble_eq_true rfl⟩ dX11_isDigit_17
  · refine J.iload_n g dX11_isDigit_6 rfl rfl ?_
    refine J.bipush (v := nI 57) g dX11_isDigit_7 (by decide +kernel) ?_
    refine J.icmp_gtN g dX11_isDigit_9 (tgt := 16) (by decide) (by omega) (by omega) (fun c_9 => ?_) (fun c_9 => ?_)
    · refine J.iconstN g 0 dX11_isDigit_16 ?_
      exact J.zret (by first | rfl | exact j_nz _) g hE () (jB_f (by simp only [jlet, jdg, decide_eq_true_eq, decide_eq_false_iff_not]; omega)) trivial rfl ⟨Nat.le_of_ble_eq_true rfl, Nat.le_of_ble_eq_true rfl⟩ dX11_isDigit_17
    · refine J.iconstN g 1 dX11_isDigit_12 ?_
      refine J.goto g dX11_isDigit_13 (tgt := 17) (by decide) ?_
      exact J.zret (by first | rfl | exact j_nz _) g hE () (jB_t (by simp only [jlet, jdg, decide_eq_true_eq, decide_eq_false_iff_not]; omega)) trivial rfl ⟨Nat.le_of_ble_eq_true rfl, Nat.le_of_ble_eq_true rfl⟩ dX11_isDigit_17
set_option maxHeartbeats 4000000 in
set_option maxRecDepth 100000 in
theorem c_X11_isLetter (l : Launch) (γ : jγ) (b : Nat) (hb : b < 256) : jM (S := Unit) l γ yX11_isLetter cX11_isLetter 1 (some .boolean) ({ frames := 0, cells := 0, slots := 0, locals := 0 } : Room) [.int (nI b)] [] (fun w0 => some (.int (jB (jlet b)))) (fun w0 => []) (fun w0 => True) := by
  refine jM.of [some (.int (nI b))] rfl (Nat.le_of_ble_eq_true rfl) (by decide) ?_
  intro x g hE hin
  refine J.iload_n g dX11_isLetter_0 rfl rfl ?_
  refine J.bipush (v := nI 97) g dX11_isLetter_1 (by decide +kernel) ?_
  refine J.icmp_ltN g dX11_isLetter_3 (tgt := 16) (by decide) (by omega) (by omega) (fun c_3 => ?_) (fun c_3 => ?_)
  · refine J.iconstN g 0 dX11_isLetter_16 ?_
    exact J.zret (by first | rfl | exact j_nz _) g hE () (jB_f (by simp only [jlet, jdg, decide_eq_true_eq, decide_eq_false_iff_not]; omega)) trivial rfl ⟨Nat.le_of_ble_eq_true rfl, Nat.le_of_ble_eq_true rfl⟩ dX11_isLetter_17
  · refine J.iload_n g dX11_isLetter_6 rfl rfl ?_
    refine J.bipush (v := nI 122) g dX11_isLetter_7 (by decide +kernel) ?_
    refine J.icmp_gtN g dX11_isLetter_9 (tgt := 16) (by decide) (by omega) (by omega) (fun c_9 => ?_) (fun c_9 => ?_)
    · refine J.iconstN g 0 dX11_isLetter_16 ?_
      exact J.zret (by first | rfl | exact j_nz _) g hE () (jB_f (by simp only [jlet, jdg, decide_eq_true_eq, decide_eq_false_iff_not]; omega)) trivial rfl ⟨Nat.le_of_ble_eq_true rfl, Nat.le_of_ble_eq_true rfl⟩ dX11_isLetter_17
    · refine J.iconstN g 1 dX11_isLetter_12 ?_
      refine J.goto g dX11_isLetter_13 (tgt := 17) (by decide) ?_
      exact J.zret (by first | rfl | exact j_nz _) g hE () (jB_t (by simp only [jlet, jdg, decide_eq_true_eq, decide_eq_false_iff_not]; omega)) trivial rfl ⟨Nat.le_of_ble_eq_true rfl, Nat.le_of_ble_eq_true rfl⟩ dX11_isLetter_17
set_option maxHeartbeats 4000000 in
set_option maxRecDepth 100000 in
theorem c_X11_tapeAt (l : Launch) (γ : jγ) (mo mta mtd msz mto mfr mso mnu mfa mpl mro mnw mrd mkp msn mbf mlv mik msm msu mbe mfe mmy mof msf mlr mty mfm mrn mrb mln mtb : Nat) (mth mfw mse : Int32) (mwd : Int64) (t : Nat → Nat) (i : Nat) (hz : msz ≤ 340) (hi : i < 2 ^ 30) : jM (S := Unit) l γ yX11_tapeAt cX11_tapeAt 2 (some .int) ({ frames := 0, cells := 0, slots := 0, locals := 0 } : Room) [.ref mo, .int (nI i)] [(mo, .inr (11, [.int mth, .ref mta, .int (nI mtd), .int (nI msz), .int (nI mto), .int (nI mfr), .int (nI mso), .int (nI mnu), .int (nI mfa), .int mfw, .int (nI mpl), .int (nI mro), .long mwd, .ref mnw, .ref mrd, .ref mkp, .ref msn, .ref mbf, .ref mlv, .ref mik, .int (nI msm), .ref msu, .ref mbe, .ref mfe, .ref mmy, .ref mof, .ref msf, .ref mlr, .ref mty, .ref mfm, .ref mrn, .ref mrb, .int (nI mln), .ref mtb, .int mse])), (mta, .inl (γ.2 0, 340, .inl (fun j => nI (t j))))] (fun w0 => some (.int (nI (tzA t msz i)))) (fun w0 => [(mo, .inr (11, [.int mth, .ref mta, .int (nI mtd), .int (nI msz), .int (nI mto), .int (nI mfr), .int (nI mso), .int (nI mnu), .int (nI mfa), .int mfw, .int (nI mpl), .int (nI mro), .long mwd, .ref mnw, .ref mrd, .ref mkp, .ref msn, .ref mbf, .ref mlv, .ref mik, .int (nI msm), .ref msu, .ref mbe, .ref mfe, .ref mmy, .ref mof, .ref msf, .ref mlr, .ref mty, .ref mfm, .ref mrn, .ref mrb, .int (nI mln), .ref mtb, .int mse])), (mta, .inl (γ.2 0, 340, .inl (fun j => nI (t j))))]) (fun w0 => True) := by
  refine jM.of [some (.ref mo), some (.int (nI i))] rfl (Nat.le_of_ble_eq_true rfl) (by decide) ?_
  intro x g hE hin
  refine J.iload_n g dX11_tapeAt_0 rfl rfl ?_
  refine J.aload_n g dX11_tapeAt_1 rfl rfl ?_
  refine J.get g jX11 3 (by decide) lf_X11_22 0 rfl rfl dX11_tapeAt_2 ?_
  refine J.icmp_geN g dX11_tapeAt_5 (tgt := 17) (by decide) (by omega) (by omega) (fun c_5 => ?_) (fun c_5 => ?_)
  · refine J.iconstN g 0 dX11_tapeAt_17 ?_
    exact J.iret g hE () (by first | rw [tzA, if_neg (by omega)] | rw [tzA, if_pos (by omega)]) trivial rfl ⟨Nat.le_of_ble_eq_true rfl, Nat.le_of_ble_eq_true rfl⟩ dX11_tapeAt_18
  · refine J.aload_n g dX11_tapeAt_8 rfl rfl ?_
    refine J.get g jX11 1 (by decide) lf_X11_11 0 rfl rfl dX11_tapeAt_9 ?_
    refine J.iload_n g dX11_tapeAt_12 rfl rfl ?_
    refine J.ialdN g 1 rfl (by omega) (by decide) dX11_tapeAt_13 ?_
    refine J.goto g dX11_tapeAt_14 (tgt := 18) (by decide) ?_
    exact J.iret g hE () (by first | rw [tzA, if_neg (by omega)] | rw [tzA, if_pos (by omega)]) trivial rfl ⟨Nat.le_of_ble_eq_true rfl, Nat.le_of_ble_eq_true rfl⟩ dX11_tapeAt_18
set_option maxHeartbeats 4000000 in
set_option maxRecDepth 100000 in
theorem c_X11_isWord (l : Launch) (γ : jγ) (mo mta mtd msz mto mfr mso mnu mfa mpl mro mnw mrd mkp msn mbf mlv mik msm msu mbe mfe mmy mof msf mlr mty mfm mrn mrb mln mtb : Nat) (mth mfw mse : Int32) (mwd : Int64) (v : Int64) (hso : mso < 10) : jM (S := Unit) l γ yX11_isWord cX11_isWord 3 (some .boolean) ({ frames := 0, cells := 0, slots := 0, locals := 0 } : Room) [.ref mo, .long v] [(mo, .inr (11, [.int mth, .ref mta, .int (nI mtd), .int (nI msz), .int (nI mto), .int (nI mfr), .int (nI mso), .int (nI mnu), .int (nI mfa), .int mfw, .int (nI mpl), .int (nI mro), .long mwd, .ref mnw, .ref mrd, .ref mkp, .ref msn, .ref mbf, .ref mlv, .ref mik, .int (nI msm), .ref msu, .ref mbe, .ref mfe, .ref mmy, .ref mof, .ref msf, .ref mlr, .ref mty, .ref mfm, .ref mrn, .ref mrb, .int (nI mln), .ref mtb, .int mse]))] (fun w0 => some (.int (jB (decide (mso = 2) && decide (mwd = v))))) (fun w0 => [(mo, .inr (11, [.int mth, .ref mta, .int (nI mtd), .int (nI msz), .int (nI mto), .int (nI mfr), .int (nI mso), .int (nI mnu), .int (nI mfa), .int mfw, .int (nI mpl), .int (nI mro), .long mwd, .ref mnw, .ref mrd, .ref mkp, .ref msn, .ref mbf, .ref mlv, .ref mik, .int (nI msm), .ref msu, .ref mbe, .ref mfe, .ref mmy, .ref mof, .ref msf, .ref mlr, .ref mty, .ref mfm, .ref mrn, .ref mrb, .int (nI mln), .ref mtb, .int mse]))]) (fun w0 => True) := by
  refine jM.of [some (.ref mo), some (.long v), none] rfl (Nat.le_of_ble_eq_true rfl) (by decide) ?_
  intro x g hE hin
  refine J.aload_n g dX11_isWord_0 rfl rfl ?_
  refine J.get g jX11 6 (by decide) lf_X11_31 0 rfl rfl dX11_isWord_1 ?_
  refine J.iconstN g 2 dX11_isWord_4 ?_
  refine J.icmp_neN g dX11_isWord_5 (tgt := 21) (by decide) (by omega) (by omega) (fun c_5 => ?_) (fun c_5 => ?_)
  · refine J.iconstN g 0 dX11_isWord_21 ?_
    exact J.zret (by first | rfl | exact j_nz _) g hE () (jB_f (by first | (rw [decide_eq_false c_5]; rfl) | (rw [decide_eq_false (fun z => c_14 (lg_cmp0.mpr z)), Bool.and_false]) | (rw [decide_eq_true (by omega), decide_eq_true (lg_cmp0.mp c_14)]; rfl))) trivial rfl ⟨Nat.le_of_ble_eq_true rfl, Nat.le_of_ble_eq_true rfl⟩ dX11_isWord_22
  · refine J.aload_n g dX11_isWord_8 rfl rfl ?_
    refine J.get g jX11 12 (by decide) lf_X11_41 0 rfl rfl dX11_isWord_9 ?_
    refine J.lload_n g dX11_isWord_12 rfl rfl ?_
    refine J.lcmp g dX11_isWord_13 ?_
    refine J.if_ne g dX11_isWord_14 (tgt := 21) (by decide) (fun c_14 => ?_) (fun c_14 => ?_)
    · refine J.iconstN g 0 dX11_isWord_21 ?_
      exact J.zret (by first | rfl | exact j_nz _) g hE () (jB_f (by first | (rw [decide_eq_false c_5]; rfl) | (rw [decide_eq_false (fun z => c_14 (lg_cmp0.mpr z)), Bool.and_false]) | (rw [decide_eq_true (by omega), decide_eq_true (lg_cmp0.mp c_14)]; rfl))) trivial rfl ⟨Nat.le_of_ble_eq_true rfl, Nat.le_of_ble_eq_true rfl⟩ dX11_isWord_22
    · refine J.iconstN g 1 dX11_isWord_17 ?_
      refine J.goto g dX11_isWord_18 (tgt := 22) (by decide) ?_
      exact J.zret (by first | rfl | exact j_nz _) g hE () (jB_t (by first | (rw [decide_eq_false c_5]; rfl) | (rw [decide_eq_false (fun z => c_14 (lg_cmp0.mpr z)), Bool.and_false]) | (rw [decide_eq_true (by omega), decide_eq_true (lg_cmp0.mp c_14)]; rfl))) trivial rfl ⟨Nat.le_of_ble_eq_true rfl, Nat.le_of_ble_eq_true rfl⟩ dX11_isWord_22
set_option maxHeartbeats 4000000 in
set_option maxRecDepth 100000 in
theorem c_X11_spelt (l : Launch) (γ : jγ) (a b c : Nat) (q1 q2 : Int32)  : jM (S := Unit) l γ yX11_spelt cX11_spelt 7 (some .long) ({ frames := 0, cells := 0, slots := 0, locals := 0 } : Room) [.int (nI a), .int (nI b), .int (nI c), .int q1, .int q2] [] (fun w0 => some (.long (mspl a b c q1 q2))) (fun w0 => []) (fun w0 => True) := by
  refine jM.of [some (.int (nI a)), some (.int (nI b)), some (.int (nI c)), some (.int q1), some (.int q2), none, none] rfl (Nat.le_of_ble_eq_true rfl) (by decide) ?_
  intro x g hE hin
  refine J.ldc2 g lc_X11_52 dX11_spelt_0 ?_
  refine J.ldc2 g lc_X11_52 dX11_spelt_3 ?_
  refine J.iload_n g dX11_spelt_6 rfl rfl ?_
  refine J.i2l g dX11_spelt_7 rfl ?_
  refine J.ldc2 g lc_X11_54 dX11_spelt_8 ?_
  refine J.lsub g dX11_spelt_11 ?_
  refine J.lmul g dX11_spelt_12 ?_
  refine J.iload_n g dX11_spelt_13 rfl rfl ?_
  refine J.i2l g dX11_spelt_14 rfl ?_
  refine J.ladd g dX11_spelt_15 ?_
  refine J.ldc2 g lc_X11_54 dX11_spelt_16 ?_
  refine J.lsub g dX11_spelt_19 ?_
  refine J.lmul g dX11_spelt_20 ?_
  refine J.iload_n g dX11_spelt_21 rfl rfl ?_
  refine J.i2l g dX11_spelt_22 rfl ?_
  refine J.ladd g dX11_spelt_23 ?_
  refine J.ldc2 g lc_X11_54 dX11_spelt_24 ?_
  refine J.lsub g dX11_spelt_27 ?_
  refine J.lstore g dX11_spelt_28 (fun j u h1 h2 => by obtain rfl : j = 4 := (by omega); simp at h1; subst h1; rfl) rfl ?_
  try dsimp only [List.set_cons_zero, List.set_cons_succ]
  refine J.iload_n g dX11_spelt_30 rfl rfl ?_
  refine J.if_le g dX11_spelt_31 (tgt := 49) (by decide) (fun c_31 => ?_) (fun c_31 => ?_)
  · refine J.iload g dX11_spelt_49 rfl ?_
    refine J.if_le g dX11_spelt_51 (tgt := 71) (by decide) (fun c_51 => ?_) (fun c_51 => ?_)
    · refine J.lload g dX11_spelt_71 rfl ?_
      exact J.lret g hE () (by unfold mspl; first | rw [if_pos (fun z => absurd z (Int32.not_lt.mpr c_51)), if_pos (fun z => absurd z (Int32.not_lt.mpr c_31))] | rw [if_pos (fun z => absurd z (Int32.not_lt.mpr c_51)), if_neg (fun z => z (Int32.not_le.mp c_31))] | rw [if_neg (fun z => z (Int32.not_le.mp c_51)), if_pos (fun z => absurd z (Int32.not_lt.mpr c_31))] | rw [if_neg (fun z => z (Int32.not_le.mp c_51)), if_neg (fun z => z (Int32.not_le.mp c_31))]) trivial rfl ⟨Nat.le_of_ble_eq_true rfl, Nat.le_of_ble_eq_true rfl⟩ dX11_spelt_73
    · refine J.ldc2 g lc_X11_52 dX11_spelt_54 ?_
      refine J.lload g dX11_spelt_57 rfl ?_
      refine J.lmul g dX11_spelt_59 ?_
      refine J.iload g dX11_spelt_60 rfl ?_
      refine J.i2l g dX11_spelt_62 rfl ?_
      refine J.ladd g dX11_spelt_63 ?_
      refine J.ldc2 g lc_X11_54 dX11_spelt_64 ?_
      refine J.lsub g dX11_spelt_67 ?_
      refine J.goto g dX11_spelt_68 (tgt := 73) (by decide) ?_
      exact J.lret g hE () (by unfold mspl; first | rw [if_pos (fun z => absurd z (Int32.not_lt.mpr c_51)), if_pos (fun z => absurd z (Int32.not_lt.mpr c_31))] | rw [if_pos (fun z => absurd z (Int32.not_lt.mpr c_51)), if_neg (fun z => z (Int32.not_le.mp c_31))] | rw [if_neg (fun z => z (Int32.not_le.mp c_51)), if_pos (fun z => absurd z (Int32.not_lt.mpr c_31))] | rw [if_neg (fun z => z (Int32.not_le.mp c_51)), if_neg (fun z => z (Int32.not_le.mp c_31))]) trivial rfl ⟨Nat.le_of_ble_eq_true rfl, Nat.le_of_ble_eq_true rfl⟩ dX11_spelt_73
  · refine J.ldc2 g lc_X11_52 dX11_spelt_34 ?_
    refine J.lload g dX11_spelt_37 rfl ?_
    refine J.lmul g dX11_spelt_39 ?_
    refine J.iload_n g dX11_spelt_40 rfl rfl ?_
    refine J.i2l g dX11_spelt_41 rfl ?_
    refine J.ladd g dX11_spelt_42 ?_
    refine J.ldc2 g lc_X11_54 dX11_spelt_43 ?_
    refine J.lsub g dX11_spelt_46 ?_
    refine J.lstore g dX11_spelt_47 (fun j u h1 h2 => by obtain rfl : j = 4 := (by omega); simp at h1; subst h1; rfl) rfl ?_
    try dsimp only [List.set_cons_zero, List.set_cons_succ]
    refine J.iload g dX11_spelt_49 rfl ?_
    refine J.if_le g dX11_spelt_51 (tgt := 71) (by decide) (fun c_51 => ?_) (fun c_51 => ?_)
    · refine J.lload g dX11_spelt_71 rfl ?_
      exact J.lret g hE () (by unfold mspl; first | rw [if_pos (fun z => absurd z (Int32.not_lt.mpr c_51)), if_pos (fun z => absurd z (Int32.not_lt.mpr c_31))] | rw [if_pos (fun z => absurd z (Int32.not_lt.mpr c_51)), if_neg (fun z => z (Int32.not_le.mp c_31))] | rw [if_neg (fun z => z (Int32.not_le.mp c_51)), if_pos (fun z => absurd z (Int32.not_lt.mpr c_31))] | rw [if_neg (fun z => z (Int32.not_le.mp c_51)), if_neg (fun z => z (Int32.not_le.mp c_31))]) trivial rfl ⟨Nat.le_of_ble_eq_true rfl, Nat.le_of_ble_eq_true rfl⟩ dX11_spelt_73
    · refine J.ldc2 g lc_X11_52 dX11_spelt_54 ?_
      refine J.lload g dX11_spelt_57 rfl ?_
      refine J.lmul g dX11_spelt_59 ?_
      refine J.iload g dX11_spelt_60 rfl ?_
      refine J.i2l g dX11_spelt_62 rfl ?_
      refine J.ladd g dX11_spelt_63 ?_
      refine J.ldc2 g lc_X11_54 dX11_spelt_64 ?_
      refine J.lsub g dX11_spelt_67 ?_
      refine J.goto g dX11_spelt_68 (tgt := 73) (by decide) ?_
      exact J.lret g hE () (by unfold mspl; first | rw [if_pos (fun z => absurd z (Int32.not_lt.mpr c_51)), if_pos (fun z => absurd z (Int32.not_lt.mpr c_31))] | rw [if_pos (fun z => absurd z (Int32.not_lt.mpr c_51)), if_neg (fun z => z (Int32.not_le.mp c_31))] | rw [if_neg (fun z => z (Int32.not_le.mp c_51)), if_pos (fun z => absurd z (Int32.not_lt.mpr c_31))] | rw [if_neg (fun z => z (Int32.not_le.mp c_51)), if_neg (fun z => z (Int32.not_le.mp c_31))]) trivial rfl ⟨Nat.le_of_ble_eq_true rfl, Nat.le_of_ble_eq_true rfl⟩ dX11_spelt_73
set_option maxHeartbeats 4000000 in
set_option maxRecDepth 100000 in
theorem c_X11_isGroup (l : Launch) (γ : jγ) (mo mta mtd msz mto mfr mso mnu mfa mpl mro mnw mrd mkp msn mbf mlv mik msm msu mbe mfe mmy mof msf mlr mty mfm mrn mrb mln mtb : Nat) (mth mfw mse : Int32) (mwd : Int64) (hso : mso < 10) : jM (S := Unit) l γ yX11_isGroup cX11_isGroup 1 (some .boolean) ({ frames := 1, cells := 0, slots := 0, locals := 26 } : Room) [.ref mo] [(mo, .inr (11, [.int mth, .ref mta, .int (nI mtd), .int (nI msz), .int (nI mto), .int (nI mfr), .int (nI mso), .int (nI mnu), .int (nI mfa), .int mfw, .int (nI mpl), .int (nI mro), .long mwd, .ref mnw, .ref mrd, .ref mkp, .ref msn, .ref mbf, .ref mlv, .ref mik, .int (nI msm), .ref msu, .ref mbe, .ref mfe, .ref mmy, .ref mof, .ref msf, .ref mlr, .ref mty, .ref mfm, .ref mrn, .ref mrb, .int (nI mln), .ref mtb, .int mse]))] (fun w0 => some (.int (jB (decide (mso = 2) && decide (mwd = mspl 103 114 111 (nI 117) (nI 112)))))) (fun w0 => [(mo, .inr (11, [.int mth, .ref mta, .int (nI mtd), .int (nI msz), .int (nI mto), .int (nI mfr), .int (nI mso), .int (nI mnu), .int (nI mfa), .int mfw, .int (nI mpl), .int (nI mro), .long mwd, .ref mnw, .ref mrd, .ref mkp, .ref msn, .ref mbf, .ref mlv, .ref mik, .int (nI msm), .ref msu, .ref mbe, .ref mfe, .ref mmy, .ref mof, .ref msf, .ref mlr, .ref mty, .ref mfm, .ref mrn, .ref mrb, .int (nI mln), .ref mtb, .int mse]))]) (fun w0 => True) := by
  refine jM.of [some (.ref mo)] rfl (Nat.le_of_ble_eq_true rfl) (by decide) ?_
  intro x g hE hin
  refine J.aload_n g dX11_isGroup_0 rfl rfl ?_
  refine J.bipush (v := nI 103) g dX11_isGroup_1 (by decide +kernel) ?_
  refine J.bipush (v := nI 114) g dX11_isGroup_3 (by decide +kernel) ?_
  refine J.bipush (v := nI 111) g dX11_isGroup_5 (by decide +kernel) ?_
  refine J.bipush (v := nI 117) g dX11_isGroup_7 (by decide +kernel) ?_
  refine J.bipush (v := nI 112) g dX11_isGroup_9 (by decide +kernel) ?_
  refine J.callS0 g (c_X11_spelt l γ _ _ _ _ _ ) jy_X11_spelt lm_X11_56 ⟨⟨Nat.le_of_ble_eq_true rfl, Nat.le_of_ble_eq_true rfl⟩, Nat.le_of_ble_eq_true rfl, Nat.le_of_ble_eq_true rfl⟩ (Nat.le_of_ble_eq_true rfl) rfl [] rfl rfl dX11_isGroup_11 ?_
  intro _ _
  dsimp only [jpush]
  refine J.callV0 g (c_X11_isWord l γ _ _ _ _ _ _ _ _ _ _ _ _ _ _ _ _ _ _ _ _ _ _ _ _ _ _ _ _ _ _ _ _ _ _ _ _ _ hso) jy_X11_isWord lm_X11_60 (q0 := 0) rfl jX11.1 ⟨⟨Nat.le_of_ble_eq_true rfl, Nat.le_of_ble_eq_true rfl⟩, Nat.le_of_ble_eq_true rfl, Nat.le_of_ble_eq_true rfl⟩ (Nat.le_of_ble_eq_true rfl) rfl [0] rfl rfl dX11_isGroup_14 ?_
  intro _ _
  dsimp only [jpush]
  exact J.zret (by first | rfl | exact j_nz _) g hE () rfl trivial rfl ⟨Nat.le_of_ble_eq_true rfl, Nat.le_of_ble_eq_true rfl⟩ dX11_isGroup_17
set_option maxHeartbeats 4000000 in
set_option maxRecDepth 100000 in
theorem c_X11_isPut (l : Launch) (γ : jγ) (mo mta mtd msz mto mfr mso mnu mfa mpl mro mnw mrd mkp msn mbf mlv mik msm msu mbe mfe mmy mof msf mlr mty mfm mrn mrb mln mtb : Nat) (mth mfw mse : Int32) (mwd : Int64) (hso : mso < 10) : jM (S := Unit) l γ yX11_isPut cX11_isPut 1 (some .boolean) ({ frames := 1, cells := 0, slots := 0, locals := 26 } : Room) [.ref mo] [(mo, .inr (11, [.int mth, .ref mta, .int (nI mtd), .int (nI msz), .int (nI mto), .int (nI mfr), .int (nI mso), .int (nI mnu), .int (nI mfa), .int mfw, .int (nI mpl), .int (nI mro), .long mwd, .ref mnw, .ref mrd, .ref mkp, .ref msn, .ref mbf, .ref mlv, .ref mik, .int (nI msm), .ref msu, .ref mbe, .ref mfe, .ref mmy, .ref mof, .ref msf, .ref mlr, .ref mty, .ref mfm, .ref mrn, .ref mrb, .int (nI mln), .ref mtb, .int mse]))] (fun w0 => some (.int (jB (decide (mso = 2) && decide (mwd = mspl 112 117 116 (nI 0) (nI 0)))))) (fun w0 => [(mo, .inr (11, [.int mth, .ref mta, .int (nI mtd), .int (nI msz), .int (nI mto), .int (nI mfr), .int (nI mso), .int (nI mnu), .int (nI mfa), .int mfw, .int (nI mpl), .int (nI mro), .long mwd, .ref mnw, .ref mrd, .ref mkp, .ref msn, .ref mbf, .ref mlv, .ref mik, .int (nI msm), .ref msu, .ref mbe, .ref mfe, .ref mmy, .ref mof, .ref msf, .ref mlr, .ref mty, .ref mfm, .ref mrn, .ref mrb, .int (nI mln), .ref mtb, .int mse]))]) (fun w0 => True) := by
  refine jM.of [some (.ref mo)] rfl (Nat.le_of_ble_eq_true rfl) (by decide) ?_
  intro x g hE hin
  refine J.aload_n g dX11_isPut_0 rfl rfl ?_
  refine J.bipush (v := nI 112) g dX11_isPut_1 (by decide +kernel) ?_
  refine J.bipush (v := nI 117) g dX11_isPut_3 (by decide +kernel) ?_
  refine J.bipush (v := nI 116) g dX11_isPut_5 (by decide +kernel) ?_
  refine J.iconstN g 0 dX11_isPut_7 ?_
  refine J.iconstN g 0 dX11_isPut_8 ?_
  refine J.callS0 g (c_X11_spelt l γ _ _ _ _ _ ) jy_X11_spelt lm_X11_56 ⟨⟨Nat.le_of_ble_eq_true rfl, Nat.le_of_ble_eq_true rfl⟩, Nat.le_of_ble_eq_true rfl, Nat.le_of_ble_eq_true rfl⟩ (Nat.le_of_ble_eq_true rfl) rfl [] rfl rfl dX11_isPut_9 ?_
  intro _ _
  dsimp only [jpush]
  refine J.callV0 g (c_X11_isWord l γ _ _ _ _ _ _ _ _ _ _ _ _ _ _ _ _ _ _ _ _ _ _ _ _ _ _ _ _ _ _ _ _ _ _ _ _ _ (by omega)) jy_X11_isWord lm_X11_60 (q0 := 0) rfl jX11.1 ⟨⟨Nat.le_of_ble_eq_true rfl, Nat.le_of_ble_eq_true rfl⟩, Nat.le_of_ble_eq_true rfl, Nat.le_of_ble_eq_true rfl⟩ (Nat.le_of_ble_eq_true rfl) rfl [0] rfl rfl dX11_isPut_12 ?_
  intro _ _
  dsimp only [jpush]
  exact J.zret (by first | rfl | exact j_nz _) g hE () rfl trivial rfl ⟨Nat.le_of_ble_eq_true rfl, Nat.le_of_ble_eq_true rfl⟩ dX11_isPut_15
set_option maxHeartbeats 4000000 in
set_option maxRecDepth 100000 in
theorem c_X11_isTimes (l : Launch) (γ : jγ) (mo mta mtd msz mto mfr mso mnu mfa mpl mro mnw mrd mkp msn mbf mlv mik msm msu mbe mfe mmy mof msf mlr mty mfm mrn mrb mln mtb : Nat) (mth mfw mse : Int32) (mwd : Int64) (hso : mso < 10) : jM (S := Unit) l γ yX11_isTimes cX11_isTimes 1 (some .boolean) ({ frames := 1, cells := 0, slots := 0, locals := 26 } : Room) [.ref mo] [(mo, .inr (11, [.int mth, .ref mta, .int (nI mtd), .int (nI msz), .int (nI mto), .int (nI mfr), .int (nI mso), .int (nI mnu), .int (nI mfa), .int mfw, .int (nI mpl), .int (nI mro), .long mwd, .ref mnw, .ref mrd, .ref mkp, .ref msn, .ref mbf, .ref mlv, .ref mik, .int (nI msm), .ref msu, .ref mbe, .ref mfe, .ref mmy, .ref mof, .ref msf, .ref mlr, .ref mty, .ref mfm, .ref mrn, .ref mrb, .int (nI mln), .ref mtb, .int mse]))] (fun w0 => some (.int (jB (decide (mso = 2) && decide (mwd = mspl 116 105 109 (nI 101) (nI 115)))))) (fun w0 => [(mo, .inr (11, [.int mth, .ref mta, .int (nI mtd), .int (nI msz), .int (nI mto), .int (nI mfr), .int (nI mso), .int (nI mnu), .int (nI mfa), .int mfw, .int (nI mpl), .int (nI mro), .long mwd, .ref mnw, .ref mrd, .ref mkp, .ref msn, .ref mbf, .ref mlv, .ref mik, .int (nI msm), .ref msu, .ref mbe, .ref mfe, .ref mmy, .ref mof, .ref msf, .ref mlr, .ref mty, .ref mfm, .ref mrn, .ref mrb, .int (nI mln), .ref mtb, .int mse]))]) (fun w0 => True) := by
  refine jM.of [some (.ref mo)] rfl (Nat.le_of_ble_eq_true rfl) (by decide) ?_
  intro x g hE hin
  refine J.aload_n g dX11_isTimes_0 rfl rfl ?_
  refine J.bipush (v := nI 116) g dX11_isTimes_1 (by decide +kernel) ?_
  refine J.bipush (v := nI 105) g dX11_isTimes_3 (by decide +kernel) ?_
  refine J.bipush (v := nI 109) g dX11_isTimes_5 (by decide +kernel) ?_
  refine J.bipush (v := nI 101) g dX11_isTimes_7 (by decide +kernel) ?_
  refine J.bipush (v := nI 115) g dX11_isTimes_9 (by decide +kernel) ?_
  refine J.callS0 g (c_X11_spelt l γ _ _ _ _ _ ) jy_X11_spelt lm_X11_56 ⟨⟨Nat.le_of_ble_eq_true rfl, Nat.le_of_ble_eq_true rfl⟩, Nat.le_of_ble_eq_true rfl, Nat.le_of_ble_eq_true rfl⟩ (Nat.le_of_ble_eq_true rfl) rfl [] rfl rfl dX11_isTimes_11 ?_
  intro _ _
  dsimp only [jpush]
  refine J.callV0 g (c_X11_isWord l γ _ _ _ _ _ _ _ _ _ _ _ _ _ _ _ _ _ _ _ _ _ _ _ _ _ _ _ _ _ _ _ _ _ _ _ _ _ hso) jy_X11_isWord lm_X11_60 (q0 := 0) rfl jX11.1 ⟨⟨Nat.le_of_ble_eq_true rfl, Nat.le_of_ble_eq_true rfl⟩, Nat.le_of_ble_eq_true rfl, Nat.le_of_ble_eq_true rfl⟩ (Nat.le_of_ble_eq_true rfl) rfl [0] rfl rfl dX11_isTimes_14 ?_
  intro _ _
  dsimp only [jpush]
  exact J.zret (by first | rfl | exact j_nz _) g hE () rfl trivial rfl ⟨Nat.le_of_ble_eq_true rfl, Nat.le_of_ble_eq_true rfl⟩ dX11_isTimes_17
set_option maxHeartbeats 4000000 in
set_option maxRecDepth 100000 in
theorem c_X11_badAt (l : Launch) (γ : jγ) (mo mta mtd msz mto mfr mso mnu mfa mpl mro mnw mrd mkp msn mbf mlv mik msm msu mbe mfe mmy mof msf mlr mty mfm mrn mrb mln mtb : Nat) (mth mfw mse : Int32) (mwd : Int64) (k pl9 : Nat)  : jM (S := Unit) l γ yX11_badAt cX11_badAt 3 (some .boolean) ({ frames := 0, cells := 0, slots := 0, locals := 0 } : Room) [.ref mo, .int (nI k), .int (nI pl9)] [(mo, .inr (11, [.int mth, .ref mta, .int (nI mtd), .int (nI msz), .int (nI mto), .int (nI mfr), .int (nI mso), .int (nI mnu), .int (nI mfa), .int mfw, .int (nI mpl), .int (nI mro), .long mwd, .ref mnw, .ref mrd, .ref mkp, .ref msn, .ref mbf, .ref mlv, .ref mik, .int (nI msm), .ref msu, .ref mbe, .ref mfe, .ref mmy, .ref mof, .ref msf, .ref mlr, .ref mty, .ref mfm, .ref mrn, .ref mrb, .int (nI mln), .ref mtb, .int mse]))] (fun w0 => some (.int (jB false))) (fun w0 => [(mo, .inr (11, [.int mth, .ref mta, .int (nI mtd), .int (nI msz), .int (nI mto), .int (nI mfr), .int (nI mso), .int (nI mnu), .int (nI k), .int (nI mro), .int (nI pl9), .int (nI mro), .long mwd, .ref mnw, .ref mrd, .ref mkp, .ref msn, .ref mbf, .ref mlv, .ref mik, .int (nI msm), .ref msu, .ref mbe, .ref mfe, .ref mmy, .ref mof, .ref msf, .ref mlr, .ref mty, .ref mfm, .ref mrn, .ref mrb, .int (nI mln), .ref mtb, .int mse]))]) (fun w0 => True) := by
  refine jM.of [some (.ref mo), some (.int (nI k)), some (.int (nI pl9))] rfl (Nat.le_of_ble_eq_true rfl) (by decide) ?_
  intro x g hE hin
  refine J.aload_n g dX11_badAt_0 rfl rfl ?_
  refine J.iload_n g dX11_badAt_1 rfl rfl ?_
  refine J.put g jX11 8 (by decide) lf_X11_64 0 rfl rfl (Nat.le_of_ble_eq_true rfl) rfl rfl dX11_badAt_2 ?_
  try dsimp only [List.set_cons_zero, List.set_cons_succ]
  refine J.aload_n g dX11_badAt_5 rfl rfl ?_
  refine J.iload_n g dX11_badAt_6 rfl rfl ?_
  refine J.put g jX11 10 (by decide) lf_X11_67 0 rfl rfl (Nat.le_of_ble_eq_true rfl) rfl rfl dX11_badAt_7 ?_
  try dsimp only [List.set_cons_zero, List.set_cons_succ]
  refine J.aload_n g dX11_badAt_10 rfl rfl ?_
  refine J.aload_n g dX11_badAt_11 rfl rfl ?_
  refine J.get g jX11 11 (by decide) lf_X11_70 0 rfl rfl dX11_badAt_12 ?_
  refine J.put g jX11 9 (by decide) lf_X11_73 0 rfl rfl (Nat.le_of_ble_eq_true rfl) rfl rfl dX11_badAt_15 ?_
  try dsimp only [List.set_cons_zero, List.set_cons_succ]
  refine J.iconstN g 0 dX11_badAt_18 ?_
  exact J.zret (by first | rfl | exact j_nz _) g hE () (jB_f (by rfl)) trivial rfl ⟨Nat.le_of_ble_eq_true rfl, Nat.le_of_ble_eq_true rfl⟩ dX11_badAt_19
set_option maxHeartbeats 4000000 in
set_option maxRecDepth 100000 in
theorem c_X11_bad (l : Launch) (γ : jγ) (mo mta mtd msz mto mfr mso mnu mfa mpl mro mnw mrd mkp msn mbf mlv mik msm msu mbe mfe mmy mof msf mlr mty mfm mrn mrb mln mtb : Nat) (mth mfw mse : Int32) (mwd : Int64) (k : Nat) (hso : mso < 10) : jM (S := Unit) l γ yX11_bad cX11_bad 2 (some .boolean) ({ frames := 1, cells := 0, slots := 0, locals := 22 } : Room) [.ref mo, .int (nI k)] [(mo, .inr (11, [.int mth, .ref mta, .int (nI mtd), .int (nI msz), .int (nI mto), .int (nI mfr), .int (nI mso), .int (nI mnu), .int (nI mfa), .int mfw, .int (nI mpl), .int (nI mro), .long mwd, .ref mnw, .ref mrd, .ref mkp, .ref msn, .ref mbf, .ref mlv, .ref mik, .int (nI msm), .ref msu, .ref mbe, .ref mfe, .ref mmy, .ref mof, .ref msf, .ref mlr, .ref mty, .ref mfm, .ref mrn, .ref mrb, .int (nI mln), .ref mtb, .int mse]))] (fun w0 => some (.int (jB false))) (fun w0 => [(mo, .inr (11, [.int mth, .ref mta, .int (nI mtd), .int (nI msz), .int (nI mto), .int (nI mfr), .int (nI mso), .int (nI mnu), .int (nI (if mso = 1 then 1 else k)), .int (nI mro), .int (nI mfr), .int (nI mro), .long mwd, .ref mnw, .ref mrd, .ref mkp, .ref msn, .ref mbf, .ref mlv, .ref mik, .int (nI msm), .ref msu, .ref mbe, .ref mfe, .ref mmy, .ref mof, .ref msf, .ref mlr, .ref mty, .ref mfm, .ref mrn, .ref mrb, .int (nI mln), .ref mtb, .int mse]))]) (fun w0 => True) := by
  refine jM.of [some (.ref mo), some (.int (nI k))] rfl (Nat.le_of_ble_eq_true rfl) (by decide) ?_
  intro x g hE hin
  refine J.aload_n g dX11_bad_0 rfl rfl ?_
  refine J.aload_n g dX11_bad_1 rfl rfl ?_
  refine J.get g jX11 6 (by decide) lf_X11_31 0 rfl rfl dX11_bad_2 ?_
  refine J.iconstN g 1 dX11_bad_5 ?_
  refine J.icmp_neN g dX11_bad_6 (tgt := 13) (by decide) (by omega) (by omega) (fun c_6 => ?_) (fun c_6 => ?_)
  · refine J.iload_n g dX11_bad_13 rfl rfl ?_
    refine J.aload_n g dX11_bad_14 rfl rfl ?_
    refine J.get g jX11 5 (by decide) lf_X11_28 0 rfl rfl dX11_bad_15 ?_
    refine J.callV g (c_X11_badAt l γ _ _ _ _ _ _ _ _ _ _ _ _ _ _ _ _ _ _ _ _ _ _ _ _ _ _ _ _ _ _ _ _ _ _ _ _ _ _ ) jy_X11_badAt lm_X11_76 (q0 := 0) rfl jX11.1 ⟨⟨Nat.le_of_ble_eq_true rfl, Nat.le_of_ble_eq_true rfl⟩, Nat.le_of_ble_eq_true rfl, Nat.le_of_ble_eq_true rfl⟩ (Nat.le_of_ble_eq_true rfl) rfl [0] rfl (fun _ => rfl) rfl dX11_bad_18 ?_
    intro _ _
    dsimp only [jput, List.set_cons_zero, List.set_cons_succ, Option.toList, List.append, List.cons_append, List.nil_append, List.append_nil]
    exact J.zret (by first | rfl | exact j_nz _) g hE () rfl trivial (by first | rw [if_pos (by omega)] | rw [if_neg (by omega)]) ⟨Nat.le_of_ble_eq_true rfl, Nat.le_of_ble_eq_true rfl⟩ dX11_bad_21
  · refine J.iconstN g 1 dX11_bad_9 ?_
    refine J.goto g dX11_bad_10 (tgt := 14) (by decide) ?_
    refine J.aload_n g dX11_bad_14 rfl rfl ?_
    refine J.get g jX11 5 (by decide) lf_X11_28 0 rfl rfl dX11_bad_15 ?_
    refine J.callV g (c_X11_badAt l γ _ _ _ _ _ _ _ _ _ _ _ _ _ _ _ _ _ _ _ _ _ _ _ _ _ _ _ _ _ _ _ _ _ _ _ _ _ _ ) jy_X11_badAt lm_X11_76 (q0 := 0) rfl jX11.1 ⟨⟨Nat.le_of_ble_eq_true rfl, Nat.le_of_ble_eq_true rfl⟩, Nat.le_of_ble_eq_true rfl, Nat.le_of_ble_eq_true rfl⟩ (Nat.le_of_ble_eq_true rfl) rfl [0] rfl (fun _ => rfl) rfl dX11_bad_18 ?_
    intro _ _
    dsimp only [jput, List.set_cons_zero, List.set_cons_succ, Option.toList, List.append, List.cons_append, List.nil_append, List.append_nil]
    exact J.zret (by first | rfl | exact j_nz _) g hE () rfl trivial (by first | rw [if_pos (by omega)] | rw [if_neg (by omega)]) ⟨Nat.le_of_ble_eq_true rfl, Nat.le_of_ble_eq_true rfl⟩ dX11_bad_21
set_option maxHeartbeats 4000000 in
set_option maxRecDepth 100000 in
theorem c_X11_next (l : Launch) (γ : jγ) (mo mta mtd msz mto mfr mso mnu mfa mpl mro mnw mrd mkp msn mbf mlv mik msm msu mbe mfe mmy mof msf mlr mty mfm mrn mrb mln mtb : Nat) (mth mfw mse : Int32) (mwd : Int64) (t : Nat → Nat) (hB : ∀ j, t j < 256) (hz : msz ≤ 340) (ht : mto ≤ msz) : jM (S := Nat × Nat × Nat × Nat × Int64) l γ yX11_next cX11_next 5 none ({ frames := 1, cells := 0, slots := 0, locals := 21 } : Room) [.ref mo] [(mo, .inr (11, [.int mth, .ref mta, .int (nI mtd), .int (nI msz), .int (nI mto), .int (nI mfr), .int (nI mso), .int (nI mnu), .int (nI mfa), .int mfw, .int (nI mpl), .int (nI mro), .long mwd, .ref mnw, .ref mrd, .ref mkp, .ref msn, .ref mbf, .ref mlv, .ref mik, .int (nI msm), .ref msu, .ref mbe, .ref mfe, .ref mmy, .ref mof, .ref msf, .ref mlr, .ref mty, .ref mfm, .ref mrn, .ref mrb, .int (nI mln), .ref mtb, .int mse])), (mta, .inl (γ.2 0, 340, .inl (fun j => nI (t j))))] (fun u => none) (fun u => [(mo, .inr (11, [.int mth, .ref mta, .int (nI mtd), .int (nI msz), .int (nI u.1), .int (nI u.2.1), .int (nI u.2.2.1), .int (nI u.2.2.2.1), .int (nI mfa), .int mfw, .int (nI mpl), .int (nI mro), .long u.2.2.2.2, .ref mnw, .ref mrd, .ref mkp, .ref msn, .ref mbf, .ref mlv, .ref mik, .int (nI msm), .ref msu, .ref mbe, .ref mfe, .ref mmy, .ref mof, .ref msf, .ref mlr, .ref mty, .ref mfm, .ref mrn, .ref mrb, .int (nI mln), .ref mtb, .int mse])), (mta, .inl (γ.2 0, 340, .inl (fun j => nI (t j))))]) (fun u => u = nxT t msz mto mnu mwd) := by
  refine jM.of [some (.ref mo), none, none, none, none] rfl (Nat.le_of_ble_eq_true rfl) (by decide) ?_
  intro x g hE hin
  have j160 : ∀ (p : Nat), (p ≤ msz) → (lsk t (msz - mto) mto = p) → (¬ (300 < msz ∧ 300 ≤ p)) → (p < msz) → (jal (t p) = true) → (t p < 256) → J γ l x [(mo, .inr (11, [.int mth, .ref mta, .int (nI mtd), .int (nI msz), .int (nI p), .int (nI p), .int (nI mso), .int (nI mnu), .int (nI mfa), .int mfw, .int (nI mpl), .int (nI mro), .long mwd, .ref mnw, .ref mrd, .ref mkp, .ref msn, .ref mbf, .ref mlv, .ref mik, .int (nI msm), .ref msu, .ref mbe, .ref mfe, .ref mmy, .ref mof, .ref msf, .ref mlr, .ref mty, .ref mfm, .ref mrn, .ref mrb, .int (nI mln), .ref mtb, .int mse])), (mta, .inl (γ.2 0, 340, .inl (fun j => nI (t j))))] [some (.ref mo), some (.int (nI (t p))), none, none, none] [] 0 0 160 := by
    intro p hp hps h3 h4 hna hb2
    refine J.iload_n g dX11_next_160 rfl rfl ?_
    refine J.callS0 g (c_X11_isLetter l γ _ hb2) jy_X11_isLetter lm_X11_34 ⟨⟨Nat.le_of_ble_eq_true rfl, Nat.le_of_ble_eq_true rfl⟩, Nat.le_of_ble_eq_true rfl, Nat.le_of_ble_eq_true rfl⟩ (Nat.le_of_ble_eq_true rfl) rfl [] rfl rfl dX11_next_161 ?_
    intro _ _
    dsimp only [jpush]
    refine J.istore_n g dX11_next_164 rfl rfl rfl ?_
    try dsimp only [List.set_cons_zero, List.set_cons_succ]
    refine J.iconstN g 1 dX11_next_165 ?_
    refine J.istore_n g dX11_next_166 rfl rfl rfl ?_
    try dsimp only [List.set_cons_zero, List.set_cons_succ]
    refine J.aload_n g dX11_next_167 rfl rfl ?_
    refine J.lconst g dX11_next_168 rfl ?_
    refine J.put g jX11 12 (by decide) lf_X11_41 0 rfl rfl (Nat.le_of_ble_eq_true rfl) rfl rfl dX11_next_169 ?_
    try dsimp only [List.set_cons_zero, List.set_cons_succ]
    refine J.aload_n g dX11_next_172 rfl rfl ?_
    refine J.iconstN g 0 dX11_next_173 ?_
    refine J.put g jX11 7 (by decide) lf_X11_45 0 rfl rfl (Nat.le_of_ble_eq_true rfl) rfl rfl dX11_next_174 ?_
    try dsimp only [List.set_cons_zero, List.set_cons_succ]
    have lz0 : ∀ (d : Nat) (c : Nat), msz - (p + c) < d → (p + c ≤ msz) → (lrn t (msz - p) p = lrn t (msz - (p + c)) (p + c)) → J γ l x [(mo, .inr (11, [.int mth, .ref mta, .int (nI mtd), .int (nI msz), .int (nI (p + c)), .int (nI p), .int (nI mso), .int (nI (mnmS t p c)), .int (nI mfa), .int mfw, .int (nI mpl), .int (nI mro), .long (mwdS t p c), .ref mnw, .ref mrd, .ref mkp, .ref msn, .ref mbf, .ref mlv, .ref mik, .int (nI msm), .ref msu, .ref mbe, .ref mfe, .ref mmy, .ref mof, .ref msf, .ref mlr, .ref mty, .ref mfm, .ref mrn, .ref mrb, .int (nI mln), .ref mtb, .int mse])), (mta, .inl (γ.2 0, 340, .inl (fun j => nI (t j))))] [some (.ref mo), some (.int (nI (t p))), some (.int (jB (jlet (t p)))), some (.int (jB (mgdS t p c))), none] [] 0 0 177 := by
      intro d
      induction d with
      | zero => intro c hm; exact absurd hm (Nat.not_lt_zero _)
      | succ d ih_lz0 =>
        intro c hm hc hl
        refine J.aload_n g dX11_next_177 rfl rfl ?_
        refine J.aload_n g dX11_next_178 rfl rfl ?_
        refine J.get g jX11 4 (by decide) lf_X11_25 0 rfl rfl dX11_next_179 ?_
        have hzl := tzA_lt (sz := msz) (i := p + c) hB
        refine J.callV0 g (c_X11_tapeAt l γ _ _ _ _ _ _ _ _ _ _ _ _ _ _ _ _ _ _ _ _ _ _ _ _ _ _ _ _ _ _ _ _ _ _ _ _ _ _ hz (by omega)) jy_X11_tapeAt lm_X11_48 (q0 := 0) rfl jX11.1 ⟨⟨Nat.le_of_ble_eq_true rfl, Nat.le_of_ble_eq_true rfl⟩, Nat.le_of_ble_eq_true rfl, Nat.le_of_ble_eq_true rfl⟩ (Nat.le_of_ble_eq_true rfl) rfl [0, 1] rfl rfl dX11_next_182 ?_
        intro _ _
        dsimp only [jpush]
        refine J.callS0 g (c_X11_isLetter l γ _ hzl) jy_X11_isLetter lm_X11_34 ⟨⟨Nat.le_of_ble_eq_true rfl, Nat.le_of_ble_eq_true rfl⟩, Nat.le_of_ble_eq_true rfl, Nat.le_of_ble_eq_true rfl⟩ (Nat.le_of_ble_eq_true rfl) rfl [] rfl rfl dX11_next_185 ?_
        intro _ _
        dsimp only [jpush]
        refine J.if_neB g dX11_next_188 (tgt := 205) (by decide) (fun c_188 => ?_) (fun c_188 => ?_)
        · have hal : jal (tzA t msz (p + c)) = true := by rw [jal_or, c_188]; rfl
          have hta := tzA_al hal
          have hb3 := hB (p + c)
          have h48 := jal_48 (hta.2 ▸ hal)
          refine J.aload_n g dX11_next_205 rfl rfl ?_
          refine J.get g jX11 1 (by decide) lf_X11_11 0 rfl rfl dX11_next_206 ?_
          refine J.aload_n g dX11_next_209 rfl rfl ?_
          refine J.get g jX11 4 (by decide) lf_X11_25 0 rfl rfl dX11_next_210 ?_
          refine J.ialdN g 1 rfl (by omega) (by decide) dX11_next_213 ?_
          refine J.istore g dX11_next_214 rfl rfl ?_
          try dsimp only [List.set_cons_zero, List.set_cons_succ]
          refine J.iload_n g dX11_next_216 rfl rfl ?_
          refine J.if_eqB g dX11_next_217 (tgt := 233) (by decide) (fun c_217 => ?_) (fun c_217 => ?_)
          · have hg9 : mgdS t p (c + 1) = false := mgdS_f c_217
            refine J.iconstN g 0 dX11_next_233 ?_
            refine J.istore_n g dX11_next_234 rfl rfl rfl ?_
            try dsimp only [List.set_cons_zero, List.set_cons_succ]
            refine J.aload_n g dX11_next_235 rfl rfl ?_
            refine J.get g jX11 4 (by decide) lf_X11_25 0 rfl rfl dX11_next_236 ?_
            refine J.aload_n g dX11_next_239 rfl rfl ?_
            refine J.get g jX11 5 (by decide) lf_X11_28 0 rfl rfl dX11_next_240 ?_
            refine J.isubN g dX11_next_243 (by omega) ?_
            refine J.bipush (v := nI 6) g dX11_next_244 (by decide +kernel) ?_
            refine J.icmp_geN g dX11_next_246 (tgt := 269) (by decide) (by omega) (by omega) (fun c_246 => ?_) (fun c_246 => ?_)
            · have hw9 : mwdS t p (c + 1) = mwdS t p c := by rw [mwdS, if_neg (by omega)]
              refine J.aload_n g dX11_next_269 rfl rfl ?_
              refine J.get g jX11 4 (by decide) lf_X11_25 0 rfl rfl dX11_next_270 ?_
              refine J.aload_n g dX11_next_273 rfl rfl ?_
              refine J.get g jX11 5 (by decide) lf_X11_28 0 rfl rfl dX11_next_274 ?_
              refine J.isubN g dX11_next_277 (by omega) ?_
              refine J.iconstN g 2 dX11_next_278 ?_
              refine J.icmp_geN g dX11_next_279 (tgt := 299) (by decide) (by omega) (by omega) (fun c_279 => ?_) (fun c_279 => ?_)
              · have hn9 : mnmS t p (c + 1) = mnmS t p c := by rw [mnmS, if_neg (by omega)]
                refine J.aload_n g dX11_next_299 rfl rfl ?_
                refine J.dup g dX11_next_300 rfl ?_
                refine J.get g jX11 4 (by decide) lf_X11_25 0 rfl rfl dX11_next_301 ?_
                refine J.iconstN g 1 dX11_next_304 ?_
                refine J.iaddN g dX11_next_305 ?_
                refine J.put g jX11 4 (by decide) lf_X11_25 0 rfl rfl (Nat.le_of_ble_eq_true rfl) rfl rfl dX11_next_306 ?_
                try dsimp only [List.set_cons_zero, List.set_cons_succ]
                refine J.goto g dX11_next_309 (tgt := 177) (by decide) ?_
                have ih2 := ih_lz0 (c + 1) (by omega) (by omega) (hl.trans (lrn_t hta.1 (hta.2 ▸ hal)))
                rw [hg9, hw9, hn9] at ih2
                exact J.lvle (jle_s (jle_s (jle_s (jle_s (jle_n jle_0))))) ih2
              · have hn9 : mnmS t p (c + 1) = 10 * mnmS t p c + t (p + c) - 48 := by rw [mnmS, if_pos (by omega)]
                refine J.aload_n g dX11_next_282 rfl rfl ?_
                refine J.bipush (v := nI 10) g dX11_next_283 (by decide +kernel) ?_
                refine J.aload_n g dX11_next_285 rfl rfl ?_
                refine J.get g jX11 7 (by decide) lf_X11_45 0 rfl rfl dX11_next_286 ?_
                refine J.imulN g dX11_next_289 ?_
                refine J.iload g dX11_next_290 rfl ?_
                refine J.iaddN g dX11_next_292 ?_
                refine J.bipush (v := nI 48) g dX11_next_293 (by decide +kernel) ?_
                refine J.isubN g dX11_next_295 (by omega) ?_
                refine J.put g jX11 7 (by decide) lf_X11_45 0 rfl rfl (Nat.le_of_ble_eq_true rfl) rfl rfl dX11_next_296 ?_
                try dsimp only [List.set_cons_zero, List.set_cons_succ]
                refine J.aload_n g dX11_next_299 rfl rfl ?_
                refine J.dup g dX11_next_300 rfl ?_
                refine J.get g jX11 4 (by decide) lf_X11_25 0 rfl rfl dX11_next_301 ?_
                refine J.iconstN g 1 dX11_next_304 ?_
                refine J.iaddN g dX11_next_305 ?_
                refine J.put g jX11 4 (by decide) lf_X11_25 0 rfl rfl (Nat.le_of_ble_eq_true rfl) rfl rfl dX11_next_306 ?_
                try dsimp only [List.set_cons_zero, List.set_cons_succ]
                refine J.goto g dX11_next_309 (tgt := 177) (by decide) ?_
                have ih2 := ih_lz0 (c + 1) (by omega) (by omega) (hl.trans (lrn_t hta.1 (hta.2 ▸ hal)))
                rw [hg9, hw9, hn9] at ih2
                exact J.lvle (jle_s (jle_s (jle_s (jle_s (jle_n jle_0))))) ih2
            · have hw9 : mwdS t p (c + 1) = 27 * mwdS t p c + (nI (t (p + c))).toInt64 - 96 := by rw [mwdS, if_pos (by omega)]
              refine J.aload_n g dX11_next_249 rfl rfl ?_
              refine J.ldc2 g lc_X11_52 dX11_next_250 ?_
              refine J.aload_n g dX11_next_253 rfl rfl ?_
              refine J.get g jX11 12 (by decide) lf_X11_41 0 rfl rfl dX11_next_254 ?_
              refine J.lmul g dX11_next_257 ?_
              refine J.iload g dX11_next_258 rfl ?_
              refine J.i2l g dX11_next_260 rfl ?_
              refine J.ladd g dX11_next_261 ?_
              refine J.ldc2 g lc_X11_54 dX11_next_262 ?_
              refine J.lsub g dX11_next_265 ?_
              refine J.put g jX11 12 (by decide) lf_X11_41 0 rfl rfl (Nat.le_of_ble_eq_true rfl) rfl rfl dX11_next_266 ?_
              try dsimp only [List.set_cons_zero, List.set_cons_succ]
              refine J.aload_n g dX11_next_269 rfl rfl ?_
              refine J.get g jX11 4 (by decide) lf_X11_25 0 rfl rfl dX11_next_270 ?_
              refine J.aload_n g dX11_next_273 rfl rfl ?_
              refine J.get g jX11 5 (by decide) lf_X11_28 0 rfl rfl dX11_next_274 ?_
              refine J.isubN g dX11_next_277 (by omega) ?_
              refine J.iconstN g 2 dX11_next_278 ?_
              refine J.icmp_geN g dX11_next_279 (tgt := 299) (by decide) (by omega) (by omega) (fun c_279 => ?_) (fun c_279 => ?_)
              · have hn9 : mnmS t p (c + 1) = mnmS t p c := by rw [mnmS, if_neg (by omega)]
                refine J.aload_n g dX11_next_299 rfl rfl ?_
                refine J.dup g dX11_next_300 rfl ?_
                refine J.get g jX11 4 (by decide) lf_X11_25 0 rfl rfl dX11_next_301 ?_
                refine J.iconstN g 1 dX11_next_304 ?_
                refine J.iaddN g dX11_next_305 ?_
                refine J.put g jX11 4 (by decide) lf_X11_25 0 rfl rfl (Nat.le_of_ble_eq_true rfl) rfl rfl dX11_next_306 ?_
                try dsimp only [List.set_cons_zero, List.set_cons_succ]
                refine J.goto g dX11_next_309 (tgt := 177) (by decide) ?_
                have ih2 := ih_lz0 (c + 1) (by omega) (by omega) (hl.trans (lrn_t hta.1 (hta.2 ▸ hal)))
                rw [hg9, hw9, hn9] at ih2
                exact J.lvle (jle_s (jle_s (jle_s (jle_s (jle_n jle_0))))) ih2
              · have hn9 : mnmS t p (c + 1) = 10 * mnmS t p c + t (p + c) - 48 := by rw [mnmS, if_pos (by omega)]
                refine J.aload_n g dX11_next_282 rfl rfl ?_
                refine J.bipush (v := nI 10) g dX11_next_283 (by decide +kernel) ?_
                refine J.aload_n g dX11_next_285 rfl rfl ?_
                refine J.get g jX11 7 (by decide) lf_X11_45 0 rfl rfl dX11_next_286 ?_
                refine J.imulN g dX11_next_289 ?_
                refine J.iload g dX11_next_290 rfl ?_
                refine J.iaddN g dX11_next_292 ?_
                refine J.bipush (v := nI 48) g dX11_next_293 (by decide +kernel) ?_
                refine J.isubN g dX11_next_295 (by omega) ?_
                refine J.put g jX11 7 (by decide) lf_X11_45 0 rfl rfl (Nat.le_of_ble_eq_true rfl) rfl rfl dX11_next_296 ?_
                try dsimp only [List.set_cons_zero, List.set_cons_succ]
                refine J.aload_n g dX11_next_299 rfl rfl ?_
                refine J.dup g dX11_next_300 rfl ?_
                refine J.get g jX11 4 (by decide) lf_X11_25 0 rfl rfl dX11_next_301 ?_
                refine J.iconstN g 1 dX11_next_304 ?_
                refine J.iaddN g dX11_next_305 ?_
                refine J.put g jX11 4 (by decide) lf_X11_25 0 rfl rfl (Nat.le_of_ble_eq_true rfl) rfl rfl dX11_next_306 ?_
                try dsimp only [List.set_cons_zero, List.set_cons_succ]
                refine J.goto g dX11_next_309 (tgt := 177) (by decide) ?_
                have ih2 := ih_lz0 (c + 1) (by omega) (by omega) (hl.trans (lrn_t hta.1 (hta.2 ▸ hal)))
                rw [hg9, hw9, hn9] at ih2
                exact J.lvle (jle_s (jle_s (jle_s (jle_s (jle_n jle_0))))) ih2
          · refine J.iload g dX11_next_220 rfl ?_
            refine J.callS0 g (c_X11_isLetter l γ _ hb3) jy_X11_isLetter lm_X11_34 ⟨⟨Nat.le_of_ble_eq_true rfl, Nat.le_of_ble_eq_true rfl⟩, Nat.le_of_ble_eq_true rfl, Nat.le_of_ble_eq_true rfl⟩ (Nat.le_of_ble_eq_true rfl) rfl [] rfl rfl dX11_next_222 ?_
            intro _ _
            dsimp only [jpush]
            refine J.iload_n g dX11_next_225 rfl rfl ?_
            refine J.icmp_ne g dX11_next_226 (tgt := 233) (by decide) (fun c_226 => ?_) (fun c_226 => ?_)
            · have hg9 : mgdS t p (c + 1) = false := mgdS_n c_226
              refine J.iconstN g 0 dX11_next_233 ?_
              refine J.istore_n g dX11_next_234 rfl rfl rfl ?_
              try dsimp only [List.set_cons_zero, List.set_cons_succ]
              refine J.aload_n g dX11_next_235 rfl rfl ?_
              refine J.get g jX11 4 (by decide) lf_X11_25 0 rfl rfl dX11_next_236 ?_
              refine J.aload_n g dX11_next_239 rfl rfl ?_
              refine J.get g jX11 5 (by decide) lf_X11_28 0 rfl rfl dX11_next_240 ?_
              refine J.isubN g dX11_next_243 (by omega) ?_
              refine J.bipush (v := nI 6) g dX11_next_244 (by decide +kernel) ?_
              refine J.icmp_geN g dX11_next_246 (tgt := 269) (by decide) (by omega) (by omega) (fun c_246 => ?_) (fun c_246 => ?_)
              · have hw9 : mwdS t p (c + 1) = mwdS t p c := by rw [mwdS, if_neg (by omega)]
                refine J.aload_n g dX11_next_269 rfl rfl ?_
                refine J.get g jX11 4 (by decide) lf_X11_25 0 rfl rfl dX11_next_270 ?_
                refine J.aload_n g dX11_next_273 rfl rfl ?_
                refine J.get g jX11 5 (by decide) lf_X11_28 0 rfl rfl dX11_next_274 ?_
                refine J.isubN g dX11_next_277 (by omega) ?_
                refine J.iconstN g 2 dX11_next_278 ?_
                refine J.icmp_geN g dX11_next_279 (tgt := 299) (by decide) (by omega) (by omega) (fun c_279 => ?_) (fun c_279 => ?_)
                · have hn9 : mnmS t p (c + 1) = mnmS t p c := by rw [mnmS, if_neg (by omega)]
                  refine J.aload_n g dX11_next_299 rfl rfl ?_
                  refine J.dup g dX11_next_300 rfl ?_
                  refine J.get g jX11 4 (by decide) lf_X11_25 0 rfl rfl dX11_next_301 ?_
                  refine J.iconstN g 1 dX11_next_304 ?_
                  refine J.iaddN g dX11_next_305 ?_
                  refine J.put g jX11 4 (by decide) lf_X11_25 0 rfl rfl (Nat.le_of_ble_eq_true rfl) rfl rfl dX11_next_306 ?_
                  try dsimp only [List.set_cons_zero, List.set_cons_succ]
                  refine J.goto g dX11_next_309 (tgt := 177) (by decide) ?_
                  have ih2 := ih_lz0 (c + 1) (by omega) (by omega) (hl.trans (lrn_t hta.1 (hta.2 ▸ hal)))
                  rw [hg9, hw9, hn9] at ih2
                  exact J.lvle (jle_s (jle_s (jle_s (jle_s (jle_n jle_0))))) ih2
                · have hn9 : mnmS t p (c + 1) = 10 * mnmS t p c + t (p + c) - 48 := by rw [mnmS, if_pos (by omega)]
                  refine J.aload_n g dX11_next_282 rfl rfl ?_
                  refine J.bipush (v := nI 10) g dX11_next_283 (by decide +kernel) ?_
                  refine J.aload_n g dX11_next_285 rfl rfl ?_
                  refine J.get g jX11 7 (by decide) lf_X11_45 0 rfl rfl dX11_next_286 ?_
                  refine J.imulN g dX11_next_289 ?_
                  refine J.iload g dX11_next_290 rfl ?_
                  refine J.iaddN g dX11_next_292 ?_
                  refine J.bipush (v := nI 48) g dX11_next_293 (by decide +kernel) ?_
                  refine J.isubN g dX11_next_295 (by omega) ?_
                  refine J.put g jX11 7 (by decide) lf_X11_45 0 rfl rfl (Nat.le_of_ble_eq_true rfl) rfl rfl dX11_next_296 ?_
                  try dsimp only [List.set_cons_zero, List.set_cons_succ]
                  refine J.aload_n g dX11_next_299 rfl rfl ?_
                  refine J.dup g dX11_next_300 rfl ?_
                  refine J.get g jX11 4 (by decide) lf_X11_25 0 rfl rfl dX11_next_301 ?_
                  refine J.iconstN g 1 dX11_next_304 ?_
                  refine J.iaddN g dX11_next_305 ?_
                  refine J.put g jX11 4 (by decide) lf_X11_25 0 rfl rfl (Nat.le_of_ble_eq_true rfl) rfl rfl dX11_next_306 ?_
                  try dsimp only [List.set_cons_zero, List.set_cons_succ]
                  refine J.goto g dX11_next_309 (tgt := 177) (by decide) ?_
                  have ih2 := ih_lz0 (c + 1) (by omega) (by omega) (hl.trans (lrn_t hta.1 (hta.2 ▸ hal)))
                  rw [hg9, hw9, hn9] at ih2
                  exact J.lvle (jle_s (jle_s (jle_s (jle_s (jle_n jle_0))))) ih2
              · have hw9 : mwdS t p (c + 1) = 27 * mwdS t p c + (nI (t (p + c))).toInt64 - 96 := by rw [mwdS, if_pos (by omega)]
                refine J.aload_n g dX11_next_249 rfl rfl ?_
                refine J.ldc2 g lc_X11_52 dX11_next_250 ?_
                refine J.aload_n g dX11_next_253 rfl rfl ?_
                refine J.get g jX11 12 (by decide) lf_X11_41 0 rfl rfl dX11_next_254 ?_
                refine J.lmul g dX11_next_257 ?_
                refine J.iload g dX11_next_258 rfl ?_
                refine J.i2l g dX11_next_260 rfl ?_
                refine J.ladd g dX11_next_261 ?_
                refine J.ldc2 g lc_X11_54 dX11_next_262 ?_
                refine J.lsub g dX11_next_265 ?_
                refine J.put g jX11 12 (by decide) lf_X11_41 0 rfl rfl (Nat.le_of_ble_eq_true rfl) rfl rfl dX11_next_266 ?_
                try dsimp only [List.set_cons_zero, List.set_cons_succ]
                refine J.aload_n g dX11_next_269 rfl rfl ?_
                refine J.get g jX11 4 (by decide) lf_X11_25 0 rfl rfl dX11_next_270 ?_
                refine J.aload_n g dX11_next_273 rfl rfl ?_
                refine J.get g jX11 5 (by decide) lf_X11_28 0 rfl rfl dX11_next_274 ?_
                refine J.isubN g dX11_next_277 (by omega) ?_
                refine J.iconstN g 2 dX11_next_278 ?_
                refine J.icmp_geN g dX11_next_279 (tgt := 299) (by decide) (by omega) (by omega) (fun c_279 => ?_) (fun c_279 => ?_)
                · have hn9 : mnmS t p (c + 1) = mnmS t p c := by rw [mnmS, if_neg (by omega)]
                  refine J.aload_n g dX11_next_299 rfl rfl ?_
                  refine J.dup g dX11_next_300 rfl ?_
                  refine J.get g jX11 4 (by decide) lf_X11_25 0 rfl rfl dX11_next_301 ?_
                  refine J.iconstN g 1 dX11_next_304 ?_
                  refine J.iaddN g dX11_next_305 ?_
                  refine J.put g jX11 4 (by decide) lf_X11_25 0 rfl rfl (Nat.le_of_ble_eq_true rfl) rfl rfl dX11_next_306 ?_
                  try dsimp only [List.set_cons_zero, List.set_cons_succ]
                  refine J.goto g dX11_next_309 (tgt := 177) (by decide) ?_
                  have ih2 := ih_lz0 (c + 1) (by omega) (by omega) (hl.trans (lrn_t hta.1 (hta.2 ▸ hal)))
                  rw [hg9, hw9, hn9] at ih2
                  exact J.lvle (jle_s (jle_s (jle_s (jle_s (jle_n jle_0))))) ih2
                · have hn9 : mnmS t p (c + 1) = 10 * mnmS t p c + t (p + c) - 48 := by rw [mnmS, if_pos (by omega)]
                  refine J.aload_n g dX11_next_282 rfl rfl ?_
                  refine J.bipush (v := nI 10) g dX11_next_283 (by decide +kernel) ?_
                  refine J.aload_n g dX11_next_285 rfl rfl ?_
                  refine J.get g jX11 7 (by decide) lf_X11_45 0 rfl rfl dX11_next_286 ?_
                  refine J.imulN g dX11_next_289 ?_
                  refine J.iload g dX11_next_290 rfl ?_
                  refine J.iaddN g dX11_next_292 ?_
                  refine J.bipush (v := nI 48) g dX11_next_293 (by decide +kernel) ?_
                  refine J.isubN g dX11_next_295 (by omega) ?_
                  refine J.put g jX11 7 (by decide) lf_X11_45 0 rfl rfl (Nat.le_of_ble_eq_true rfl) rfl rfl dX11_next_296 ?_
                  try dsimp only [List.set_cons_zero, List.set_cons_succ]
                  refine J.aload_n g dX11_next_299 rfl rfl ?_
                  refine J.dup g dX11_next_300 rfl ?_
                  refine J.get g jX11 4 (by decide) lf_X11_25 0 rfl rfl dX11_next_301 ?_
                  refine J.iconstN g 1 dX11_next_304 ?_
                  refine J.iaddN g dX11_next_305 ?_
                  refine J.put g jX11 4 (by decide) lf_X11_25 0 rfl rfl (Nat.le_of_ble_eq_true rfl) rfl rfl dX11_next_306 ?_
                  try dsimp only [List.set_cons_zero, List.set_cons_succ]
                  refine J.goto g dX11_next_309 (tgt := 177) (by decide) ?_
                  have ih2 := ih_lz0 (c + 1) (by omega) (by omega) (hl.trans (lrn_t hta.1 (hta.2 ▸ hal)))
                  rw [hg9, hw9, hn9] at ih2
                  exact J.lvle (jle_s (jle_s (jle_s (jle_s (jle_n jle_0))))) ih2
            · have hg9 : mgdS t p (c + 1) = true := mgdS_t c_217 c_226
              refine J.iconstN g 1 dX11_next_229 ?_
              refine J.goto g dX11_next_230 (tgt := 234) (by decide) ?_
              refine J.istore_n g dX11_next_234 rfl rfl rfl ?_
              try dsimp only [List.set_cons_zero, List.set_cons_succ]
              refine J.aload_n g dX11_next_235 rfl rfl ?_
              refine J.get g jX11 4 (by decide) lf_X11_25 0 rfl rfl dX11_next_236 ?_
              refine J.aload_n g dX11_next_239 rfl rfl ?_
              refine J.get g jX11 5 (by decide) lf_X11_28 0 rfl rfl dX11_next_240 ?_
              refine J.isubN g dX11_next_243 (by omega) ?_
              refine J.bipush (v := nI 6) g dX11_next_244 (by decide +kernel) ?_
              refine J.icmp_geN g dX11_next_246 (tgt := 269) (by decide) (by omega) (by omega) (fun c_246 => ?_) (fun c_246 => ?_)
              · have hw9 : mwdS t p (c + 1) = mwdS t p c := by rw [mwdS, if_neg (by omega)]
                refine J.aload_n g dX11_next_269 rfl rfl ?_
                refine J.get g jX11 4 (by decide) lf_X11_25 0 rfl rfl dX11_next_270 ?_
                refine J.aload_n g dX11_next_273 rfl rfl ?_
                refine J.get g jX11 5 (by decide) lf_X11_28 0 rfl rfl dX11_next_274 ?_
                refine J.isubN g dX11_next_277 (by omega) ?_
                refine J.iconstN g 2 dX11_next_278 ?_
                refine J.icmp_geN g dX11_next_279 (tgt := 299) (by decide) (by omega) (by omega) (fun c_279 => ?_) (fun c_279 => ?_)
                · have hn9 : mnmS t p (c + 1) = mnmS t p c := by rw [mnmS, if_neg (by omega)]
                  refine J.aload_n g dX11_next_299 rfl rfl ?_
                  refine J.dup g dX11_next_300 rfl ?_
                  refine J.get g jX11 4 (by decide) lf_X11_25 0 rfl rfl dX11_next_301 ?_
                  refine J.iconstN g 1 dX11_next_304 ?_
                  refine J.iaddN g dX11_next_305 ?_
                  refine J.put g jX11 4 (by decide) lf_X11_25 0 rfl rfl (Nat.le_of_ble_eq_true rfl) rfl rfl dX11_next_306 ?_
                  try dsimp only [List.set_cons_zero, List.set_cons_succ]
                  refine J.goto g dX11_next_309 (tgt := 177) (by decide) ?_
                  have ih2 := ih_lz0 (c + 1) (by omega) (by omega) (hl.trans (lrn_t hta.1 (hta.2 ▸ hal)))
                  rw [hg9, hw9, hn9] at ih2
                  exact J.lvle (jle_s (jle_s (jle_s (jle_s (jle_n jle_0))))) ih2
                · have hn9 : mnmS t p (c + 1) = 10 * mnmS t p c + t (p + c) - 48 := by rw [mnmS, if_pos (by omega)]
                  refine J.aload_n g dX11_next_282 rfl rfl ?_
                  refine J.bipush (v := nI 10) g dX11_next_283 (by decide +kernel) ?_
                  refine J.aload_n g dX11_next_285 rfl rfl ?_
                  refine J.get g jX11 7 (by decide) lf_X11_45 0 rfl rfl dX11_next_286 ?_
                  refine J.imulN g dX11_next_289 ?_
                  refine J.iload g dX11_next_290 rfl ?_
                  refine J.iaddN g dX11_next_292 ?_
                  refine J.bipush (v := nI 48) g dX11_next_293 (by decide +kernel) ?_
                  refine J.isubN g dX11_next_295 (by omega) ?_
                  refine J.put g jX11 7 (by decide) lf_X11_45 0 rfl rfl (Nat.le_of_ble_eq_true rfl) rfl rfl dX11_next_296 ?_
                  try dsimp only [List.set_cons_zero, List.set_cons_succ]
                  refine J.aload_n g dX11_next_299 rfl rfl ?_
                  refine J.dup g dX11_next_300 rfl ?_
                  refine J.get g jX11 4 (by decide) lf_X11_25 0 rfl rfl dX11_next_301 ?_
                  refine J.iconstN g 1 dX11_next_304 ?_
                  refine J.iaddN g dX11_next_305 ?_
                  refine J.put g jX11 4 (by decide) lf_X11_25 0 rfl rfl (Nat.le_of_ble_eq_true rfl) rfl rfl dX11_next_306 ?_
                  try dsimp only [List.set_cons_zero, List.set_cons_succ]
                  refine J.goto g dX11_next_309 (tgt := 177) (by decide) ?_
                  have ih2 := ih_lz0 (c + 1) (by omega) (by omega) (hl.trans (lrn_t hta.1 (hta.2 ▸ hal)))
                  rw [hg9, hw9, hn9] at ih2
                  exact J.lvle (jle_s (jle_s (jle_s (jle_s (jle_n jle_0))))) ih2
              · have hw9 : mwdS t p (c + 1) = 27 * mwdS t p c + (nI (t (p + c))).toInt64 - 96 := by rw [mwdS, if_pos (by omega)]
                refine J.aload_n g dX11_next_249 rfl rfl ?_
                refine J.ldc2 g lc_X11_52 dX11_next_250 ?_
                refine J.aload_n g dX11_next_253 rfl rfl ?_
                refine J.get g jX11 12 (by decide) lf_X11_41 0 rfl rfl dX11_next_254 ?_
                refine J.lmul g dX11_next_257 ?_
                refine J.iload g dX11_next_258 rfl ?_
                refine J.i2l g dX11_next_260 rfl ?_
                refine J.ladd g dX11_next_261 ?_
                refine J.ldc2 g lc_X11_54 dX11_next_262 ?_
                refine J.lsub g dX11_next_265 ?_
                refine J.put g jX11 12 (by decide) lf_X11_41 0 rfl rfl (Nat.le_of_ble_eq_true rfl) rfl rfl dX11_next_266 ?_
                try dsimp only [List.set_cons_zero, List.set_cons_succ]
                refine J.aload_n g dX11_next_269 rfl rfl ?_
                refine J.get g jX11 4 (by decide) lf_X11_25 0 rfl rfl dX11_next_270 ?_
                refine J.aload_n g dX11_next_273 rfl rfl ?_
                refine J.get g jX11 5 (by decide) lf_X11_28 0 rfl rfl dX11_next_274 ?_
                refine J.isubN g dX11_next_277 (by omega) ?_
                refine J.iconstN g 2 dX11_next_278 ?_
                refine J.icmp_geN g dX11_next_279 (tgt := 299) (by decide) (by omega) (by omega) (fun c_279 => ?_) (fun c_279 => ?_)
                · have hn9 : mnmS t p (c + 1) = mnmS t p c := by rw [mnmS, if_neg (by omega)]
                  refine J.aload_n g dX11_next_299 rfl rfl ?_
                  refine J.dup g dX11_next_300 rfl ?_
                  refine J.get g jX11 4 (by decide) lf_X11_25 0 rfl rfl dX11_next_301 ?_
                  refine J.iconstN g 1 dX11_next_304 ?_
                  refine J.iaddN g dX11_next_305 ?_
                  refine J.put g jX11 4 (by decide) lf_X11_25 0 rfl rfl (Nat.le_of_ble_eq_true rfl) rfl rfl dX11_next_306 ?_
                  try dsimp only [List.set_cons_zero, List.set_cons_succ]
                  refine J.goto g dX11_next_309 (tgt := 177) (by decide) ?_
                  have ih2 := ih_lz0 (c + 1) (by omega) (by omega) (hl.trans (lrn_t hta.1 (hta.2 ▸ hal)))
                  rw [hg9, hw9, hn9] at ih2
                  exact J.lvle (jle_s (jle_s (jle_s (jle_s (jle_n jle_0))))) ih2
                · have hn9 : mnmS t p (c + 1) = 10 * mnmS t p c + t (p + c) - 48 := by rw [mnmS, if_pos (by omega)]
                  refine J.aload_n g dX11_next_282 rfl rfl ?_
                  refine J.bipush (v := nI 10) g dX11_next_283 (by decide +kernel) ?_
                  refine J.aload_n g dX11_next_285 rfl rfl ?_
                  refine J.get g jX11 7 (by decide) lf_X11_45 0 rfl rfl dX11_next_286 ?_
                  refine J.imulN g dX11_next_289 ?_
                  refine J.iload g dX11_next_290 rfl ?_
                  refine J.iaddN g dX11_next_292 ?_
                  refine J.bipush (v := nI 48) g dX11_next_293 (by decide +kernel) ?_
                  refine J.isubN g dX11_next_295 (by omega) ?_
                  refine J.put g jX11 7 (by decide) lf_X11_45 0 rfl rfl (Nat.le_of_ble_eq_true rfl) rfl rfl dX11_next_296 ?_
                  try dsimp only [List.set_cons_zero, List.set_cons_succ]
                  refine J.aload_n g dX11_next_299 rfl rfl ?_
                  refine J.dup g dX11_next_300 rfl ?_
                  refine J.get g jX11 4 (by decide) lf_X11_25 0 rfl rfl dX11_next_301 ?_
                  refine J.iconstN g 1 dX11_next_304 ?_
                  refine J.iaddN g dX11_next_305 ?_
                  refine J.put g jX11 4 (by decide) lf_X11_25 0 rfl rfl (Nat.le_of_ble_eq_true rfl) rfl rfl dX11_next_306 ?_
                  try dsimp only [List.set_cons_zero, List.set_cons_succ]
                  refine J.goto g dX11_next_309 (tgt := 177) (by decide) ?_
                  have ih2 := ih_lz0 (c + 1) (by omega) (by omega) (hl.trans (lrn_t hta.1 (hta.2 ▸ hal)))
                  rw [hg9, hw9, hn9] at ih2
                  exact J.lvle (jle_s (jle_s (jle_s (jle_s (jle_n jle_0))))) ih2
        · refine J.aload_n g dX11_next_191 rfl rfl ?_
          refine J.aload_n g dX11_next_192 rfl rfl ?_
          refine J.get g jX11 4 (by decide) lf_X11_25 0 rfl rfl dX11_next_193 ?_
          refine J.callV0 g (c_X11_tapeAt l γ _ _ _ _ _ _ _ _ _ _ _ _ _ _ _ _ _ _ _ _ _ _ _ _ _ _ _ _ _ _ _ _ _ _ _ _ _ _ hz (by omega)) jy_X11_tapeAt lm_X11_48 (q0 := 0) rfl jX11.1 ⟨⟨Nat.le_of_ble_eq_true rfl, Nat.le_of_ble_eq_true rfl⟩, Nat.le_of_ble_eq_true rfl, Nat.le_of_ble_eq_true rfl⟩ (Nat.le_of_ble_eq_true rfl) rfl [0, 1] rfl rfl dX11_next_196 ?_
          intro _ _
          dsimp only [jpush]
          refine J.callS0 g (c_X11_isDigit l γ _ hzl) jy_X11_isDigit lm_X11_38 ⟨⟨Nat.le_of_ble_eq_true rfl, Nat.le_of_ble_eq_true rfl⟩, Nat.le_of_ble_eq_true rfl, Nat.le_of_ble_eq_true rfl⟩ (Nat.le_of_ble_eq_true rfl) rfl [] rfl rfl dX11_next_199 ?_
          intro _ _
          dsimp only [jpush]
          refine J.if_eqB g dX11_next_202 (tgt := 312) (by decide) (fun c_202 => ?_) (fun c_202 => ?_)
          · have hen : lrn t (msz - p) p = p + c := hl.trans (tzA_end (by rw [jal_or, c_188, c_202]; rfl) hc)
            refine J.aload_n g dX11_next_312 rfl rfl ?_
            refine J.iload_n g dX11_next_313 rfl rfl ?_
            refine J.if_eqB g dX11_next_314 (tgt := 334) (by decide) (fun c_314 => ?_) (fun c_314 => ?_)
            · have hk9 := nk1 c_314
              refine J.iconstN g 1 dX11_next_334 ?_
              refine J.goto g dX11_next_335 (tgt := 347) (by decide) ?_
              refine J.put g jX11 6 (by decide) lf_X11_31 0 rfl rfl (Nat.le_of_ble_eq_true rfl) rfl rfl dX11_next_347 ?_
              try dsimp only [List.set_cons_zero, List.set_cons_succ]
              exact J.vret g hE (p + c, p, (if mgdS t p c = false ∨ (jlet (t p) = false ∧ 2 < c) then 1 else if jlet (t p) = true then 2 else 3), mnmS t p c, mwdS t p c) rfl (nxT_4 hps (by omega) (by omega) hna hen).symm (by rw [hk9]) ⟨Nat.le_of_ble_eq_true rfl, Nat.le_of_ble_eq_true rfl⟩ dX11_next_350
            · refine J.iload_n g dX11_next_317 rfl rfl ?_
              refine J.if_neB g dX11_next_318 (tgt := 338) (by decide) (fun c_318 => ?_) (fun c_318 => ?_)
              · refine J.iload_n g dX11_next_338 rfl rfl ?_
                refine J.if_eqB g dX11_next_339 (tgt := 346) (by decide) (fun c_339 => ?_) (fun c_339 => ?_)
                · have hk9 : (if mgdS t p c = false ∨ (jlet (t p) = false ∧ 2 < c) then 1 else if jlet (t p) = true then 2 else 3) = 3 := by first | exact nk4 c_314 c_339 (by omega) | (exfalso; rw [c_318] at c_339; cases c_339)
                  refine J.iconstN g 3 dX11_next_346 ?_
                  refine J.put g jX11 6 (by decide) lf_X11_31 0 rfl rfl (Nat.le_of_ble_eq_true rfl) rfl rfl dX11_next_347 ?_
                  try dsimp only [List.set_cons_zero, List.set_cons_succ]
                  exact J.vret g hE (p + c, p, (if mgdS t p c = false ∨ (jlet (t p) = false ∧ 2 < c) then 1 else if jlet (t p) = true then 2 else 3), mnmS t p c, mwdS t p c) rfl (nxT_4 hps (by omega) (by omega) hna hen).symm (by rw [hk9]) ⟨Nat.le_of_ble_eq_true rfl, Nat.le_of_ble_eq_true rfl⟩ dX11_next_350
                · have hk9 : (if mgdS t p c = false ∨ (jlet (t p) = false ∧ 2 < c) then 1 else if jlet (t p) = true then 2 else 3) = 2 := by first | exact nk3 c_314 c_339 | (exfalso; rw [c_318] at c_339; cases c_339)
                  refine J.iconstN g 2 dX11_next_342 ?_
                  refine J.goto g dX11_next_343 (tgt := 347) (by decide) ?_
                  refine J.put g jX11 6 (by decide) lf_X11_31 0 rfl rfl (Nat.le_of_ble_eq_true rfl) rfl rfl dX11_next_347 ?_
                  try dsimp only [List.set_cons_zero, List.set_cons_succ]
                  exact J.vret g hE (p + c, p, (if mgdS t p c = false ∨ (jlet (t p) = false ∧ 2 < c) then 1 else if jlet (t p) = true then 2 else 3), mnmS t p c, mwdS t p c) rfl (nxT_4 hps (by omega) (by omega) hna hen).symm (by rw [hk9]) ⟨Nat.le_of_ble_eq_true rfl, Nat.le_of_ble_eq_true rfl⟩ dX11_next_350
              · refine J.aload_n g dX11_next_321 rfl rfl ?_
                refine J.get g jX11 4 (by decide) lf_X11_25 0 rfl rfl dX11_next_322 ?_
                refine J.aload_n g dX11_next_325 rfl rfl ?_
                refine J.get g jX11 5 (by decide) lf_X11_28 0 rfl rfl dX11_next_326 ?_
                refine J.isubN g dX11_next_329 (by omega) ?_
                refine J.iconstN g 2 dX11_next_330 ?_
                refine J.icmp_leN g dX11_next_331 (tgt := 338) (by decide) (by omega) (by omega) (fun c_331 => ?_) (fun c_331 => ?_)
                · refine J.iload_n g dX11_next_338 rfl rfl ?_
                  refine J.if_eqB g dX11_next_339 (tgt := 346) (by decide) (fun c_339 => ?_) (fun c_339 => ?_)
                  · have hk9 : (if mgdS t p c = false ∨ (jlet (t p) = false ∧ 2 < c) then 1 else if jlet (t p) = true then 2 else 3) = 3 := by first | exact nk4 c_314 c_339 (by omega) | (exfalso; rw [c_318] at c_339; cases c_339)
                    refine J.iconstN g 3 dX11_next_346 ?_
                    refine J.put g jX11 6 (by decide) lf_X11_31 0 rfl rfl (Nat.le_of_ble_eq_true rfl) rfl rfl dX11_next_347 ?_
                    try dsimp only [List.set_cons_zero, List.set_cons_succ]
                    exact J.vret g hE (p + c, p, (if mgdS t p c = false ∨ (jlet (t p) = false ∧ 2 < c) then 1 else if jlet (t p) = true then 2 else 3), mnmS t p c, mwdS t p c) rfl (nxT_4 hps (by omega) (by omega) hna hen).symm (by rw [hk9]) ⟨Nat.le_of_ble_eq_true rfl, Nat.le_of_ble_eq_true rfl⟩ dX11_next_350
                  · have hk9 : (if mgdS t p c = false ∨ (jlet (t p) = false ∧ 2 < c) then 1 else if jlet (t p) = true then 2 else 3) = 2 := by first | exact nk3 c_314 c_339 | (exfalso; rw [c_318] at c_339; cases c_339)
                    refine J.iconstN g 2 dX11_next_342 ?_
                    refine J.goto g dX11_next_343 (tgt := 347) (by decide) ?_
                    refine J.put g jX11 6 (by decide) lf_X11_31 0 rfl rfl (Nat.le_of_ble_eq_true rfl) rfl rfl dX11_next_347 ?_
                    try dsimp only [List.set_cons_zero, List.set_cons_succ]
                    exact J.vret g hE (p + c, p, (if mgdS t p c = false ∨ (jlet (t p) = false ∧ 2 < c) then 1 else if jlet (t p) = true then 2 else 3), mnmS t p c, mwdS t p c) rfl (nxT_4 hps (by omega) (by omega) hna hen).symm (by rw [hk9]) ⟨Nat.le_of_ble_eq_true rfl, Nat.le_of_ble_eq_true rfl⟩ dX11_next_350
                · have hk9 := nk2 c_318 (show 2 < c by omega)
                  refine J.iconstN g 1 dX11_next_334 ?_
                  refine J.goto g dX11_next_335 (tgt := 347) (by decide) ?_
                  refine J.put g jX11 6 (by decide) lf_X11_31 0 rfl rfl (Nat.le_of_ble_eq_true rfl) rfl rfl dX11_next_347 ?_
                  try dsimp only [List.set_cons_zero, List.set_cons_succ]
                  exact J.vret g hE (p + c, p, (if mgdS t p c = false ∨ (jlet (t p) = false ∧ 2 < c) then 1 else if jlet (t p) = true then 2 else 3), mnmS t p c, mwdS t p c) rfl (nxT_4 hps (by omega) (by omega) hna hen).symm (by rw [hk9]) ⟨Nat.le_of_ble_eq_true rfl, Nat.le_of_ble_eq_true rfl⟩ dX11_next_350
          · have hal : jal (tzA t msz (p + c)) = true := by rw [jal_or, c_202, Bool.or_true]
            have hta := tzA_al hal
            have hb3 := hB (p + c)
            have h48 := jal_48 (hta.2 ▸ hal)
            refine J.aload_n g dX11_next_205 rfl rfl ?_
            refine J.get g jX11 1 (by decide) lf_X11_11 0 rfl rfl dX11_next_206 ?_
            refine J.aload_n g dX11_next_209 rfl rfl ?_
            refine J.get g jX11 4 (by decide) lf_X11_25 0 rfl rfl dX11_next_210 ?_
            refine J.ialdN g 1 rfl (by omega) (by decide) dX11_next_213 ?_
            refine J.istore g dX11_next_214 rfl rfl ?_
            try dsimp only [List.set_cons_zero, List.set_cons_succ]
            refine J.iload_n g dX11_next_216 rfl rfl ?_
            refine J.if_eqB g dX11_next_217 (tgt := 233) (by decide) (fun c_217 => ?_) (fun c_217 => ?_)
            · have hg9 : mgdS t p (c + 1) = false := mgdS_f c_217
              refine J.iconstN g 0 dX11_next_233 ?_
              refine J.istore_n g dX11_next_234 rfl rfl rfl ?_
              try dsimp only [List.set_cons_zero, List.set_cons_succ]
              refine J.aload_n g dX11_next_235 rfl rfl ?_
              refine J.get g jX11 4 (by decide) lf_X11_25 0 rfl rfl dX11_next_236 ?_
              refine J.aload_n g dX11_next_239 rfl rfl ?_
              refine J.get g jX11 5 (by decide) lf_X11_28 0 rfl rfl dX11_next_240 ?_
              refine J.isubN g dX11_next_243 (by omega) ?_
              refine J.bipush (v := nI 6) g dX11_next_244 (by decide +kernel) ?_
              refine J.icmp_geN g dX11_next_246 (tgt := 269) (by decide) (by omega) (by omega) (fun c_246 => ?_) (fun c_246 => ?_)
              · have hw9 : mwdS t p (c + 1) = mwdS t p c := by rw [mwdS, if_neg (by omega)]
                refine J.aload_n g dX11_next_269 rfl rfl ?_
                refine J.get g jX11 4 (by decide) lf_X11_25 0 rfl rfl dX11_next_270 ?_
                refine J.aload_n g dX11_next_273 rfl rfl ?_
                refine J.get g jX11 5 (by decide) lf_X11_28 0 rfl rfl dX11_next_274 ?_
                refine J.isubN g dX11_next_277 (by omega) ?_
                refine J.iconstN g 2 dX11_next_278 ?_
                refine J.icmp_geN g dX11_next_279 (tgt := 299) (by decide) (by omega) (by omega) (fun c_279 => ?_) (fun c_279 => ?_)
                · have hn9 : mnmS t p (c + 1) = mnmS t p c := by rw [mnmS, if_neg (by omega)]
                  refine J.aload_n g dX11_next_299 rfl rfl ?_
                  refine J.dup g dX11_next_300 rfl ?_
                  refine J.get g jX11 4 (by decide) lf_X11_25 0 rfl rfl dX11_next_301 ?_
                  refine J.iconstN g 1 dX11_next_304 ?_
                  refine J.iaddN g dX11_next_305 ?_
                  refine J.put g jX11 4 (by decide) lf_X11_25 0 rfl rfl (Nat.le_of_ble_eq_true rfl) rfl rfl dX11_next_306 ?_
                  try dsimp only [List.set_cons_zero, List.set_cons_succ]
                  refine J.goto g dX11_next_309 (tgt := 177) (by decide) ?_
                  have ih2 := ih_lz0 (c + 1) (by omega) (by omega) (hl.trans (lrn_t hta.1 (hta.2 ▸ hal)))
                  rw [hg9, hw9, hn9] at ih2
                  exact J.lvle (jle_s (jle_s (jle_s (jle_s (jle_n jle_0))))) ih2
                · have hn9 : mnmS t p (c + 1) = 10 * mnmS t p c + t (p + c) - 48 := by rw [mnmS, if_pos (by omega)]
                  refine J.aload_n g dX11_next_282 rfl rfl ?_
                  refine J.bipush (v := nI 10) g dX11_next_283 (by decide +kernel) ?_
                  refine J.aload_n g dX11_next_285 rfl rfl ?_
                  refine J.get g jX11 7 (by decide) lf_X11_45 0 rfl rfl dX11_next_286 ?_
                  refine J.imulN g dX11_next_289 ?_
                  refine J.iload g dX11_next_290 rfl ?_
                  refine J.iaddN g dX11_next_292 ?_
                  refine J.bipush (v := nI 48) g dX11_next_293 (by decide +kernel) ?_
                  refine J.isubN g dX11_next_295 (by omega) ?_
                  refine J.put g jX11 7 (by decide) lf_X11_45 0 rfl rfl (Nat.le_of_ble_eq_true rfl) rfl rfl dX11_next_296 ?_
                  try dsimp only [List.set_cons_zero, List.set_cons_succ]
                  refine J.aload_n g dX11_next_299 rfl rfl ?_
                  refine J.dup g dX11_next_300 rfl ?_
                  refine J.get g jX11 4 (by decide) lf_X11_25 0 rfl rfl dX11_next_301 ?_
                  refine J.iconstN g 1 dX11_next_304 ?_
                  refine J.iaddN g dX11_next_305 ?_
                  refine J.put g jX11 4 (by decide) lf_X11_25 0 rfl rfl (Nat.le_of_ble_eq_true rfl) rfl rfl dX11_next_306 ?_
                  try dsimp only [List.set_cons_zero, List.set_cons_succ]
                  refine J.goto g dX11_next_309 (tgt := 177) (by decide) ?_
                  have ih2 := ih_lz0 (c + 1) (by omega) (by omega) (hl.trans (lrn_t hta.1 (hta.2 ▸ hal)))
                  rw [hg9, hw9, hn9] at ih2
                  exact J.lvle (jle_s (jle_s (jle_s (jle_s (jle_n jle_0))))) ih2
              · have hw9 : mwdS t p (c + 1) = 27 * mwdS t p c + (nI (t (p + c))).toInt64 - 96 := by rw [mwdS, if_pos (by omega)]
                refine J.aload_n g dX11_next_249 rfl rfl ?_
                refine J.ldc2 g lc_X11_52 dX11_next_250 ?_
                refine J.aload_n g dX11_next_253 rfl rfl ?_
                refine J.get g jX11 12 (by decide) lf_X11_41 0 rfl rfl dX11_next_254 ?_
                refine J.lmul g dX11_next_257 ?_
                refine J.iload g dX11_next_258 rfl ?_
                refine J.i2l g dX11_next_260 rfl ?_
                refine J.ladd g dX11_next_261 ?_
                refine J.ldc2 g lc_X11_54 dX11_next_262 ?_
                refine J.lsub g dX11_next_265 ?_
                refine J.put g jX11 12 (by decide) lf_X11_41 0 rfl rfl (Nat.le_of_ble_eq_true rfl) rfl rfl dX11_next_266 ?_
                try dsimp only [List.set_cons_zero, List.set_cons_succ]
                refine J.aload_n g dX11_next_269 rfl rfl ?_
                refine J.get g jX11 4 (by decide) lf_X11_25 0 rfl rfl dX11_next_270 ?_
                refine J.aload_n g dX11_next_273 rfl rfl ?_
                refine J.get g jX11 5 (by decide) lf_X11_28 0 rfl rfl dX11_next_274 ?_
                refine J.isubN g dX11_next_277 (by omega) ?_
                refine J.iconstN g 2 dX11_next_278 ?_
                refine J.icmp_geN g dX11_next_279 (tgt := 299) (by decide) (by omega) (by omega) (fun c_279 => ?_) (fun c_279 => ?_)
                · have hn9 : mnmS t p (c + 1) = mnmS t p c := by rw [mnmS, if_neg (by omega)]
                  refine J.aload_n g dX11_next_299 rfl rfl ?_
                  refine J.dup g dX11_next_300 rfl ?_
                  refine J.get g jX11 4 (by decide) lf_X11_25 0 rfl rfl dX11_next_301 ?_
                  refine J.iconstN g 1 dX11_next_304 ?_
                  refine J.iaddN g dX11_next_305 ?_
                  refine J.put g jX11 4 (by decide) lf_X11_25 0 rfl rfl (Nat.le_of_ble_eq_true rfl) rfl rfl dX11_next_306 ?_
                  try dsimp only [List.set_cons_zero, List.set_cons_succ]
                  refine J.goto g dX11_next_309 (tgt := 177) (by decide) ?_
                  have ih2 := ih_lz0 (c + 1) (by omega) (by omega) (hl.trans (lrn_t hta.1 (hta.2 ▸ hal)))
                  rw [hg9, hw9, hn9] at ih2
                  exact J.lvle (jle_s (jle_s (jle_s (jle_s (jle_n jle_0))))) ih2
                · have hn9 : mnmS t p (c + 1) = 10 * mnmS t p c + t (p + c) - 48 := by rw [mnmS, if_pos (by omega)]
                  refine J.aload_n g dX11_next_282 rfl rfl ?_
                  refine J.bipush (v := nI 10) g dX11_next_283 (by decide +kernel) ?_
                  refine J.aload_n g dX11_next_285 rfl rfl ?_
                  refine J.get g jX11 7 (by decide) lf_X11_45 0 rfl rfl dX11_next_286 ?_
                  refine J.imulN g dX11_next_289 ?_
                  refine J.iload g dX11_next_290 rfl ?_
                  refine J.iaddN g dX11_next_292 ?_
                  refine J.bipush (v := nI 48) g dX11_next_293 (by decide +kernel) ?_
                  refine J.isubN g dX11_next_295 (by omega) ?_
                  refine J.put g jX11 7 (by decide) lf_X11_45 0 rfl rfl (Nat.le_of_ble_eq_true rfl) rfl rfl dX11_next_296 ?_
                  try dsimp only [List.set_cons_zero, List.set_cons_succ]
                  refine J.aload_n g dX11_next_299 rfl rfl ?_
                  refine J.dup g dX11_next_300 rfl ?_
                  refine J.get g jX11 4 (by decide) lf_X11_25 0 rfl rfl dX11_next_301 ?_
                  refine J.iconstN g 1 dX11_next_304 ?_
                  refine J.iaddN g dX11_next_305 ?_
                  refine J.put g jX11 4 (by decide) lf_X11_25 0 rfl rfl (Nat.le_of_ble_eq_true rfl) rfl rfl dX11_next_306 ?_
                  try dsimp only [List.set_cons_zero, List.set_cons_succ]
                  refine J.goto g dX11_next_309 (tgt := 177) (by decide) ?_
                  have ih2 := ih_lz0 (c + 1) (by omega) (by omega) (hl.trans (lrn_t hta.1 (hta.2 ▸ hal)))
                  rw [hg9, hw9, hn9] at ih2
                  exact J.lvle (jle_s (jle_s (jle_s (jle_s (jle_n jle_0))))) ih2
            · refine J.iload g dX11_next_220 rfl ?_
              refine J.callS0 g (c_X11_isLetter l γ _ hb3) jy_X11_isLetter lm_X11_34 ⟨⟨Nat.le_of_ble_eq_true rfl, Nat.le_of_ble_eq_true rfl⟩, Nat.le_of_ble_eq_true rfl, Nat.le_of_ble_eq_true rfl⟩ (Nat.le_of_ble_eq_true rfl) rfl [] rfl rfl dX11_next_222 ?_
              intro _ _
              dsimp only [jpush]
              refine J.iload_n g dX11_next_225 rfl rfl ?_
              refine J.icmp_ne g dX11_next_226 (tgt := 233) (by decide) (fun c_226 => ?_) (fun c_226 => ?_)
              · have hg9 : mgdS t p (c + 1) = false := mgdS_n c_226
                refine J.iconstN g 0 dX11_next_233 ?_
                refine J.istore_n g dX11_next_234 rfl rfl rfl ?_
                try dsimp only [List.set_cons_zero, List.set_cons_succ]
                refine J.aload_n g dX11_next_235 rfl rfl ?_
                refine J.get g jX11 4 (by decide) lf_X11_25 0 rfl rfl dX11_next_236 ?_
                refine J.aload_n g dX11_next_239 rfl rfl ?_
                refine J.get g jX11 5 (by decide) lf_X11_28 0 rfl rfl dX11_next_240 ?_
                refine J.isubN g dX11_next_243 (by omega) ?_
                refine J.bipush (v := nI 6) g dX11_next_244 (by decide +kernel) ?_
                refine J.icmp_geN g dX11_next_246 (tgt := 269) (by decide) (by omega) (by omega) (fun c_246 => ?_) (fun c_246 => ?_)
                · have hw9 : mwdS t p (c + 1) = mwdS t p c := by rw [mwdS, if_neg (by omega)]
                  refine J.aload_n g dX11_next_269 rfl rfl ?_
                  refine J.get g jX11 4 (by decide) lf_X11_25 0 rfl rfl dX11_next_270 ?_
                  refine J.aload_n g dX11_next_273 rfl rfl ?_
                  refine J.get g jX11 5 (by decide) lf_X11_28 0 rfl rfl dX11_next_274 ?_
                  refine J.isubN g dX11_next_277 (by omega) ?_
                  refine J.iconstN g 2 dX11_next_278 ?_
                  refine J.icmp_geN g dX11_next_279 (tgt := 299) (by decide) (by omega) (by omega) (fun c_279 => ?_) (fun c_279 => ?_)
                  · have hn9 : mnmS t p (c + 1) = mnmS t p c := by rw [mnmS, if_neg (by omega)]
                    refine J.aload_n g dX11_next_299 rfl rfl ?_
                    refine J.dup g dX11_next_300 rfl ?_
                    refine J.get g jX11 4 (by decide) lf_X11_25 0 rfl rfl dX11_next_301 ?_
                    refine J.iconstN g 1 dX11_next_304 ?_
                    refine J.iaddN g dX11_next_305 ?_
                    refine J.put g jX11 4 (by decide) lf_X11_25 0 rfl rfl (Nat.le_of_ble_eq_true rfl) rfl rfl dX11_next_306 ?_
                    try dsimp only [List.set_cons_zero, List.set_cons_succ]
                    refine J.goto g dX11_next_309 (tgt := 177) (by decide) ?_
                    have ih2 := ih_lz0 (c + 1) (by omega) (by omega) (hl.trans (lrn_t hta.1 (hta.2 ▸ hal)))
                    rw [hg9, hw9, hn9] at ih2
                    exact J.lvle (jle_s (jle_s (jle_s (jle_s (jle_n jle_0))))) ih2
                  · have hn9 : mnmS t p (c + 1) = 10 * mnmS t p c + t (p + c) - 48 := by rw [mnmS, if_pos (by omega)]
                    refine J.aload_n g dX11_next_282 rfl rfl ?_
                    refine J.bipush (v := nI 10) g dX11_next_283 (by decide +kernel) ?_
                    refine J.aload_n g dX11_next_285 rfl rfl ?_
                    refine J.get g jX11 7 (by decide) lf_X11_45 0 rfl rfl dX11_next_286 ?_
                    refine J.imulN g dX11_next_289 ?_
                    refine J.iload g dX11_next_290 rfl ?_
                    refine J.iaddN g dX11_next_292 ?_
                    refine J.bipush (v := nI 48) g dX11_next_293 (by decide +kernel) ?_
                    refine J.isubN g dX11_next_295 (by omega) ?_
                    refine J.put g jX11 7 (by decide) lf_X11_45 0 rfl rfl (Nat.le_of_ble_eq_true rfl) rfl rfl dX11_next_296 ?_
                    try dsimp only [List.set_cons_zero, List.set_cons_succ]
                    refine J.aload_n g dX11_next_299 rfl rfl ?_
                    refine J.dup g dX11_next_300 rfl ?_
                    refine J.get g jX11 4 (by decide) lf_X11_25 0 rfl rfl dX11_next_301 ?_
                    refine J.iconstN g 1 dX11_next_304 ?_
                    refine J.iaddN g dX11_next_305 ?_
                    refine J.put g jX11 4 (by decide) lf_X11_25 0 rfl rfl (Nat.le_of_ble_eq_true rfl) rfl rfl dX11_next_306 ?_
                    try dsimp only [List.set_cons_zero, List.set_cons_succ]
                    refine J.goto g dX11_next_309 (tgt := 177) (by decide) ?_
                    have ih2 := ih_lz0 (c + 1) (by omega) (by omega) (hl.trans (lrn_t hta.1 (hta.2 ▸ hal)))
                    rw [hg9, hw9, hn9] at ih2
                    exact J.lvle (jle_s (jle_s (jle_s (jle_s (jle_n jle_0))))) ih2
                · have hw9 : mwdS t p (c + 1) = 27 * mwdS t p c + (nI (t (p + c))).toInt64 - 96 := by rw [mwdS, if_pos (by omega)]
                  refine J.aload_n g dX11_next_249 rfl rfl ?_
                  refine J.ldc2 g lc_X11_52 dX11_next_250 ?_
                  refine J.aload_n g dX11_next_253 rfl rfl ?_
                  refine J.get g jX11 12 (by decide) lf_X11_41 0 rfl rfl dX11_next_254 ?_
                  refine J.lmul g dX11_next_257 ?_
                  refine J.iload g dX11_next_258 rfl ?_
                  refine J.i2l g dX11_next_260 rfl ?_
                  refine J.ladd g dX11_next_261 ?_
                  refine J.ldc2 g lc_X11_54 dX11_next_262 ?_
                  refine J.lsub g dX11_next_265 ?_
                  refine J.put g jX11 12 (by decide) lf_X11_41 0 rfl rfl (Nat.le_of_ble_eq_true rfl) rfl rfl dX11_next_266 ?_
                  try dsimp only [List.set_cons_zero, List.set_cons_succ]
                  refine J.aload_n g dX11_next_269 rfl rfl ?_
                  refine J.get g jX11 4 (by decide) lf_X11_25 0 rfl rfl dX11_next_270 ?_
                  refine J.aload_n g dX11_next_273 rfl rfl ?_
                  refine J.get g jX11 5 (by decide) lf_X11_28 0 rfl rfl dX11_next_274 ?_
                  refine J.isubN g dX11_next_277 (by omega) ?_
                  refine J.iconstN g 2 dX11_next_278 ?_
                  refine J.icmp_geN g dX11_next_279 (tgt := 299) (by decide) (by omega) (by omega) (fun c_279 => ?_) (fun c_279 => ?_)
                  · have hn9 : mnmS t p (c + 1) = mnmS t p c := by rw [mnmS, if_neg (by omega)]
                    refine J.aload_n g dX11_next_299 rfl rfl ?_
                    refine J.dup g dX11_next_300 rfl ?_
                    refine J.get g jX11 4 (by decide) lf_X11_25 0 rfl rfl dX11_next_301 ?_
                    refine J.iconstN g 1 dX11_next_304 ?_
                    refine J.iaddN g dX11_next_305 ?_
                    refine J.put g jX11 4 (by decide) lf_X11_25 0 rfl rfl (Nat.le_of_ble_eq_true rfl) rfl rfl dX11_next_306 ?_
                    try dsimp only [List.set_cons_zero, List.set_cons_succ]
                    refine J.goto g dX11_next_309 (tgt := 177) (by decide) ?_
                    have ih2 := ih_lz0 (c + 1) (by omega) (by omega) (hl.trans (lrn_t hta.1 (hta.2 ▸ hal)))
                    rw [hg9, hw9, hn9] at ih2
                    exact J.lvle (jle_s (jle_s (jle_s (jle_s (jle_n jle_0))))) ih2
                  · have hn9 : mnmS t p (c + 1) = 10 * mnmS t p c + t (p + c) - 48 := by rw [mnmS, if_pos (by omega)]
                    refine J.aload_n g dX11_next_282 rfl rfl ?_
                    refine J.bipush (v := nI 10) g dX11_next_283 (by decide +kernel) ?_
                    refine J.aload_n g dX11_next_285 rfl rfl ?_
                    refine J.get g jX11 7 (by decide) lf_X11_45 0 rfl rfl dX11_next_286 ?_
                    refine J.imulN g dX11_next_289 ?_
                    refine J.iload g dX11_next_290 rfl ?_
                    refine J.iaddN g dX11_next_292 ?_
                    refine J.bipush (v := nI 48) g dX11_next_293 (by decide +kernel) ?_
                    refine J.isubN g dX11_next_295 (by omega) ?_
                    refine J.put g jX11 7 (by decide) lf_X11_45 0 rfl rfl (Nat.le_of_ble_eq_true rfl) rfl rfl dX11_next_296 ?_
                    try dsimp only [List.set_cons_zero, List.set_cons_succ]
                    refine J.aload_n g dX11_next_299 rfl rfl ?_
                    refine J.dup g dX11_next_300 rfl ?_
                    refine J.get g jX11 4 (by decide) lf_X11_25 0 rfl rfl dX11_next_301 ?_
                    refine J.iconstN g 1 dX11_next_304 ?_
                    refine J.iaddN g dX11_next_305 ?_
                    refine J.put g jX11 4 (by decide) lf_X11_25 0 rfl rfl (Nat.le_of_ble_eq_true rfl) rfl rfl dX11_next_306 ?_
                    try dsimp only [List.set_cons_zero, List.set_cons_succ]
                    refine J.goto g dX11_next_309 (tgt := 177) (by decide) ?_
                    have ih2 := ih_lz0 (c + 1) (by omega) (by omega) (hl.trans (lrn_t hta.1 (hta.2 ▸ hal)))
                    rw [hg9, hw9, hn9] at ih2
                    exact J.lvle (jle_s (jle_s (jle_s (jle_s (jle_n jle_0))))) ih2
              · have hg9 : mgdS t p (c + 1) = true := mgdS_t c_217 c_226
                refine J.iconstN g 1 dX11_next_229 ?_
                refine J.goto g dX11_next_230 (tgt := 234) (by decide) ?_
                refine J.istore_n g dX11_next_234 rfl rfl rfl ?_
                try dsimp only [List.set_cons_zero, List.set_cons_succ]
                refine J.aload_n g dX11_next_235 rfl rfl ?_
                refine J.get g jX11 4 (by decide) lf_X11_25 0 rfl rfl dX11_next_236 ?_
                refine J.aload_n g dX11_next_239 rfl rfl ?_
                refine J.get g jX11 5 (by decide) lf_X11_28 0 rfl rfl dX11_next_240 ?_
                refine J.isubN g dX11_next_243 (by omega) ?_
                refine J.bipush (v := nI 6) g dX11_next_244 (by decide +kernel) ?_
                refine J.icmp_geN g dX11_next_246 (tgt := 269) (by decide) (by omega) (by omega) (fun c_246 => ?_) (fun c_246 => ?_)
                · have hw9 : mwdS t p (c + 1) = mwdS t p c := by rw [mwdS, if_neg (by omega)]
                  refine J.aload_n g dX11_next_269 rfl rfl ?_
                  refine J.get g jX11 4 (by decide) lf_X11_25 0 rfl rfl dX11_next_270 ?_
                  refine J.aload_n g dX11_next_273 rfl rfl ?_
                  refine J.get g jX11 5 (by decide) lf_X11_28 0 rfl rfl dX11_next_274 ?_
                  refine J.isubN g dX11_next_277 (by omega) ?_
                  refine J.iconstN g 2 dX11_next_278 ?_
                  refine J.icmp_geN g dX11_next_279 (tgt := 299) (by decide) (by omega) (by omega) (fun c_279 => ?_) (fun c_279 => ?_)
                  · have hn9 : mnmS t p (c + 1) = mnmS t p c := by rw [mnmS, if_neg (by omega)]
                    refine J.aload_n g dX11_next_299 rfl rfl ?_
                    refine J.dup g dX11_next_300 rfl ?_
                    refine J.get g jX11 4 (by decide) lf_X11_25 0 rfl rfl dX11_next_301 ?_
                    refine J.iconstN g 1 dX11_next_304 ?_
                    refine J.iaddN g dX11_next_305 ?_
                    refine J.put g jX11 4 (by decide) lf_X11_25 0 rfl rfl (Nat.le_of_ble_eq_true rfl) rfl rfl dX11_next_306 ?_
                    try dsimp only [List.set_cons_zero, List.set_cons_succ]
                    refine J.goto g dX11_next_309 (tgt := 177) (by decide) ?_
                    have ih2 := ih_lz0 (c + 1) (by omega) (by omega) (hl.trans (lrn_t hta.1 (hta.2 ▸ hal)))
                    rw [hg9, hw9, hn9] at ih2
                    exact J.lvle (jle_s (jle_s (jle_s (jle_s (jle_n jle_0))))) ih2
                  · have hn9 : mnmS t p (c + 1) = 10 * mnmS t p c + t (p + c) - 48 := by rw [mnmS, if_pos (by omega)]
                    refine J.aload_n g dX11_next_282 rfl rfl ?_
                    refine J.bipush (v := nI 10) g dX11_next_283 (by decide +kernel) ?_
                    refine J.aload_n g dX11_next_285 rfl rfl ?_
                    refine J.get g jX11 7 (by decide) lf_X11_45 0 rfl rfl dX11_next_286 ?_
                    refine J.imulN g dX11_next_289 ?_
                    refine J.iload g dX11_next_290 rfl ?_
                    refine J.iaddN g dX11_next_292 ?_
                    refine J.bipush (v := nI 48) g dX11_next_293 (by decide +kernel) ?_
                    refine J.isubN g dX11_next_295 (by omega) ?_
                    refine J.put g jX11 7 (by decide) lf_X11_45 0 rfl rfl (Nat.le_of_ble_eq_true rfl) rfl rfl dX11_next_296 ?_
                    try dsimp only [List.set_cons_zero, List.set_cons_succ]
                    refine J.aload_n g dX11_next_299 rfl rfl ?_
                    refine J.dup g dX11_next_300 rfl ?_
                    refine J.get g jX11 4 (by decide) lf_X11_25 0 rfl rfl dX11_next_301 ?_
                    refine J.iconstN g 1 dX11_next_304 ?_
                    refine J.iaddN g dX11_next_305 ?_
                    refine J.put g jX11 4 (by decide) lf_X11_25 0 rfl rfl (Nat.le_of_ble_eq_true rfl) rfl rfl dX11_next_306 ?_
                    try dsimp only [List.set_cons_zero, List.set_cons_succ]
                    refine J.goto g dX11_next_309 (tgt := 177) (by decide) ?_
                    have ih2 := ih_lz0 (c + 1) (by omega) (by omega) (hl.trans (lrn_t hta.1 (hta.2 ▸ hal)))
                    rw [hg9, hw9, hn9] at ih2
                    exact J.lvle (jle_s (jle_s (jle_s (jle_s (jle_n jle_0))))) ih2
                · have hw9 : mwdS t p (c + 1) = 27 * mwdS t p c + (nI (t (p + c))).toInt64 - 96 := by rw [mwdS, if_pos (by omega)]
                  refine J.aload_n g dX11_next_249 rfl rfl ?_
                  refine J.ldc2 g lc_X11_52 dX11_next_250 ?_
                  refine J.aload_n g dX11_next_253 rfl rfl ?_
                  refine J.get g jX11 12 (by decide) lf_X11_41 0 rfl rfl dX11_next_254 ?_
                  refine J.lmul g dX11_next_257 ?_
                  refine J.iload g dX11_next_258 rfl ?_
                  refine J.i2l g dX11_next_260 rfl ?_
                  refine J.ladd g dX11_next_261 ?_
                  refine J.ldc2 g lc_X11_54 dX11_next_262 ?_
                  refine J.lsub g dX11_next_265 ?_
                  refine J.put g jX11 12 (by decide) lf_X11_41 0 rfl rfl (Nat.le_of_ble_eq_true rfl) rfl rfl dX11_next_266 ?_
                  try dsimp only [List.set_cons_zero, List.set_cons_succ]
                  refine J.aload_n g dX11_next_269 rfl rfl ?_
                  refine J.get g jX11 4 (by decide) lf_X11_25 0 rfl rfl dX11_next_270 ?_
                  refine J.aload_n g dX11_next_273 rfl rfl ?_
                  refine J.get g jX11 5 (by decide) lf_X11_28 0 rfl rfl dX11_next_274 ?_
                  refine J.isubN g dX11_next_277 (by omega) ?_
                  refine J.iconstN g 2 dX11_next_278 ?_
                  refine J.icmp_geN g dX11_next_279 (tgt := 299) (by decide) (by omega) (by omega) (fun c_279 => ?_) (fun c_279 => ?_)
                  · have hn9 : mnmS t p (c + 1) = mnmS t p c := by rw [mnmS, if_neg (by omega)]
                    refine J.aload_n g dX11_next_299 rfl rfl ?_
                    refine J.dup g dX11_next_300 rfl ?_
                    refine J.get g jX11 4 (by decide) lf_X11_25 0 rfl rfl dX11_next_301 ?_
                    refine J.iconstN g 1 dX11_next_304 ?_
                    refine J.iaddN g dX11_next_305 ?_
                    refine J.put g jX11 4 (by decide) lf_X11_25 0 rfl rfl (Nat.le_of_ble_eq_true rfl) rfl rfl dX11_next_306 ?_
                    try dsimp only [List.set_cons_zero, List.set_cons_succ]
                    refine J.goto g dX11_next_309 (tgt := 177) (by decide) ?_
                    have ih2 := ih_lz0 (c + 1) (by omega) (by omega) (hl.trans (lrn_t hta.1 (hta.2 ▸ hal)))
                    rw [hg9, hw9, hn9] at ih2
                    exact J.lvle (jle_s (jle_s (jle_s (jle_s (jle_n jle_0))))) ih2
                  · have hn9 : mnmS t p (c + 1) = 10 * mnmS t p c + t (p + c) - 48 := by rw [mnmS, if_pos (by omega)]
                    refine J.aload_n g dX11_next_282 rfl rfl ?_
                    refine J.bipush (v := nI 10) g dX11_next_283 (by decide +kernel) ?_
                    refine J.aload_n g dX11_next_285 rfl rfl ?_
                    refine J.get g jX11 7 (by decide) lf_X11_45 0 rfl rfl dX11_next_286 ?_
                    refine J.imulN g dX11_next_289 ?_
                    refine J.iload g dX11_next_290 rfl ?_
                    refine J.iaddN g dX11_next_292 ?_
                    refine J.bipush (v := nI 48) g dX11_next_293 (by decide +kernel) ?_
                    refine J.isubN g dX11_next_295 (by omega) ?_
                    refine J.put g jX11 7 (by decide) lf_X11_45 0 rfl rfl (Nat.le_of_ble_eq_true rfl) rfl rfl dX11_next_296 ?_
                    try dsimp only [List.set_cons_zero, List.set_cons_succ]
                    refine J.aload_n g dX11_next_299 rfl rfl ?_
                    refine J.dup g dX11_next_300 rfl ?_
                    refine J.get g jX11 4 (by decide) lf_X11_25 0 rfl rfl dX11_next_301 ?_
                    refine J.iconstN g 1 dX11_next_304 ?_
                    refine J.iaddN g dX11_next_305 ?_
                    refine J.put g jX11 4 (by decide) lf_X11_25 0 rfl rfl (Nat.le_of_ble_eq_true rfl) rfl rfl dX11_next_306 ?_
                    try dsimp only [List.set_cons_zero, List.set_cons_succ]
                    refine J.goto g dX11_next_309 (tgt := 177) (by decide) ?_
                    have ih2 := ih_lz0 (c + 1) (by omega) (by omega) (hl.trans (lrn_t hta.1 (hta.2 ▸ hal)))
                    rw [hg9, hw9, hn9] at ih2
                    exact J.lvle (jle_s (jle_s (jle_s (jle_s (jle_n jle_0))))) ih2
    exact J.lvle (jle_s (jle_s (jle_s (jle_s (jle_n jle_0))))) (lz0 _ 0 (Nat.lt_succ_self _) (by omega) rfl)
  have j93 : ∀ (p : Nat), (p ≤ msz) → (lsk t (msz - mto) mto = p) → (¬ (300 < msz ∧ 300 ≤ p)) → J γ l x [(mo, .inr (11, [.int mth, .ref mta, .int (nI mtd), .int (nI msz), .int (nI p), .int (nI p), .int (nI mso), .int (nI mnu), .int (nI mfa), .int mfw, .int (nI mpl), .int (nI mro), .long mwd, .ref mnw, .ref mrd, .ref mkp, .ref msn, .ref mbf, .ref mlv, .ref mik, .int (nI msm), .ref msu, .ref mbe, .ref mfe, .ref mmy, .ref mof, .ref msf, .ref mlr, .ref mty, .ref mfm, .ref mrn, .ref mrb, .int (nI mln), .ref mtb, .int mse])), (mta, .inl (γ.2 0, 340, .inl (fun j => nI (t j))))] [some (.ref mo), none, none, none, none] [] 0 0 93 := by
    intro p hp hps h3
    refine J.aload_n g dX11_next_93 rfl rfl ?_
    refine J.get g jX11 4 (by decide) lf_X11_25 0 rfl rfl dX11_next_94 ?_
    refine J.aload_n g dX11_next_97 rfl rfl ?_
    refine J.get g jX11 3 (by decide) lf_X11_22 0 rfl rfl dX11_next_98 ?_
    refine J.icmp_ltN g dX11_next_101 (tgt := 110) (by decide) (by omega) (by omega) (fun c_101 => ?_) (fun c_101 => ?_)
    · have hb2 := hB p
      refine J.aload_n g dX11_next_110 rfl rfl ?_
      refine J.get g jX11 1 (by decide) lf_X11_11 0 rfl rfl dX11_next_111 ?_
      refine J.aload_n g dX11_next_114 rfl rfl ?_
      refine J.get g jX11 4 (by decide) lf_X11_25 0 rfl rfl dX11_next_115 ?_
      refine J.ialdN g 1 rfl (by omega) (by decide) dX11_next_118 ?_
      refine J.istore_n g dX11_next_119 rfl rfl rfl ?_
      try dsimp only [List.set_cons_zero, List.set_cons_succ]
      refine J.iload_n g dX11_next_120 rfl rfl ?_
      refine J.callS0 g (c_X11_isLetter l γ _ hb2) jy_X11_isLetter lm_X11_34 ⟨⟨Nat.le_of_ble_eq_true rfl, Nat.le_of_ble_eq_true rfl⟩, Nat.le_of_ble_eq_true rfl, Nat.le_of_ble_eq_true rfl⟩ (Nat.le_of_ble_eq_true rfl) rfl [] rfl rfl dX11_next_121 ?_
      intro _ _
      dsimp only [jpush]
      refine J.if_neB g dX11_next_124 (tgt := 160) (by decide) (fun c_124 => ?_) (fun c_124 => ?_)
      · have hna : jal (t p) = true := by rw [jal_or, c_124]; rfl
        exact J.lvle (jle_s (jle_s (jle_n (jle_n (jle_n jle_0))))) (j160 p hp hps h3 (by omega) hna hb2)
      · refine J.iload_n g dX11_next_127 rfl rfl ?_
        refine J.callS0 g (c_X11_isDigit l γ _ hb2) jy_X11_isDigit lm_X11_38 ⟨⟨Nat.le_of_ble_eq_true rfl, Nat.le_of_ble_eq_true rfl⟩, Nat.le_of_ble_eq_true rfl, Nat.le_of_ble_eq_true rfl⟩ (Nat.le_of_ble_eq_true rfl) rfl [] rfl rfl dX11_next_128 ?_
        intro _ _
        dsimp only [jpush]
        refine J.if_neB g dX11_next_131 (tgt := 160) (by decide) (fun c_131 => ?_) (fun c_131 => ?_)
        · have hna : jal (t p) = true := by rw [jal_or, c_131, Bool.or_true]
          exact J.lvle (jle_s (jle_s (jle_n (jle_n (jle_n jle_0))))) (j160 p hp hps h3 (by omega) hna hb2)
        · have hna : jal (t p) = false := by rw [jal_or, c_124, c_131]; rfl
          refine J.aload_n g dX11_next_134 rfl rfl ?_
          refine J.iload_n g dX11_next_135 rfl rfl ?_
          refine J.bipush (v := nI 59) g dX11_next_136 (by decide +kernel) ?_
          refine J.icmp_neN g dX11_next_138 (tgt := 145) (by decide) (by omega) (by omega) (fun c_138 => ?_) (fun c_138 => ?_)
          · refine J.iconstN g 1 dX11_next_145 ?_
            refine J.put g jX11 6 (by decide) lf_X11_31 0 rfl rfl (Nat.le_of_ble_eq_true rfl) rfl rfl dX11_next_146 ?_
            try dsimp only [List.set_cons_zero, List.set_cons_succ]
            refine J.aload_n g dX11_next_149 rfl rfl ?_
            refine J.dup g dX11_next_150 rfl ?_
            refine J.get g jX11 4 (by decide) lf_X11_25 0 rfl rfl dX11_next_151 ?_
            refine J.iconstN g 1 dX11_next_154 ?_
            refine J.iaddN g dX11_next_155 ?_
            refine J.put g jX11 4 (by decide) lf_X11_25 0 rfl rfl (Nat.le_of_ble_eq_true rfl) rfl rfl dX11_next_156 ?_
            try dsimp only [List.set_cons_zero, List.set_cons_succ]
            exact J.vret g hE (p + 1, p, (if t p = 59 then 4 else 1), mnu, mwd) rfl (nxT_3 hps (by omega) (by omega) hna).symm (by first | rw [if_pos c_138] | rw [if_neg c_138]) ⟨Nat.le_of_ble_eq_true rfl, Nat.le_of_ble_eq_true rfl⟩ dX11_next_159
          · refine J.iconstN g 4 dX11_next_141 ?_
            refine J.goto g dX11_next_142 (tgt := 146) (by decide) ?_
            refine J.put g jX11 6 (by decide) lf_X11_31 0 rfl rfl (Nat.le_of_ble_eq_true rfl) rfl rfl dX11_next_146 ?_
            try dsimp only [List.set_cons_zero, List.set_cons_succ]
            refine J.aload_n g dX11_next_149 rfl rfl ?_
            refine J.dup g dX11_next_150 rfl ?_
            refine J.get g jX11 4 (by decide) lf_X11_25 0 rfl rfl dX11_next_151 ?_
            refine J.iconstN g 1 dX11_next_154 ?_
            refine J.iaddN g dX11_next_155 ?_
            refine J.put g jX11 4 (by decide) lf_X11_25 0 rfl rfl (Nat.le_of_ble_eq_true rfl) rfl rfl dX11_next_156 ?_
            try dsimp only [List.set_cons_zero, List.set_cons_succ]
            exact J.vret g hE (p + 1, p, (if t p = 59 then 4 else 1), mnu, mwd) rfl (nxT_3 hps (by omega) (by omega) hna).symm (by first | rw [if_pos c_138] | rw [if_neg c_138]) ⟨Nat.le_of_ble_eq_true rfl, Nat.le_of_ble_eq_true rfl⟩ dX11_next_159
    · refine J.aload_n g dX11_next_104 rfl rfl ?_
      refine J.iconstN g 0 dX11_next_105 ?_
      refine J.put g jX11 6 (by decide) lf_X11_31 0 rfl rfl (Nat.le_of_ble_eq_true rfl) rfl rfl dX11_next_106 ?_
      try dsimp only [List.set_cons_zero, List.set_cons_succ]
      exact J.vret g hE (p, p, 0, mnu, mwd) rfl (nxT_2 hps (by omega) (by omega)).symm rfl ⟨Nat.le_of_ble_eq_true rfl, Nat.le_of_ble_eq_true rfl⟩ dX11_next_109
  have j52 : ∀ (p : Nat), (p ≤ msz) → (lsk t (msz - mto) mto = p) → J γ l x [(mo, .inr (11, [.int mth, .ref mta, .int (nI mtd), .int (nI msz), .int (nI p), .int (nI mfr), .int (nI mso), .int (nI mnu), .int (nI mfa), .int mfw, .int (nI mpl), .int (nI mro), .long mwd, .ref mnw, .ref mrd, .ref mkp, .ref msn, .ref mbf, .ref mlv, .ref mik, .int (nI msm), .ref msu, .ref mbe, .ref mfe, .ref mmy, .ref mof, .ref msf, .ref mlr, .ref mty, .ref mfm, .ref mrn, .ref mrb, .int (nI mln), .ref mtb, .int mse])), (mta, .inl (γ.2 0, 340, .inl (fun j => nI (t j))))] [some (.ref mo), none, none, none, none] [] 0 0 52 := by
    intro p hp hps
    refine J.aload_n g dX11_next_52 rfl rfl ?_
    refine J.aload_n g dX11_next_53 rfl rfl ?_
    refine J.get g jX11 4 (by decide) lf_X11_25 0 rfl rfl dX11_next_54 ?_
    refine J.put g jX11 5 (by decide) lf_X11_28 0 rfl rfl (Nat.le_of_ble_eq_true rfl) rfl rfl dX11_next_57 ?_
    try dsimp only [List.set_cons_zero, List.set_cons_succ]
    refine J.aload_n g dX11_next_60 rfl rfl ?_
    refine J.get g jX11 3 (by decide) lf_X11_22 0 rfl rfl dX11_next_61 ?_
    refine J.sipush (v := nI 300) g dX11_next_64 (by decide +kernel) ?_
    refine J.icmp_leN g dX11_next_67 (tgt := 93) (by decide) (by omega) (by omega) (fun c_67 => ?_) (fun c_67 => ?_)
    · exact J.lvle (jle_s (jle_n (jle_n (jle_n (jle_n jle_0))))) (j93 p hp hps (by omega))
    · refine J.aload_n g dX11_next_70 rfl rfl ?_
      refine J.get g jX11 5 (by decide) lf_X11_28 0 rfl rfl dX11_next_71 ?_
      refine J.sipush (v := nI 300) g dX11_next_74 (by decide +kernel) ?_
      refine J.icmp_ltN g dX11_next_77 (tgt := 93) (by decide) (by omega) (by omega) (fun c_77 => ?_) (fun c_77 => ?_)
      · exact J.lvle (jle_s (jle_n (jle_n (jle_n (jle_n jle_0))))) (j93 p hp hps (by omega))
      · refine J.aload_n g dX11_next_80 rfl rfl ?_
        refine J.sipush (v := nI 300) g dX11_next_81 (by decide +kernel) ?_
        refine J.put g jX11 5 (by decide) lf_X11_28 0 rfl rfl (Nat.le_of_ble_eq_true rfl) rfl rfl dX11_next_84 ?_
        try dsimp only [List.set_cons_zero, List.set_cons_succ]
        refine J.aload_n g dX11_next_87 rfl rfl ?_
        refine J.iconstN g 1 dX11_next_88 ?_
        refine J.put g jX11 6 (by decide) lf_X11_31 0 rfl rfl (Nat.le_of_ble_eq_true rfl) rfl rfl dX11_next_89 ?_
        try dsimp only [List.set_cons_zero, List.set_cons_succ]
        exact J.vret g hE (p, 300, 1, mnu, mwd) rfl (nxT_1 hps ⟨by omega, by omega⟩).symm rfl ⟨Nat.le_of_ble_eq_true rfl, Nat.le_of_ble_eq_true rfl⟩ dX11_next_92
  have lp : ∀ (d : Nat) (p : Nat), msz - p < d → (p ≤ msz) → (lsk t (msz - mto) mto = lsk t (msz - p) p) → J γ l x [(mo, .inr (11, [.int mth, .ref mta, .int (nI mtd), .int (nI msz), .int (nI p), .int (nI mfr), .int (nI mso), .int (nI mnu), .int (nI mfa), .int mfw, .int (nI mpl), .int (nI mro), .long mwd, .ref mnw, .ref mrd, .ref mkp, .ref msn, .ref mbf, .ref mlv, .ref mik, .int (nI msm), .ref msu, .ref mbe, .ref mfe, .ref mmy, .ref mof, .ref msf, .ref mlr, .ref mty, .ref mfm, .ref mrn, .ref mrb, .int (nI mln), .ref mtb, .int mse])), (mta, .inl (γ.2 0, 340, .inl (fun j => nI (t j))))] [some (.ref mo), none, none, none, none] [] 0 0 0 := by
    intro d
    induction d with
    | zero => intro p hm; exact absurd hm (Nat.not_lt_zero _)
    | succ d ih_lp =>
      intro p hm hp hr
      refine J.aload_n g dX11_next_0 rfl rfl ?_
      refine J.get g jX11 4 (by decide) lf_X11_25 0 rfl rfl dX11_next_1 ?_
      refine J.aload_n g dX11_next_4 rfl rfl ?_
      refine J.get g jX11 3 (by decide) lf_X11_22 0 rfl rfl dX11_next_5 ?_
      refine J.icmp_geN g dX11_next_8 (tgt := 52) (by decide) (by omega) (by omega) (fun c_8 => ?_) (fun c_8 => ?_)
      · have hps : lsk t (msz - mto) mto = p := hr.trans (lsk_0 c_8)
        exact J.lvle (jle_s (jle_n (jle_n (jle_n (jle_n jle_0))))) (j52 p hp hps)
      · have hb1 := hB p
        refine J.aload_n g dX11_next_11 rfl rfl ?_
        refine J.get g jX11 1 (by decide) lf_X11_11 0 rfl rfl dX11_next_12 ?_
        refine J.aload_n g dX11_next_15 rfl rfl ?_
        refine J.get g jX11 4 (by decide) lf_X11_25 0 rfl rfl dX11_next_16 ?_
        refine J.ialdN g 1 rfl (by omega) (by decide) dX11_next_19 ?_
        refine J.bipush (v := nI 32) g dX11_next_20 (by decide +kernel) ?_
        refine J.icmp_eqN g dX11_next_22 (tgt := 39) (by decide) (by omega) (by omega) (fun c_22 => ?_) (fun c_22 => ?_)
        · refine J.aload_n g dX11_next_39 rfl rfl ?_
          refine J.dup g dX11_next_40 rfl ?_
          refine J.get g jX11 4 (by decide) lf_X11_25 0 rfl rfl dX11_next_41 ?_
          refine J.iconstN g 1 dX11_next_44 ?_
          refine J.iaddN g dX11_next_45 ?_
          refine J.put g jX11 4 (by decide) lf_X11_25 0 rfl rfl (Nat.le_of_ble_eq_true rfl) rfl rfl dX11_next_46 ?_
          try dsimp only [List.set_cons_zero, List.set_cons_succ]
          refine J.goto g dX11_next_49 (tgt := 0) (by decide) ?_
          exact J.lvle (jle_s (jle_n (jle_n (jle_n (jle_n jle_0))))) (ih_lp (p + 1) (by omega) (by omega) (hr.trans (lsk_t (by omega) (by unfold jbl; exact decide_eq_true (by omega)))))
        · refine J.aload_n g dX11_next_25 rfl rfl ?_
          refine J.get g jX11 1 (by decide) lf_X11_11 0 rfl rfl dX11_next_26 ?_
          refine J.aload_n g dX11_next_29 rfl rfl ?_
          refine J.get g jX11 4 (by decide) lf_X11_25 0 rfl rfl dX11_next_30 ?_
          refine J.ialdN g 1 rfl (by omega) (by decide) dX11_next_33 ?_
          refine J.bipush (v := nI 10) g dX11_next_34 (by decide +kernel) ?_
          refine J.icmp_neN g dX11_next_36 (tgt := 52) (by decide) (by omega) (by omega) (fun c_36 => ?_) (fun c_36 => ?_)
          · have hps : lsk t (msz - mto) mto = p := hr.trans (lsk_f (by unfold jbl; exact decide_eq_false (by omega)))
            exact J.lvle (jle_s (jle_n (jle_n (jle_n (jle_n jle_0))))) (j52 p hp hps)
          · refine J.aload_n g dX11_next_39 rfl rfl ?_
            refine J.dup g dX11_next_40 rfl ?_
            refine J.get g jX11 4 (by decide) lf_X11_25 0 rfl rfl dX11_next_41 ?_
            refine J.iconstN g 1 dX11_next_44 ?_
            refine J.iaddN g dX11_next_45 ?_
            refine J.put g jX11 4 (by decide) lf_X11_25 0 rfl rfl (Nat.le_of_ble_eq_true rfl) rfl rfl dX11_next_46 ?_
            try dsimp only [List.set_cons_zero, List.set_cons_succ]
            refine J.goto g dX11_next_49 (tgt := 0) (by decide) ?_
            exact J.lvle (jle_s (jle_n (jle_n (jle_n (jle_n jle_0))))) (ih_lp (p + 1) (by omega) (by omega) (hr.trans (lsk_t (by omega) (by unfold jbl; exact decide_eq_true (by omega)))))
  exact J.lvle (jle_s (jle_n (jle_n (jle_n (jle_n jle_0))))) (lp _ mto (Nat.lt_succ_self _) ht rfl)
