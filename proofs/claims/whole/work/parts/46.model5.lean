set_option maxHeartbeats 4000000 in
set_option maxRecDepth 100000 in
theorem c_X11_snap (l : Launch) (γ : jγ) (mo mta mtd msz mto mfr mso mnu mfa mpl mro mnw mrd mkp msn mbf mlv mik msm msu mbe mfe mmy mof msf mlr mty mfm mrn mrb mln mtb : Nat) (mth mfw mse : Int32) (mwd : Int64) (w SS : Nat → Nat) (hm : msm ≤ 8) : jM (S := Nat → Nat) l γ yX11_snap cX11_snap 2 none ({ frames := 1, cells := 0, slots := 0, locals := 24 } : Room) [.ref mo] [(mo, .inr (11, [.int mth, .ref mta, .int (nI mtd), .int (nI msz), .int (nI mto), .int (nI mfr), .int (nI mso), .int (nI mnu), .int (nI mfa), .int mfw, .int (nI mpl), .int (nI mro), .long mwd, .ref mnw, .ref mrd, .ref mkp, .ref msn, .ref mbf, .ref mlv, .ref mik, .int (nI msm), .ref msu, .ref mbe, .ref mfe, .ref mmy, .ref mof, .ref msf, .ref mlr, .ref mty, .ref mfm, .ref mrn, .ref mrb, .int (nI mln), .ref mtb, .int mse])), (mnw, .inl (γ.2 0, 17, .inl (fun j => nI (w j)))), (msn, .inl (γ.2 0, 136, .inl (fun j => nI (SS j))))] (fun u => none) (fun u => [(mo, .inr (11, [.int mth, .ref mta, .int (nI mtd), .int (nI msz), .int (nI mto), .int (nI mfr), .int (nI mso), .int (nI mnu), .int (nI mfa), .int mfw, .int (nI mpl), .int (nI mro), .long mwd, .ref mnw, .ref mrd, .ref mkp, .ref msn, .ref mbf, .ref mlv, .ref mik, .int (nI (if msm = 8 then 8 else msm + 1)), .ref msu, .ref mbe, .ref mfe, .ref mmy, .ref mof, .ref msf, .ref mlr, .ref mty, .ref mfm, .ref mrn, .ref mrb, .int (nI mln), .ref mtb, .int mse])), (mnw, .inl (γ.2 0, 17, .inl (fun j => nI (w j)))), (msn, .inl (γ.2 0, 136, .inl (fun j => nI (u j))))]) (fun u => msnp SS w msm u) := by
  refine jM.of [some (.ref mo), none] rfl (Nat.le_of_ble_eq_true rfl) (by decide) ?_
  intro x g hE hin
  refine J.aload_n g dX11_snap_0 rfl rfl ?_
  refine J.get g jX11 20 (by decide) lf_X11_183 0 rfl rfl dX11_snap_1 ?_
  refine J.bipush (v := nI 8) g dX11_snap_4 (by decide +kernel) ?_
  refine J.icmp_neN g dX11_snap_6 (tgt := 48) (by decide) (by omega) (by omega) (fun c_6 => ?_) (fun c_6 => ?_)
  · refine J.aload_n g dX11_snap_48 rfl rfl ?_
    refine J.get g jX11 13 (by decide) lf_X11_85 0 rfl rfl dX11_snap_49 ?_
    refine J.iconstN g 0 dX11_snap_52 ?_
    refine J.aload_n g dX11_snap_53 rfl rfl ?_
    refine J.get g jX11 16 (by decide) lf_X11_94 0 rfl rfl dX11_snap_54 ?_
    refine J.bipush (v := nI 17) g dX11_snap_57 (by decide +kernel) ?_
    refine J.aload_n g dX11_snap_59 rfl rfl ?_
    refine J.get g jX11 20 (by decide) lf_X11_183 0 rfl rfl dX11_snap_60 ?_
    refine J.imulN g dX11_snap_63 ?_
    refine J.callS g (c_X11_copy l γ _ _ _ _ _ _ _ _ (by decide) (by decide) (by omega) (by omega)) jy_X11_copy lm_X11_179 ⟨⟨Nat.le_of_ble_eq_true rfl, Nat.le_of_ble_eq_true rfl⟩, Nat.le_of_ble_eq_true rfl, Nat.le_of_ble_eq_true rfl⟩ (Nat.le_of_ble_eq_true rfl) rfl [1, 2] rfl (fun _ => rfl) rfl dX11_snap_64 ?_
    intro u_64 h_64
    dsimp only [jput, List.set_cons_zero, List.set_cons_succ, Option.toList, List.append, List.cons_append, List.nil_append, List.append_nil]
    refine J.aload_n g dX11_snap_67 rfl rfl ?_
    refine J.dup g dX11_snap_68 rfl ?_
    refine J.get g jX11 20 (by decide) lf_X11_183 0 rfl rfl dX11_snap_69 ?_
    refine J.iconstN g 1 dX11_snap_72 ?_
    refine J.iaddN g dX11_snap_73 ?_
    refine J.put g jX11 20 (by decide) lf_X11_183 0 rfl rfl (Nat.le_of_ble_eq_true rfl) rfl rfl dX11_snap_74 ?_
    try dsimp only [List.set_cons_zero, List.set_cons_succ]
    exact J.vret g hE u_64 rfl (fun i j hj hi => by rw [h_64]; unfold msh at hi ⊢; rw [if_neg c_6] at hi ⊢; by_cases z : i = msm; (· rw [if_pos (by omega), if_pos (by omega), show 0 + (17 * i + j - 17 * msm) = j by omega]); (· rw [if_neg (by omega), if_neg (by omega), Nat.add_zero])) (by first | rw [if_neg c_6] | rfl) ⟨Nat.le_of_ble_eq_true rfl, Nat.le_of_ble_eq_true rfl⟩ dX11_snap_77
  · subst c_6
    refine J.iconstN g 0 dX11_snap_9 ?_
    refine J.istore_n g dX11_snap_10 rfl rfl rfl ?_
    try dsimp only [List.set_cons_zero, List.set_cons_succ]
    have lp : ∀ (d : Nat) (k : Nat) (S1 : Nat → Nat), 119 - k < d → (k ≤ 119) → (∀ j, S1 j = if j < k then SS (j + 17) else SS j) → J γ l x [(mo, .inr (11, [.int mth, .ref mta, .int (nI mtd), .int (nI msz), .int (nI mto), .int (nI mfr), .int (nI mso), .int (nI mnu), .int (nI mfa), .int mfw, .int (nI mpl), .int (nI mro), .long mwd, .ref mnw, .ref mrd, .ref mkp, .ref msn, .ref mbf, .ref mlv, .ref mik, .int (nI 8), .ref msu, .ref mbe, .ref mfe, .ref mmy, .ref mof, .ref msf, .ref mlr, .ref mty, .ref mfm, .ref mrn, .ref mrb, .int (nI mln), .ref mtb, .int mse])), (mnw, .inl (γ.2 0, 17, .inl (fun j => nI (w j)))), (msn, .inl (γ.2 0, 136, .inl (fun j => nI (S1 j))))] [some (.ref mo), some (.int (nI k))] [] 0 0 11 := by
      intro d
      induction d with
      | zero => intro k S1 hm; exact absurd hm (Nat.not_lt_zero _)
      | succ d ih_lp =>
        intro k S1 hm hk h1
        refine J.iload_n g dX11_snap_11 rfl rfl ?_
        refine J.bipush (v := nI 119) g dX11_snap_12 (by decide +kernel) ?_
        refine J.icmp_geN g dX11_snap_14 (tgt := 38) (by decide) (by omega) (by omega) (fun c_14 => ?_) (fun c_14 => ?_)
        · refine J.aload_n g dX11_snap_38 rfl rfl ?_
          refine J.dup g dX11_snap_39 rfl ?_
          refine J.get g jX11 20 (by decide) lf_X11_183 0 rfl rfl dX11_snap_40 ?_
          refine J.iconstN g 1 dX11_snap_43 ?_
          refine J.isubN g dX11_snap_44 (by omega) ?_
          refine J.put g jX11 20 (by decide) lf_X11_183 0 rfl rfl (Nat.le_of_ble_eq_true rfl) rfl rfl dX11_snap_45 ?_
          try dsimp only [List.set_cons_zero, List.set_cons_succ]
          refine J.aload_n g dX11_snap_48 rfl rfl ?_
          refine J.get g jX11 13 (by decide) lf_X11_85 0 rfl rfl dX11_snap_49 ?_
          refine J.iconstN g 0 dX11_snap_52 ?_
          refine J.aload_n g dX11_snap_53 rfl rfl ?_
          refine J.get g jX11 16 (by decide) lf_X11_94 0 rfl rfl dX11_snap_54 ?_
          refine J.bipush (v := nI 17) g dX11_snap_57 (by decide +kernel) ?_
          refine J.aload_n g dX11_snap_59 rfl rfl ?_
          refine J.get g jX11 20 (by decide) lf_X11_183 0 rfl rfl dX11_snap_60 ?_
          refine J.imulN g dX11_snap_63 ?_
          refine J.callS g (c_X11_copy l γ _ _ _ _ _ _ _ _ (by decide) (by decide) (by omega) (by omega)) jy_X11_copy lm_X11_179 ⟨⟨Nat.le_of_ble_eq_true rfl, Nat.le_of_ble_eq_true rfl⟩, Nat.le_of_ble_eq_true rfl, Nat.le_of_ble_eq_true rfl⟩ (Nat.le_of_ble_eq_true rfl) rfl [1, 2] rfl (fun _ => rfl) rfl dX11_snap_64 ?_
          intro u_64 h_64
          dsimp only [jput, List.set_cons_zero, List.set_cons_succ, Option.toList, List.append, List.cons_append, List.nil_append, List.append_nil]
          refine J.aload_n g dX11_snap_67 rfl rfl ?_
          refine J.dup g dX11_snap_68 rfl ?_
          refine J.get g jX11 20 (by decide) lf_X11_183 0 rfl rfl dX11_snap_69 ?_
          refine J.iconstN g 1 dX11_snap_72 ?_
          refine J.iaddN g dX11_snap_73 ?_
          refine J.put g jX11 20 (by decide) lf_X11_183 0 rfl rfl (Nat.le_of_ble_eq_true rfl) rfl rfl dX11_snap_74 ?_
          try dsimp only [List.set_cons_zero, List.set_cons_succ]
          exact J.vret g hE u_64 rfl (fun i j hj hi => by rw [h_64]; unfold msh at hi ⊢; rw [if_pos rfl] at hi ⊢; by_cases z : i = 7; (· rw [if_pos (by omega), if_pos (by omega), show 0 + (17 * i + j - 17 * 7) = j by omega]); (· rw [if_neg (by omega), if_neg (by omega), h1, if_pos (by omega), show 17 * i + j + 17 = 17 * (i + 1) + j by omega])) (by first | rw [if_neg c_6] | rfl) ⟨Nat.le_of_ble_eq_true rfl, Nat.le_of_ble_eq_true rfl⟩ dX11_snap_77
        · refine J.aload_n g dX11_snap_17 rfl rfl ?_
          refine J.get g jX11 16 (by decide) lf_X11_94 0 rfl rfl dX11_snap_18 ?_
          refine J.iload_n g dX11_snap_21 rfl rfl ?_
          refine J.aload_n g dX11_snap_22 rfl rfl ?_
          refine J.get g jX11 16 (by decide) lf_X11_94 0 rfl rfl dX11_snap_23 ?_
          refine J.iload_n g dX11_snap_26 rfl rfl ?_
          refine J.bipush (v := nI 17) g dX11_snap_27 (by decide +kernel) ?_
          refine J.iaddN g dX11_snap_29 ?_
          refine J.ialdN g 2 rfl (by omega) (by decide) dX11_snap_30 ?_
          refine J.iastN g 2 rfl (by omega) (by decide) dX11_snap_31 ?_
          try dsimp only [List.set_cons_zero, List.set_cons_succ]
          refine J.iincN g 1 dX11_snap_32 rfl rfl ?_
          try dsimp only [List.set_cons_zero, List.set_cons_succ]
          refine J.goto g dX11_snap_35 (tgt := 11) (by decide) ?_
          exact J.lvle (jle_s (jle_s jle_0)) (ih_lp (k + 1) _ (by omega) (by omega) (fun j => by unfold va_up; by_cases z : j = k; (· rw [if_pos z, h1, if_neg (by omega), if_pos (by omega), z]); (· rw [if_neg z, h1]; by_cases q : j < k; (· rw [if_pos q, if_pos (by omega)]); (· rw [if_neg q, if_neg (by omega)]))))
    exact J.lvle (jle_s (jle_s jle_0)) (lp _ 0 SS (Nat.lt_succ_self _) (Nat.zero_le _) (fun j => by rw [if_neg (by omega)]))
set_option maxHeartbeats 4000000 in
set_option maxRecDepth 100000 in
theorem c_X11_stay (l : Launch) (γ : jγ) (mo mta mtd msz mto mfr mso mnu mfa mpl mro mnw mrd mkp msn mbf mlv mik msm msu mbe mfe mmy mof msf mlr mty mfm mrn mrb mln mtb : Nat) (mth mfw mse : Int32) (mwd : Int64) (w SS bf lv : Nat → Nat) (hm : msm ≤ 8) : jM (S := (Nat → Nat) × (Nat → Nat) × (Nat → Nat)) l γ yX11_stay cX11_stay 1 none ({ frames := 2, cells := 0, slots := 0, locals := 45 } : Room) [.ref mo] [(mo, .inr (11, [.int mth, .ref mta, .int (nI mtd), .int (nI msz), .int (nI mto), .int (nI mfr), .int (nI mso), .int (nI mnu), .int (nI mfa), .int mfw, .int (nI mpl), .int (nI mro), .long mwd, .ref mnw, .ref mrd, .ref mkp, .ref msn, .ref mbf, .ref mlv, .ref mik, .int (nI msm), .ref msu, .ref mbe, .ref mfe, .ref mmy, .ref mof, .ref msf, .ref mlr, .ref mty, .ref mfm, .ref mrn, .ref mrb, .int (nI mln), .ref mtb, .int mse])), (mnw, .inl (γ.2 0, 17, .inl (fun j => nI (w j)))), (msn, .inl (γ.2 0, 136, .inl (fun j => nI (SS j)))), (mbf, .inl (γ.2 0, 17, .inl (fun j => nI (bf j)))), (mlv, .inl (γ.2 0, 17, .inl (fun j => nI (lv j))))] (fun u => none) (fun u => [(mo, .inr (11, [.int mth, .ref mta, .int (nI mtd), .int (nI msz), .int (nI mto), .int (nI mfr), .int (nI mso), .int (nI mnu), .int (nI mfa), .int mfw, .int (nI mpl), .int (nI mro), .long mwd, .ref mnw, .ref mrd, .ref mkp, .ref msn, .ref mbf, .ref mlv, .ref mik, .int (nI (if msm = 8 then 8 else msm + 1)), .ref msu, .ref mbe, .ref mfe, .ref mmy, .ref mof, .ref msf, .ref mlr, .ref mty, .ref mfm, .ref mrn, .ref mrb, .int (nI mln), .ref mtb, .int mse])), (mnw, .inl (γ.2 0, 17, .inl (fun j => nI (u.1 j)))), (msn, .inl (γ.2 0, 136, .inl (fun j => nI (u.2.1 j)))), (mbf, .inl (γ.2 0, 17, .inl (fun j => nI (bf j)))), (mlv, .inl (γ.2 0, 17, .inl (fun j => nI (u.2.2 j))))]) (fun u => (∀ j, j < 17 → u.1 j = w j) ∧ msnp SS bf msm u.2.1) := by
  refine jM.of [some (.ref mo)] rfl (Nat.le_of_ble_eq_true rfl) (by decide) ?_
  intro x g hE hin
  refine J.aload_n g dX11_stay_0 rfl rfl ?_
  refine J.get g jX11 13 (by decide) lf_X11_85 0 rfl rfl dX11_stay_1 ?_
  refine J.iconstN g 0 dX11_stay_4 ?_
  refine J.aload_n g dX11_stay_5 rfl rfl ?_
  refine J.get g jX11 18 (by decide) lf_X11_100 0 rfl rfl dX11_stay_6 ?_
  refine J.iconstN g 0 dX11_stay_9 ?_
  refine J.callS g (c_X11_copy l γ _ _ _ _ _ _ _ _ (by decide) (by decide) (by omega) (by omega)) jy_X11_copy lm_X11_179 ⟨⟨Nat.le_of_ble_eq_true rfl, Nat.le_of_ble_eq_true rfl⟩, Nat.le_of_ble_eq_true rfl, Nat.le_of_ble_eq_true rfl⟩ (Nat.le_of_ble_eq_true rfl) rfl [1, 4] rfl (fun _ => rfl) rfl dX11_stay_10 ?_
  intro u_10 h_10
  dsimp only [jput, List.set_cons_zero, List.set_cons_succ, Option.toList, List.append, List.cons_append, List.nil_append, List.append_nil]
  refine J.aload_n g dX11_stay_13 rfl rfl ?_
  refine J.get g jX11 17 (by decide) lf_X11_97 0 rfl rfl dX11_stay_14 ?_
  refine J.iconstN g 0 dX11_stay_17 ?_
  refine J.aload_n g dX11_stay_18 rfl rfl ?_
  refine J.get g jX11 13 (by decide) lf_X11_85 0 rfl rfl dX11_stay_19 ?_
  refine J.iconstN g 0 dX11_stay_22 ?_
  refine J.callS g (c_X11_copy l γ _ _ _ _ _ _ _ _ (by decide) (by decide) (by omega) (by omega)) jy_X11_copy lm_X11_179 ⟨⟨Nat.le_of_ble_eq_true rfl, Nat.le_of_ble_eq_true rfl⟩, Nat.le_of_ble_eq_true rfl, Nat.le_of_ble_eq_true rfl⟩ (Nat.le_of_ble_eq_true rfl) rfl [3, 1] rfl (fun _ => rfl) rfl dX11_stay_23 ?_
  intro u_23 h_23
  dsimp only [jput, List.set_cons_zero, List.set_cons_succ, Option.toList, List.append, List.cons_append, List.nil_append, List.append_nil]
  refine J.aload_n g dX11_stay_26 rfl rfl ?_
  refine J.callV g (c_X11_snap l γ _ _ _ _ _ _ _ _ _ _ _ _ _ _ _ _ _ _ _ _ _ _ _ _ _ _ _ _ _ _ _ _ _ _ _ _ _ _ hm) jy_X11_snap lm_X11_276 (q0 := 0) rfl jX11.1 ⟨⟨Nat.le_of_ble_eq_true rfl, Nat.le_of_ble_eq_true rfl⟩, Nat.le_of_ble_eq_true rfl, Nat.le_of_ble_eq_true rfl⟩ (Nat.le_of_ble_eq_true rfl) rfl [0, 1, 2] rfl (fun _ => rfl) rfl dX11_stay_27 ?_
  intro u_27 h_27
  dsimp only [jput, List.set_cons_zero, List.set_cons_succ, Option.toList, List.append, List.cons_append, List.nil_append, List.append_nil]
  refine J.aload_n g dX11_stay_30 rfl rfl ?_
  refine J.get g jX11 18 (by decide) lf_X11_100 0 rfl rfl dX11_stay_31 ?_
  refine J.iconstN g 0 dX11_stay_34 ?_
  refine J.aload_n g dX11_stay_35 rfl rfl ?_
  refine J.get g jX11 13 (by decide) lf_X11_85 0 rfl rfl dX11_stay_36 ?_
  refine J.iconstN g 0 dX11_stay_39 ?_
  refine J.callS g (c_X11_copy l γ _ _ _ _ _ _ _ _ (by decide) (by decide) (by omega) (by omega)) jy_X11_copy lm_X11_179 ⟨⟨Nat.le_of_ble_eq_true rfl, Nat.le_of_ble_eq_true rfl⟩, Nat.le_of_ble_eq_true rfl, Nat.le_of_ble_eq_true rfl⟩ (Nat.le_of_ble_eq_true rfl) rfl [4, 1] rfl (fun _ => rfl) rfl dX11_stay_40 ?_
  intro u_40 h_40
  dsimp only [jput, List.set_cons_zero, List.set_cons_succ, Option.toList, List.append, List.cons_append, List.nil_append, List.append_nil]
  exact J.vret g hE (u_40, u_27, u_10) rfl ⟨fun j hj => by show u_40 j = w j; rw [h_40, if_pos (by omega), h_10, if_pos (by omega), show 0 + (0 + (j - 0) - 0) = j by omega], msnp_c h_27 (fun j hj => by rw [h_23, if_pos (by omega), show 0 + (j - 0) = j by omega])⟩ rfl ⟨Nat.le_of_ble_eq_true rfl, Nat.le_of_ble_eq_true rfl⟩ dX11_stay_43
set_option maxHeartbeats 4000000 in
set_option maxRecDepth 100000 in
theorem c_X11_places_r (l : Launch) (γ : jγ) (mo mta mtd msz mto mfr mso mnu mfa mpl mro mnw mrd mkp msn mbf mlv mik msm msu mbe mfe mmy mof msf mlr mty mfm mrn mrb mln mtb : Nat) (mth mfw mse : Int32) (mwd : Int64) (n : Nat) (w : Nat → Nat) (hq : mPl n w) : jM (S := Unit) l γ yX11_places cX11_places 1 (some .int) ({ frames := 0, cells := 0, slots := 0, locals := 0 } : Room) [.ref mo] [(mo, .inr (11, [.int mth, .ref mta, .int (nI mtd), .int (nI msz), .int (nI mto), .int (nI mfr), .int (nI mso), .int (nI mnu), .int (nI mfa), .int mfw, .int (nI mpl), .int (nI mro), .long mwd, .ref mnw, .ref mrd, .ref mkp, .ref msn, .ref mbf, .ref mlv, .ref mik, .int (nI msm), .ref msu, .ref mbe, .ref mfe, .ref mmy, .ref mof, .ref msf, .ref mlr, .ref mty, .ref mfm, .ref mrn, .ref mrb, .int (nI mln), .ref mtb, .int mse])), (mnw, .inl (γ.2 0, 17, .inl (fun j => nI (w j))))] (fun w0 => some (.int (nI n))) (fun w0 => [(mo, .inr (11, [.int mth, .ref mta, .int (nI mtd), .int (nI msz), .int (nI mto), .int (nI mfr), .int (nI mso), .int (nI mnu), .int (nI mfa), .int mfw, .int (nI mpl), .int (nI mro), .long mwd, .ref mnw, .ref mrd, .ref mkp, .ref msn, .ref mbf, .ref mlv, .ref mik, .int (nI msm), .ref msu, .ref mbe, .ref mfe, .ref mmy, .ref mof, .ref msf, .ref mlr, .ref mty, .ref mfm, .ref mrn, .ref mrb, .int (nI mln), .ref mtb, .int mse])), (mnw, .inl (γ.2 0, 17, .inl (fun j => nI (w j))))]) (fun w0 => True) := by
  refine jM.of [some (.ref mo)] rfl (Nat.le_of_ble_eq_true rfl) (by decide) ?_
  intro x g hE hin
  refine J.aload_n g dX11_places_0 rfl rfl ?_
  refine J.get g jX11 13 (by decide) lf_X11_85 0 rfl rfl dX11_places_1 ?_
  refine J.iconstN g 4 dX11_places_4 ?_
  refine J.ialdN g 1 rfl (by omega) (by decide) dX11_places_5 ?_
  exact J.iret g hE () (by rw [hq.1]) trivial rfl ⟨Nat.le_of_ble_eq_true rfl, Nat.le_of_ble_eq_true rfl⟩ dX11_places_6
set_option maxHeartbeats 4000000 in
set_option maxRecDepth 100000 in
theorem c_X11_comes (l : Launch) (γ : jγ) (mo mta mtd msz mto mfr mso mnu mfa mpl mro mnw mrd mkp msn mbf mlv mik msm msu mbe mfe mmy mof msf mlr mty mfm mrn mrb mln mtb : Nat) (mth mfw mse : Int32) (mwd : Int64) (cd n : Nat) (f w : Nat → Nat) (a : Nat) (hw : mIs cd n f w) (hn : n < 12) (ha : a < god cd) : jM (S := Nat → Nat) l γ yX11_comes cX11_comes 2 none ({ frames := 1, cells := 0, slots := 0, locals := 20 } : Room) [.ref mo, .int (nI a)] [(mo, .inr (11, [.int mth, .ref mta, .int (nI mtd), .int (nI msz), .int (nI mto), .int (nI mfr), .int (nI mso), .int (nI mnu), .int (nI mfa), .int mfw, .int (nI mpl), .int (nI mro), .long mwd, .ref mnw, .ref mrd, .ref mkp, .ref msn, .ref mbf, .ref mlv, .ref mik, .int (nI msm), .ref msu, .ref mbe, .ref mfe, .ref mmy, .ref mof, .ref msf, .ref mlr, .ref mty, .ref mfm, .ref mrn, .ref mrb, .int (nI mln), .ref mtb, .int mse])), (mnw, .inl (γ.2 0, 17, .inl (fun j => nI (w j))))] (fun u => none) (fun u => [(mo, .inr (11, [.int mth, .ref mta, .int (nI mtd), .int (nI msz), .int (nI mto), .int (nI mfr), .int (nI mso), .int (nI mnu), .int (nI mfa), .int mfw, .int (nI mpl), .int (nI mro), .long mwd, .ref mnw, .ref mrd, .ref mkp, .ref msn, .ref mbf, .ref mlv, .ref mik, .int (nI msm), .ref msu, .ref mbe, .ref mfe, .ref mmy, .ref mof, .ref msf, .ref mlr, .ref mty, .ref mfm, .ref mrn, .ref mrb, .int (nI mln), .ref mtb, .int mse])), (mnw, .inl (γ.2 0, 17, .inl (fun j => nI (u j))))]) (fun u => mIs cd (n + 1) (va_up f n a) u) := by
  refine jM.of [some (.ref mo), some (.int (nI a))] rfl (Nat.le_of_ble_eq_true rfl) (by decide) ?_
  intro x g hE hin
  have hwg := hw.g
  have hw5 := hw.2.2.2.2.2.1
  have hwf := hw.2.2.2.2.2.2
  have hw3 := hw.2.2.1
  refine J.aload_n g dX11_comes_0 rfl rfl ?_
  refine J.get g jX11 13 (by decide) lf_X11_85 0 rfl rfl dX11_comes_1 ?_
  refine J.iconstN g 5 dX11_comes_4 ?_
  refine J.aload_n g dX11_comes_5 rfl rfl ?_
  refine J.callV0 g (c_X11_places l γ _ _ _ _ _ _ _ _ _ _ _ _ _ _ _ _ _ _ _ _ _ _ _ _ _ _ _ _ _ _ _ _ _ _ _ _ _ _ _ _ hw) jy_X11_places lm_X11_190 (q0 := 0) rfl jX11.1 ⟨⟨Nat.le_of_ble_eq_true rfl, Nat.le_of_ble_eq_true rfl⟩, Nat.le_of_ble_eq_true rfl, Nat.le_of_ble_eq_true rfl⟩ (Nat.le_of_ble_eq_true rfl) rfl [0, 1] rfl rfl dX11_comes_6 ?_
  intro _ _
  dsimp only [jpush]
  refine J.iaddN g dX11_comes_9 ?_
  refine J.iload_n g dX11_comes_10 rfl rfl ?_
  refine J.iastN g 1 rfl (by omega) (by decide) dX11_comes_11 ?_
  try dsimp only [List.set_cons_zero, List.set_cons_succ]
  refine J.aload_n g dX11_comes_12 rfl rfl ?_
  refine J.get g jX11 13 (by decide) lf_X11_85 0 rfl rfl dX11_comes_13 ?_
  refine J.iconstN g 4 dX11_comes_16 ?_
  refine J.dup2 g dX11_comes_17 rfl rfl ?_
  refine J.ialdN g 1 rfl (by omega) (by decide) dX11_comes_18 ?_
  refine J.iconstN g 1 dX11_comes_19 ?_
  refine J.iaddN g dX11_comes_20 ?_
  refine J.iastN g 1 rfl (by omega) (by decide) dX11_comes_21 ?_
  try dsimp only [List.set_cons_zero, List.set_cons_succ]
  exact J.vret g hE _ rfl (mIs_come hw hn ha (fun j hj => by unfold va_up; by_cases z : j = 4; (· rw [if_pos z, if_pos z, if_neg (by omega), hwg.2.2.2.1]); (· rw [if_neg z, if_neg z]))) rfl ⟨Nat.le_of_ble_eq_true rfl, Nat.le_of_ble_eq_true rfl⟩ dX11_comes_22
set_option maxHeartbeats 4000000 in
set_option maxRecDepth 100000 in
theorem c_X11_goes (l : Launch) (γ : jγ) (mo mta mtd msz mto mfr mso mnu mfa mpl mro mnw mrd mkp msn mbf mlv mik msm msu mbe mfe mmy mof msf mlr mty mfm mrn mrb mln mtb : Nat) (mth mfw mse : Int32) (mwd : Int64) (cd n : Nat) (f w : Nat → Nat) (p : Nat) (hw : mIs cd n f w) (hp : p < n) : jM (S := Nat → Nat) l γ yX11_goes cX11_goes 3 none ({ frames := 1, cells := 0, slots := 0, locals := 20 } : Room) [.ref mo, .int (nI p)] [(mo, .inr (11, [.int mth, .ref mta, .int (nI mtd), .int (nI msz), .int (nI mto), .int (nI mfr), .int (nI mso), .int (nI mnu), .int (nI mfa), .int mfw, .int (nI mpl), .int (nI mro), .long mwd, .ref mnw, .ref mrd, .ref mkp, .ref msn, .ref mbf, .ref mlv, .ref mik, .int (nI msm), .ref msu, .ref mbe, .ref mfe, .ref mmy, .ref mof, .ref msf, .ref mlr, .ref mty, .ref mfm, .ref mrn, .ref mrb, .int (nI mln), .ref mtb, .int mse])), (mnw, .inl (γ.2 0, 17, .inl (fun j => nI (w j))))] (fun u => none) (fun u => [(mo, .inr (11, [.int mth, .ref mta, .int (nI mtd), .int (nI msz), .int (nI mto), .int (nI mfr), .int (nI mso), .int (nI mnu), .int (nI mfa), .int mfw, .int (nI mpl), .int (nI mro), .long mwd, .ref mnw, .ref mrd, .ref mkp, .ref msn, .ref mbf, .ref mlv, .ref mik, .int (nI msm), .ref msu, .ref mbe, .ref mfe, .ref mmy, .ref mof, .ref msf, .ref mlr, .ref mty, .ref mfm, .ref mrn, .ref mrb, .int (nI mln), .ref mtb, .int mse])), (mnw, .inl (γ.2 0, 17, .inl (fun j => nI (u j))))]) (fun u => mIs cd (n - 1) (fun j => if p ≤ j ∧ j < n - 1 then f (j + 1) else f j) u) := by
  refine jM.of [some (.ref mo), some (.int (nI p)), none] rfl (Nat.le_of_ble_eq_true rfl) (by decide) ?_
  intro x g hE hin
  have hwg := hw.g
  have hw5 := hw.2.2.2.2.2.1
  have hwf := hw.2.2.2.2.2.2
  have hw3 := hw.2.2.1
  refine J.iload_n g dX11_goes_0 rfl rfl ?_
  refine J.istore_n g dX11_goes_1 rfl rfl rfl ?_
  try dsimp only [List.set_cons_zero, List.set_cons_succ]
  have lp : ∀ (d : Nat) (k : Nat) (w1 : Nat → Nat), n - k < d → (p ≤ k ∧ k ≤ n - 1) → (∀ j, w1 j = if 5 + p ≤ j ∧ j < 5 + k then w (j + 1) else w j) → J γ l x [(mo, .inr (11, [.int mth, .ref mta, .int (nI mtd), .int (nI msz), .int (nI mto), .int (nI mfr), .int (nI mso), .int (nI mnu), .int (nI mfa), .int mfw, .int (nI mpl), .int (nI mro), .long mwd, .ref mnw, .ref mrd, .ref mkp, .ref msn, .ref mbf, .ref mlv, .ref mik, .int (nI msm), .ref msu, .ref mbe, .ref mfe, .ref mmy, .ref mof, .ref msf, .ref mlr, .ref mty, .ref mfm, .ref mrn, .ref mrb, .int (nI mln), .ref mtb, .int mse])), (mnw, .inl (γ.2 0, 17, .inl (fun j => nI (w1 j))))] [some (.ref mo), some (.int (nI p)), some (.int (nI k))] [] 0 0 2 := by
    intro d
    induction d with
    | zero => intro k w1 hm; exact absurd hm (Nat.not_lt_zero _)
    | succ d ih_lp =>
      intro k w1 hm hk h1
      have hwk : mPl n w1 := by unfold mPl; rw [h1, if_neg (by omega), hwg.2.2.2.1]; exact ⟨rfl, hwg.2.2.2.2.1⟩
      refine J.iload_n g dX11_goes_2 rfl rfl ?_
      refine J.iconstN g 1 dX11_goes_3 ?_
      refine J.iaddN g dX11_goes_4 ?_
      refine J.aload_n g dX11_goes_5 rfl rfl ?_
      refine J.callV0 g (c_X11_places_r l γ _ _ _ _ _ _ _ _ _ _ _ _ _ _ _ _ _ _ _ _ _ _ _ _ _ _ _ _ _ _ _ _ _ _ _ _ _ _ hwk) jy_X11_places lm_X11_190 (q0 := 0) rfl jX11.1 ⟨⟨Nat.le_of_ble_eq_true rfl, Nat.le_of_ble_eq_true rfl⟩, Nat.le_of_ble_eq_true rfl, Nat.le_of_ble_eq_true rfl⟩ (Nat.le_of_ble_eq_true rfl) rfl [0, 1] rfl rfl dX11_goes_6 ?_
      intro _ _
      dsimp only [jpush]
      refine J.icmp_geN g dX11_goes_9 (tgt := 36) (by decide) (by omega) (by omega) (fun c_9 => ?_) (fun c_9 => ?_)
      · refine J.aload_n g dX11_goes_36 rfl rfl ?_
        refine J.get g jX11 13 (by decide) lf_X11_85 0 rfl rfl dX11_goes_37 ?_
        refine J.iconstN g 4 dX11_goes_40 ?_
        refine J.dup2 g dX11_goes_41 rfl rfl ?_
        refine J.ialdN g 1 rfl (by omega) (by decide) dX11_goes_42 ?_
        refine J.iconstN g 1 dX11_goes_43 ?_
        refine J.isubN g dX11_goes_44 (by have := hwk.1; omega) ?_
        refine J.iastN g 1 rfl (by omega) (by decide) dX11_goes_45 ?_
        try dsimp only [List.set_cons_zero, List.set_cons_succ]
        rw [hwk.1]
        refine J.aload_n g dX11_goes_46 rfl rfl ?_
        refine J.get g jX11 13 (by decide) lf_X11_85 0 rfl rfl dX11_goes_47 ?_
        refine J.iconstN g 5 dX11_goes_50 ?_
        refine J.aload_n g dX11_goes_51 rfl rfl ?_
        refine J.callV0 g (c_X11_places_r l γ _ _ _ _ _ _ _ _ _ _ _ _ _ _ _ _ _ _ _ _ _ _ _ _ _ _ _ _ _ _ _ _ _ _ _ _ _ _ (by unfold mPl; rw [up_at]; exact ⟨rfl, by omega⟩)) jy_X11_places lm_X11_190 (q0 := 0) rfl jX11.1 ⟨⟨Nat.le_of_ble_eq_true rfl, Nat.le_of_ble_eq_true rfl⟩, Nat.le_of_ble_eq_true rfl, Nat.le_of_ble_eq_true rfl⟩ (Nat.le_of_ble_eq_true rfl) rfl [0, 1] rfl rfl dX11_goes_52 ?_
        intro _ _
        dsimp only [jpush]
        refine J.iaddN g dX11_goes_55 ?_
        refine J.iconstN g 0 dX11_goes_56 ?_
        refine J.iastN g 1 rfl (by omega) (by decide) dX11_goes_57 ?_
        try dsimp only [List.set_cons_zero, List.set_cons_succ]
        exact J.vret g hE _ rfl (mIs_go hw hp (fun j hj hj2 => by unfold va_up; rw [if_neg (by omega)]; by_cases z : j = 4; (· rw [if_pos z, if_pos z]); (· rw [if_neg z, if_neg z, h1]; by_cases q : 5 + p ≤ j; (· rw [if_pos (by omega), if_pos q]); (· rw [if_neg (by omega), if_neg q])))) rfl ⟨Nat.le_of_ble_eq_true rfl, Nat.le_of_ble_eq_true rfl⟩ dX11_goes_58
      · refine J.aload_n g dX11_goes_12 rfl rfl ?_
        refine J.get g jX11 13 (by decide) lf_X11_85 0 rfl rfl dX11_goes_13 ?_
        refine J.iconstN g 5 dX11_goes_16 ?_
        refine J.iload_n g dX11_goes_17 rfl rfl ?_
        refine J.iaddN g dX11_goes_18 ?_
        refine J.aload_n g dX11_goes_19 rfl rfl ?_
        refine J.get g jX11 13 (by decide) lf_X11_85 0 rfl rfl dX11_goes_20 ?_
        refine J.iconstN g 5 dX11_goes_23 ?_
        refine J.iload_n g dX11_goes_24 rfl rfl ?_
        refine J.iaddN g dX11_goes_25 ?_
        refine J.iconstN g 1 dX11_goes_26 ?_
        refine J.iaddN g dX11_goes_27 ?_
        refine J.ialdN g 1 rfl (by omega) (by decide) dX11_goes_28 ?_
        refine J.iastN g 1 rfl (by omega) (by decide) dX11_goes_29 ?_
        try dsimp only [List.set_cons_zero, List.set_cons_succ]
        refine J.iincN g 1 dX11_goes_30 rfl rfl ?_
        try dsimp only [List.set_cons_zero, List.set_cons_succ]
        refine J.goto g dX11_goes_33 (tgt := 2) (by decide) ?_
        exact J.lvle (jle_s (jle_s (jle_s jle_0))) (ih_lp (k + 1) _ (by omega) (by omega) (fun j => by unfold va_up; by_cases z : j = 5 + k; (· rw [if_pos z, h1, if_neg (by omega), if_pos (by omega), z]); (· rw [if_neg z, h1]; by_cases q : 5 + p ≤ j ∧ j < 5 + k; (· rw [if_pos q, if_pos (by omega)]); (· rw [if_neg q, if_neg (by omega)]))))
  exact J.lvle (jle_s (jle_s (jle_s jle_0))) (lp _ p w (Nat.lt_succ_self _) (by omega) (fun j => by rw [if_neg (by omega)]))
set_option maxHeartbeats 4000000 in
set_option maxRecDepth 100000 in
theorem c_X11_mayTimes (l : Launch) (γ : jγ) (mo mta mtd msz mto mfr mso mnu mfa mpl mro mnw mrd mkp msn mbf mlv mik msm msu mbe mfe mmy mof msf mlr mty mfm mrn mrb mln mtb : Nat) (mth mfw mse : Int32) (mwd : Int64) (cd n : Nat) (f w : Nat → Nat) (u9 : Int32) (hw : mIs cd n f w) : jM (S := Unit) l γ yX11_mayTimes cX11_mayTimes 2 (some .boolean) ({ frames := 47, cells := 0, slots := 0, locals := 1143 } : Room) [.ref mo, .int u9] [(mo, .inr (11, [.int mth, .ref mta, .int (nI mtd), .int (nI msz), .int (nI mto), .int (nI mfr), .int (nI mso), .int (nI mnu), .int (nI mfa), .int mfw, .int (nI mpl), .int (nI mro), .long mwd, .ref mnw, .ref mrd, .ref mkp, .ref msn, .ref mbf, .ref mlv, .ref mik, .int (nI msm), .ref msu, .ref mbe, .ref mfe, .ref mmy, .ref mof, .ref msf, .ref mlr, .ref mty, .ref mfm, .ref mrn, .ref mrb, .int (nI mln), .ref mtb, .int mse])), (mnw, .inl (γ.2 0, 17, .inl (fun j => nI (w j))))] (fun w0 => some (.int (jB (jcm (gex cd) n u9)))) (fun w0 => [(mo, .inr (11, [.int mth, .ref mta, .int (nI mtd), .int (nI msz), .int (nI mto), .int (nI mfr), .int (nI mso), .int (nI mnu), .int (nI mfa), .int mfw, .int (nI mpl), .int (nI mro), .long mwd, .ref mnw, .ref mrd, .ref mkp, .ref msn, .ref mbf, .ref mlv, .ref mik, .int (nI msm), .ref msu, .ref mbe, .ref mfe, .ref mmy, .ref mof, .ref msf, .ref mlr, .ref mty, .ref mfm, .ref mrn, .ref mrb, .int (nI mln), .ref mtb, .int mse])), (mnw, .inl (γ.2 0, 17, .inl (fun j => nI (w j))))]) (fun w0 => True) := by
  refine jM.of [some (.ref mo), some (.int u9)] rfl (Nat.le_of_ble_eq_true rfl) (by decide) ?_
  intro x g hE hin
  have hwg := hw.g
  have hw5 := hw.2.2.2.2.2.1
  have hwf := hw.2.2.2.2.2.2
  have hw3 := hw.2.2.1
  refine J.aload_n g dX11_mayTimes_0 rfl rfl ?_
  refine J.callV0 g (c_X11_places l γ _ _ _ _ _ _ _ _ _ _ _ _ _ _ _ _ _ _ _ _ _ _ _ _ _ _ _ _ _ _ _ _ _ _ _ _ _ _ _ _ hw) jy_X11_places lm_X11_190 (q0 := 0) rfl jX11.1 ⟨⟨Nat.le_of_ble_eq_true rfl, Nat.le_of_ble_eq_true rfl⟩, Nat.le_of_ble_eq_true rfl, Nat.le_of_ble_eq_true rfl⟩ (Nat.le_of_ble_eq_true rfl) rfl [0, 1] rfl rfl dX11_mayTimes_1 ?_
  intro _ _
  dsimp only [jpush]
  refine J.if_leN g dX11_mayTimes_4 (tgt := 33) (by decide) (by omega) (fun c_4 => ?_) (fun c_4 => ?_)
  · refine J.iconstN g 0 dX11_mayTimes_33 ?_
    exact J.zret (by first | rfl | exact j_nz _) g hE () (jB_f (by first | exact jcm_0 c_4 | exact jcm_m c_14 | (rw [jcm_n hn1 hk1 hk2, mjcm hn1 ⟨hk1, by omega⟩ ⟨hex, hwg.2.2.2.2.2⟩]; exact decide_eq_true (by rw [Nat.gcd_comm]; exact c_26)) | (rw [jcm_n hn1 hk1 hk2, mjcm hn1 ⟨hk1, by omega⟩ ⟨hex, hwg.2.2.2.2.2⟩]; exact decide_eq_false (fun z => c_26 (by rw [Nat.gcd_comm]; exact z))))) trivial rfl ⟨Nat.le_of_ble_eq_true rfl, Nat.le_of_ble_eq_true rfl⟩ dX11_mayTimes_34
  · have hn1 : 0 < n := by omega
    have hex : 1 ≤ gex cd := gex_pos cd hw.1 (fun z => by subst z; have h9 : god 0 = 0 := (by decide +kernel); have := hwf 0 hn1; omega)
    refine J.iload_n g dX11_mayTimes_7 rfl rfl ?_
    refine J.iconstN g 1 dX11_mayTimes_8 ?_
    refine J.bipush (v := nI 24) g dX11_mayTimes_9 (by decide +kernel) ?_
    refine J.callS0 g (c_X11_isIn l γ _ _ _ ) jy_X11_isIn lm_X11_157 ⟨⟨Nat.le_of_ble_eq_true rfl, Nat.le_of_ble_eq_true rfl⟩, Nat.le_of_ble_eq_true rfl, Nat.le_of_ble_eq_true rfl⟩ (Nat.le_of_ble_eq_true rfl) rfl [] rfl rfl dX11_mayTimes_11 ?_
    intro _ _
    dsimp only [jpush]
    refine J.if_eqB g dX11_mayTimes_14 (tgt := 33) (by decide) (fun c_14 => ?_) (fun c_14 => ?_)
    · refine J.iconstN g 0 dX11_mayTimes_33 ?_
      exact J.zret (by first | rfl | exact j_nz _) g hE () (jB_f (by first | exact jcm_0 c_4 | exact jcm_m c_14 | (rw [jcm_n hn1 hk1 hk2, mjcm hn1 ⟨hk1, by omega⟩ ⟨hex, hwg.2.2.2.2.2⟩]; exact decide_eq_true (by rw [Nat.gcd_comm]; exact c_26)) | (rw [jcm_n hn1 hk1 hk2, mjcm hn1 ⟨hk1, by omega⟩ ⟨hex, hwg.2.2.2.2.2⟩]; exact decide_eq_false (fun z => c_26 (by rw [Nat.gcd_comm]; exact z))))) trivial rfl ⟨Nat.le_of_ble_eq_true rfl, Nat.le_of_ble_eq_true rfl⟩ dX11_mayTimes_34
    · obtain ⟨k, hk1, hk2, rfl⟩ := mIn_k c_14
      refine J.iload_n g dX11_mayTimes_17 rfl rfl ?_
      refine J.aload_n g dX11_mayTimes_18 rfl rfl ?_
      refine J.callV0 g (c_X11_exponent l γ _ _ _ _ _ _ _ _ _ _ _ _ _ _ _ _ _ _ _ _ _ _ _ _ _ _ _ _ _ _ _ _ _ _ _ _ _ _ _ _ hw) jy_X11_exponent lm_X11_210 (q0 := 0) rfl jX11.1 ⟨⟨Nat.le_of_ble_eq_true rfl, Nat.le_of_ble_eq_true rfl⟩, Nat.le_of_ble_eq_true rfl, Nat.le_of_ble_eq_true rfl⟩ (Nat.le_of_ble_eq_true rfl) rfl [0, 1] rfl rfl dX11_mayTimes_19 ?_
      intro _ _
      dsimp only [jpush]
      refine J.callS0 g (c_X11_divisor l γ 40 k (gex cd) (by omega) (by omega) (by omega)) jy_X11_divisor lm_X11_197 ⟨⟨Nat.le_of_ble_eq_true rfl, Nat.le_of_ble_eq_true rfl⟩, Nat.le_of_ble_eq_true rfl, Nat.le_of_ble_eq_true rfl⟩ (Nat.le_of_ble_eq_true rfl) rfl [] rfl rfl dX11_mayTimes_22 ?_
      intro _ _
      dsimp only [jpush]
      have hgle := Nat.gcd_le_left k (show 0 < gex cd by omega)
      refine J.iconstN g 1 dX11_mayTimes_25 ?_
      refine J.icmp_neN g dX11_mayTimes_26 (tgt := 33) (by decide) (by omega) (by omega) (fun c_26 => ?_) (fun c_26 => ?_)
      · refine J.iconstN g 0 dX11_mayTimes_33 ?_
        exact J.zret (by first | rfl | exact j_nz _) g hE () (jB_f (by first | exact jcm_0 c_4 | exact jcm_m c_14 | (rw [jcm_n hn1 hk1 hk2, mjcm hn1 ⟨hk1, by omega⟩ ⟨hex, hwg.2.2.2.2.2⟩]; exact decide_eq_true (by rw [Nat.gcd_comm]; exact c_26)) | (rw [jcm_n hn1 hk1 hk2, mjcm hn1 ⟨hk1, by omega⟩ ⟨hex, hwg.2.2.2.2.2⟩]; exact decide_eq_false (fun z => c_26 (by rw [Nat.gcd_comm]; exact z))))) trivial rfl ⟨Nat.le_of_ble_eq_true rfl, Nat.le_of_ble_eq_true rfl⟩ dX11_mayTimes_34
      · refine J.iconstN g 1 dX11_mayTimes_29 ?_
        refine J.goto g dX11_mayTimes_30 (tgt := 34) (by decide) ?_
        exact J.zret (by first | rfl | exact j_nz _) g hE () (jB_t (by first | exact jcm_0 c_4 | exact jcm_m c_14 | (rw [jcm_n hn1 hk1 hk2, mjcm hn1 ⟨hk1, by omega⟩ ⟨hex, hwg.2.2.2.2.2⟩]; exact decide_eq_true (by rw [Nat.gcd_comm]; exact c_26)) | (rw [jcm_n hn1 hk1 hk2, mjcm hn1 ⟨hk1, by omega⟩ ⟨hex, hwg.2.2.2.2.2⟩]; exact decide_eq_false (fun z => c_26 (by rw [Nat.gcd_comm]; exact z))))) trivial rfl ⟨Nat.le_of_ble_eq_true rfl, Nat.le_of_ble_eq_true rfl⟩ dX11_mayTimes_34
set_option maxHeartbeats 4000000 in
set_option maxRecDepth 100000 in
theorem c_X11_multiplies (l : Launch) (γ : jγ) (mo mta mtd msz mto mfr mso mnu mfa mpl mro mnw mrd mkp msn mbf mlv mik msm msu mbe mfe mmy mof msf mlr mty mfm mrn mrb mln mtb : Nat) (mth mfw mse : Int32) (mwd : Int64) (cd n : Nat) (f w : Nat → Nat) (u9 : Nat) (hw : mIs cd n f w) (hu : u9 < 2 ^ 10) : jM (S := Nat → Nat) l γ yX11_multiplies cX11_multiplies 3 none ({ frames := 2, cells := 0, slots := 0, locals := 52 } : Room) [.ref mo, .int (nI u9)] [(mo, .inr (11, [.int mth, .ref mta, .int (nI mtd), .int (nI msz), .int (nI mto), .int (nI mfr), .int (nI mso), .int (nI mnu), .int (nI mfa), .int mfw, .int (nI mpl), .int (nI mro), .long mwd, .ref mnw, .ref mrd, .ref mkp, .ref msn, .ref mbf, .ref mlv, .ref mik, .int (nI msm), .ref msu, .ref mbe, .ref mfe, .ref mmy, .ref mof, .ref msf, .ref mlr, .ref mty, .ref mfm, .ref mrn, .ref mrb, .int (nI mln), .ref mtb, .int mse])), (mnw, .inl (γ.2 0, 17, .inl (fun j => nI (w j))))] (fun u => none) (fun u => [(mo, .inr (11, [.int mth, .ref mta, .int (nI mtd), .int (nI msz), .int (nI mto), .int (nI mfr), .int (nI mso), .int (nI mnu), .int (nI mfa), .int mfw, .int (nI mpl), .int (nI mro), .long mwd, .ref mnw, .ref mrd, .ref mkp, .ref msn, .ref mbf, .ref mlv, .ref mik, .int (nI msm), .ref msu, .ref mbe, .ref mfe, .ref mmy, .ref mof, .ref msf, .ref mlr, .ref mty, .ref mfm, .ref mrn, .ref mrb, .int (nI mln), .ref mtb, .int mse])), (mnw, .inl (γ.2 0, 17, .inl (fun j => nI (u j))))]) (fun u => mIs cd n (fun j => jmul (god cd) (jmf cd) (f j) u9) u) := by
  refine jM.of [some (.ref mo), some (.int (nI u9)), none] rfl (Nat.le_of_ble_eq_true rfl) (by decide) ?_
  intro x g hE hin
  have hwg := hw.g
  have hw5 := hw.2.2.2.2.2.1
  have hwf := hw.2.2.2.2.2.2
  have hw3 := hw.2.2.1
  refine J.iconstN g 0 dX11_multiplies_0 ?_
  refine J.istore_n g dX11_multiplies_1 rfl rfl rfl ?_
  try dsimp only [List.set_cons_zero, List.set_cons_succ]
  have lp : ∀ (d : Nat) (k : Nat) (w1 : Nat → Nat), n - k < d → (k ≤ n) → (∀ j, w1 j = if 5 ≤ j ∧ j < 5 + k then jmul (god cd) (jmf cd) (f (j - 5)) u9 else w j) → J γ l x [(mo, .inr (11, [.int mth, .ref mta, .int (nI mtd), .int (nI msz), .int (nI mto), .int (nI mfr), .int (nI mso), .int (nI mnu), .int (nI mfa), .int mfw, .int (nI mpl), .int (nI mro), .long mwd, .ref mnw, .ref mrd, .ref mkp, .ref msn, .ref mbf, .ref mlv, .ref mik, .int (nI msm), .ref msu, .ref mbe, .ref mfe, .ref mmy, .ref mof, .ref msf, .ref mlr, .ref mty, .ref mfm, .ref mrn, .ref mrb, .int (nI mln), .ref mtb, .int mse])), (mnw, .inl (γ.2 0, 17, .inl (fun j => nI (w1 j))))] [some (.ref mo), some (.int (nI u9)), some (.int (nI k))] [] 0 0 2 := by
    intro d
    induction d with
    | zero => intro k w1 hm; exact absurd hm (Nat.not_lt_zero _)
    | succ d ih_lp =>
      intro k w1 hm hk h1
      have hwk : mPl n w1 := by unfold mPl; rw [h1, if_neg (by omega), hwg.2.2.2.1]; exact ⟨rfl, hwg.2.2.2.2.1⟩
      have hmk : mIs cd n (fun j => if j < k then jmul (god cd) (jmf cd) (f j) u9 else f j) w1 := mIs_row hw (fun j hj => by show (if j < k then _ else _) < _; split; (· exact jmul_lt hw.1 (hwf j hj) u9); (· exact hwf j hj)) (fun j _ hj => by rw [h1]; by_cases q : 5 ≤ j; (· rw [if_pos q]; show _ = if j - 5 < k then _ else _; by_cases r : j - 5 < k; (· rw [if_pos r, if_pos (by omega)]); (· rw [if_neg r, if_neg (by omega), ← hw5 (j - 5) (by omega), show 5 + (j - 5) = j by omega])); (· rw [if_neg q, if_neg (by omega)]))
      refine J.iload_n g dX11_multiplies_2 rfl rfl ?_
      refine J.aload_n g dX11_multiplies_3 rfl rfl ?_
      refine J.callV0 g (c_X11_places_r l γ _ _ _ _ _ _ _ _ _ _ _ _ _ _ _ _ _ _ _ _ _ _ _ _ _ _ _ _ _ _ _ _ _ _ _ _ _ _ hwk) jy_X11_places lm_X11_190 (q0 := 0) rfl jX11.1 ⟨⟨Nat.le_of_ble_eq_true rfl, Nat.le_of_ble_eq_true rfl⟩, Nat.le_of_ble_eq_true rfl, Nat.le_of_ble_eq_true rfl⟩ (Nat.le_of_ble_eq_true rfl) rfl [0, 1] rfl rfl dX11_multiplies_4 ?_
      intro _ _
      dsimp only [jpush]
      refine J.icmp_geN g dX11_multiplies_7 (tgt := 37) (by decide) (by omega) (by omega) (fun c_7 => ?_) (fun c_7 => ?_)
      · exact J.vret g hE w1 rfl (mIs_f hmk (fun j hj => (if_pos (show j < k by omega)).symm)) rfl ⟨Nat.le_of_ble_eq_true rfl, Nat.le_of_ble_eq_true rfl⟩ dX11_multiplies_37
      · refine J.aload_n g dX11_multiplies_10 rfl rfl ?_
        refine J.get g jX11 13 (by decide) lf_X11_85 0 rfl rfl dX11_multiplies_11 ?_
        refine J.iconstN g 5 dX11_multiplies_14 ?_
        refine J.iload_n g dX11_multiplies_15 rfl rfl ?_
        refine J.iaddN g dX11_multiplies_16 ?_
        refine J.aload_n g dX11_multiplies_17 rfl rfl ?_
        refine J.aload_n g dX11_multiplies_18 rfl rfl ?_
        refine J.get g jX11 13 (by decide) lf_X11_85 0 rfl rfl dX11_multiplies_19 ?_
        refine J.iconstN g 5 dX11_multiplies_22 ?_
        refine J.iload_n g dX11_multiplies_23 rfl rfl ?_
        refine J.iaddN g dX11_multiplies_24 ?_
        refine J.ialdN g 1 rfl (by omega) (by decide) dX11_multiplies_25 ?_
        rw [show w1 (5 + k) = f k by rw [h1, if_neg (by omega), hw5 k (by omega)]]
        refine J.iload_n g dX11_multiplies_26 rfl rfl ?_
        refine J.callV0 g (c_X11_often l γ _ _ _ _ _ _ _ _ _ _ _ _ _ _ _ _ _ _ _ _ _ _ _ _ _ _ _ _ _ _ _ _ _ _ _ _ _ _ _ _ _ _ hmk (hwf k (by omega)) (by omega)) jy_X11_often lm_X11_249 (q0 := 0) rfl jX11.1 ⟨⟨Nat.le_of_ble_eq_true rfl, Nat.le_of_ble_eq_true rfl⟩, Nat.le_of_ble_eq_true rfl, Nat.le_of_ble_eq_true rfl⟩ (Nat.le_of_ble_eq_true rfl) rfl [0, 1] rfl rfl dX11_multiplies_27 ?_
        intro _ _
        dsimp only [jpush]
        refine J.iastN g 1 rfl (by omega) (by decide) dX11_multiplies_30 ?_
        try dsimp only [List.set_cons_zero, List.set_cons_succ]
        refine J.iincN g 1 dX11_multiplies_31 rfl rfl ?_
        try dsimp only [List.set_cons_zero, List.set_cons_succ]
        refine J.goto g dX11_multiplies_34 (tgt := 2) (by decide) ?_
        exact J.lvle (jle_s (jle_s (jle_s jle_0))) (ih_lp (k + 1) _ (by omega) (by omega) (fun j => by unfold va_up; by_cases z : j = 5 + k; (· rw [if_pos z, if_pos (by omega), show j - 5 = k by omega]); (· rw [if_neg z, h1]; by_cases q : 5 ≤ j ∧ j < 5 + k; (· rw [if_pos q, if_pos (by omega)]); (· rw [if_neg q, if_neg (by omega)]))))
  exact J.lvle (jle_s (jle_s (jle_s jle_0))) (lp _ 0 w (Nat.lt_succ_self _) (by omega) (fun j => by rw [if_neg (by omega)]))
set_option maxHeartbeats 4000000 in
set_option maxRecDepth 100000 in
theorem c_X11_come_yes (l : Launch) (γ : jγ) (mo mta mtd msz mto mfr mso mnu mfa mpl mro mnw mrd mkp msn mbf mlv mik msm msu mbe mfe mmy mof msf mlr mty mfm mrn mrb mln mtb : Nat) (mth mfw mse : Int32) (mwd : Int64) (cd n : Nat) (f w : Nat → Nat) (SS : Nat → Nat) (a : Nat) (hw : mIs cd n f w) (hm8 : msm ≤ 8) (ha : a < god cd) (hn : n < 12) : jM (S := (Nat → Nat) × (Nat → Nat)) l γ yX11_come cX11_come 2 (some .int) ({ frames := 3, cells := 0, slots := 0, locals := 63 } : Room) [.ref mo, .int (nI a)] [(mo, .inr (11, [.int mth, .ref mta, .int (nI mtd), .int (nI msz), .int (nI mto), .int (nI mfr), .int (nI mso), .int (nI mnu), .int (nI mfa), .int mfw, .int (nI mpl), .int (nI mro), .long mwd, .ref mnw, .ref mrd, .ref mkp, .ref msn, .ref mbf, .ref mlv, .ref mik, .int (nI msm), .ref msu, .ref mbe, .ref mfe, .ref mmy, .ref mof, .ref msf, .ref mlr, .ref mty, .ref mfm, .ref mrn, .ref mrb, .int (nI mln), .ref mtb, .int mse])), (mnw, .inl (γ.2 0, 17, .inl (fun j => nI (w j)))), (msn, .inl (γ.2 0, 136, .inl (fun j => nI (SS j))))] (fun u => some (.int (nI (n + 1)))) (fun u => [(mo, .inr (11, [.int (nI 0), .ref mta, .int (nI mtd), .int (nI msz), .int (nI mto), .int (nI mfr), .int (nI mso), .int (nI mnu), .int (nI mfa), .int mfw, .int (nI mpl), .int (nI mro), .long mwd, .ref mnw, .ref mrd, .ref mkp, .ref msn, .ref mbf, .ref mlv, .ref mik, .int (nI (if msm = 8 then 8 else msm + 1)), .ref msu, .ref mbe, .ref mfe, .ref mmy, .ref mof, .ref msf, .ref mlr, .ref mty, .ref mfm, .ref mrn, .ref mrb, .int (nI mln), .ref mtb, .int mse])), (mnw, .inl (γ.2 0, 17, .inl (fun j => nI (u.1 j)))), (msn, .inl (γ.2 0, 136, .inl (fun j => nI (u.2 j))))]) (fun u => mIs cd (n + 1) (va_up f n a) u.1 ∧ msnp SS w msm u.2) := by
  refine jM.of [some (.ref mo), some (.int (nI a))] rfl (Nat.le_of_ble_eq_true rfl) (by decide) ?_
  intro x g hE hin
  have hwg := hw.g
  have hw5 := hw.2.2.2.2.2.1
  have hwf := hw.2.2.2.2.2.2
  have hw3 := hw.2.2.1
  refine J.aload_n g dX11_come_0 rfl rfl ?_
  refine J.iconstN g 0 dX11_come_1 ?_
  refine J.put g jX11 0 (by decide) lf_X11_1 0 rfl rfl (Nat.le_of_ble_eq_true rfl) rfl rfl dX11_come_2 ?_
  try dsimp only [List.set_cons_zero, List.set_cons_succ]
  refine J.aload_n g dX11_come_5 rfl rfl ?_
  refine J.iload_n g dX11_come_6 rfl rfl ?_
  refine J.callV0 g (c_X11_isElement l γ _ _ _ _ _ _ _ _ _ _ _ _ _ _ _ _ _ _ _ _ _ _ _ _ _ _ _ _ _ _ _ _ _ _ _ _ _ _ _ _ _ hw) jy_X11_isElement lm_X11_219 (q0 := 0) rfl jX11.1 ⟨⟨Nat.le_of_ble_eq_true rfl, Nat.le_of_ble_eq_true rfl⟩, Nat.le_of_ble_eq_true rfl, Nat.le_of_ble_eq_true rfl⟩ (Nat.le_of_ble_eq_true rfl) rfl [0, 1] rfl rfl dX11_come_7 ?_
  intro _ _
  dsimp only [jpush]
  refine J.if_eqB g dX11_come_10 (tgt := 22) (by decide) (fun c_10 => absurd c_10 (by rw [jhas_n _ (by omega), decide_eq_true ha] at c_10; cases c_10)) (fun c_10 => ?_)
  refine J.aload_n g dX11_come_13 rfl rfl ?_
  refine J.callV0 g (c_X11_places l γ _ _ _ _ _ _ _ _ _ _ _ _ _ _ _ _ _ _ _ _ _ _ _ _ _ _ _ _ _ _ _ _ _ _ _ _ _ _ _ _ hw) jy_X11_places lm_X11_190 (q0 := 0) rfl jX11.1 ⟨⟨Nat.le_of_ble_eq_true rfl, Nat.le_of_ble_eq_true rfl⟩, Nat.le_of_ble_eq_true rfl, Nat.le_of_ble_eq_true rfl⟩ (Nat.le_of_ble_eq_true rfl) rfl [0, 1] rfl rfl dX11_come_14 ?_
  intro _ _
  dsimp only [jpush]
  refine J.bipush (v := nI 12) g dX11_come_17 (by decide +kernel) ?_
  refine J.icmp_neN g dX11_come_19 (tgt := 24) (by decide) (by omega) (by omega) (fun c_19 => ?_) (fun c_19 => absurd c_19 (by omega))
  refine J.aload_n g dX11_come_24 rfl rfl ?_
  refine J.callV g (c_X11_snap l γ _ _ _ _ _ _ _ _ _ _ _ _ _ _ _ _ _ _ _ _ _ _ _ _ _ _ _ _ _ _ _ _ _ _ _ _ _ _ hm8) jy_X11_snap lm_X11_276 (q0 := 0) rfl jX11.1 ⟨⟨Nat.le_of_ble_eq_true rfl, Nat.le_of_ble_eq_true rfl⟩, Nat.le_of_ble_eq_true rfl, Nat.le_of_ble_eq_true rfl⟩ (Nat.le_of_ble_eq_true rfl) rfl [0, 1, 2] rfl (fun _ => rfl) rfl dX11_come_25 ?_
  intro u_25 h_25
  dsimp only [jput, List.set_cons_zero, List.set_cons_succ, Option.toList, List.append, List.cons_append, List.nil_append, List.append_nil]
  refine J.aload_n g dX11_come_28 rfl rfl ?_
  refine J.iload_n g dX11_come_29 rfl rfl ?_
  refine J.callV g (c_X11_comes l γ _ _ _ _ _ _ _ _ _ _ _ _ _ _ _ _ _ _ _ _ _ _ _ _ _ _ _ _ _ _ _ _ _ _ _ _ _ _ _ _ _ hw hn ha) jy_X11_comes lm_X11_279 (q0 := 0) rfl jX11.1 ⟨⟨Nat.le_of_ble_eq_true rfl, Nat.le_of_ble_eq_true rfl⟩, Nat.le_of_ble_eq_true rfl, Nat.le_of_ble_eq_true rfl⟩ (Nat.le_of_ble_eq_true rfl) rfl [0, 1] rfl (fun _ => rfl) rfl dX11_come_30 ?_
  intro u_30 h_30
  dsimp only [jput, List.set_cons_zero, List.set_cons_succ, Option.toList, List.append, List.cons_append, List.nil_append, List.append_nil]
  refine J.aload_n g dX11_come_33 rfl rfl ?_
  refine J.callV0 g (c_X11_places l γ _ _ _ _ _ _ _ _ _ _ _ _ _ _ _ _ _ _ _ _ _ _ _ _ _ _ _ _ _ _ _ _ _ _ _ _ _ _ _ _ h_30) jy_X11_places lm_X11_190 (q0 := 0) rfl jX11.1 ⟨⟨Nat.le_of_ble_eq_true rfl, Nat.le_of_ble_eq_true rfl⟩, Nat.le_of_ble_eq_true rfl, Nat.le_of_ble_eq_true rfl⟩ (Nat.le_of_ble_eq_true rfl) rfl [0, 1] rfl rfl dX11_come_34 ?_
  intro _ _
  dsimp only [jpush]
  exact J.iret g hE (u_30, u_25) rfl ⟨h_30, h_25⟩ rfl ⟨Nat.le_of_ble_eq_true rfl, Nat.le_of_ble_eq_true rfl⟩ dX11_come_37
set_option maxHeartbeats 4000000 in
set_option maxRecDepth 100000 in
theorem c_X11_come_no (l : Launch) (γ : jγ) (mo mta mtd msz mto mfr mso mnu mfa mpl mro mnw mrd mkp msn mbf mlv mik msm msu mbe mfe mmy mof msf mlr mty mfm mrn mrb mln mtb : Nat) (mth mfw mse : Int32) (mwd : Int64) (cd n : Nat) (f w : Nat → Nat) (a : Int32) (hw : mIs cd n f w) (hi : jhas a (god cd) = false ∨ n = 12) : jM (S := Unit) l γ yX11_come cX11_come 2 (some .int) ({ frames := 3, cells := 0, slots := 0, locals := 63 } : Room) [.ref mo, .int a] [(mo, .inr (11, [.int mth, .ref mta, .int (nI mtd), .int (nI msz), .int (nI mto), .int (nI mfr), .int (nI mso), .int (nI mnu), .int (nI mfa), .int mfw, .int (nI mpl), .int (nI mro), .long mwd, .ref mnw, .ref mrd, .ref mkp, .ref msn, .ref mbf, .ref mlv, .ref mik, .int (nI msm), .ref msu, .ref mbe, .ref mfe, .ref mmy, .ref mof, .ref msf, .ref mlr, .ref mty, .ref mfm, .ref mrn, .ref mrb, .int (nI mln), .ref mtb, .int mse])), (mnw, .inl (γ.2 0, 17, .inl (fun j => nI (w j))))] (fun w0 => some (.int (-1))) (fun w0 => [(mo, .inr (11, [.int (nI 0), .ref mta, .int (nI mtd), .int (nI msz), .int (nI mto), .int (nI mfr), .int (nI mso), .int (nI mnu), .int (nI mfa), .int mfw, .int (nI mpl), .int (nI mro), .long mwd, .ref mnw, .ref mrd, .ref mkp, .ref msn, .ref mbf, .ref mlv, .ref mik, .int (nI msm), .ref msu, .ref mbe, .ref mfe, .ref mmy, .ref mof, .ref msf, .ref mlr, .ref mty, .ref mfm, .ref mrn, .ref mrb, .int (nI mln), .ref mtb, .int mse])), (mnw, .inl (γ.2 0, 17, .inl (fun j => nI (w j))))]) (fun w0 => True) := by
  refine jM.of [some (.ref mo), some (.int a)] rfl (Nat.le_of_ble_eq_true rfl) (by decide) ?_
  intro x g hE hin
  have hwg := hw.g
  have hw5 := hw.2.2.2.2.2.1
  have hwf := hw.2.2.2.2.2.2
  have hw3 := hw.2.2.1
  refine J.aload_n g dX11_come_0 rfl rfl ?_
  refine J.iconstN g 0 dX11_come_1 ?_
  refine J.put g jX11 0 (by decide) lf_X11_1 0 rfl rfl (Nat.le_of_ble_eq_true rfl) rfl rfl dX11_come_2 ?_
  try dsimp only [List.set_cons_zero, List.set_cons_succ]
  refine J.aload_n g dX11_come_5 rfl rfl ?_
  refine J.iload_n g dX11_come_6 rfl rfl ?_
  refine J.callV0 g (c_X11_isElement l γ _ _ _ _ _ _ _ _ _ _ _ _ _ _ _ _ _ _ _ _ _ _ _ _ _ _ _ _ _ _ _ _ _ _ _ _ _ _ _ _ _ hw) jy_X11_isElement lm_X11_219 (q0 := 0) rfl jX11.1 ⟨⟨Nat.le_of_ble_eq_true rfl, Nat.le_of_ble_eq_true rfl⟩, Nat.le_of_ble_eq_true rfl, Nat.le_of_ble_eq_true rfl⟩ (Nat.le_of_ble_eq_true rfl) rfl [0, 1] rfl rfl dX11_come_7 ?_
  intro _ _
  dsimp only [jpush]
  refine J.if_eqB g dX11_come_10 (tgt := 22) (by decide) (fun c_10 => ?_) (fun c_10 => ?_)
  · refine J.iconst (v := -1) g dX11_come_22 (by decide) ?_
    exact J.iret g hE () rfl trivial rfl ⟨Nat.le_of_ble_eq_true rfl, Nat.le_of_ble_eq_true rfl⟩ dX11_come_23
  · refine J.aload_n g dX11_come_13 rfl rfl ?_
    refine J.callV0 g (c_X11_places l γ _ _ _ _ _ _ _ _ _ _ _ _ _ _ _ _ _ _ _ _ _ _ _ _ _ _ _ _ _ _ _ _ _ _ _ _ _ _ _ _ hw) jy_X11_places lm_X11_190 (q0 := 0) rfl jX11.1 ⟨⟨Nat.le_of_ble_eq_true rfl, Nat.le_of_ble_eq_true rfl⟩, Nat.le_of_ble_eq_true rfl, Nat.le_of_ble_eq_true rfl⟩ (Nat.le_of_ble_eq_true rfl) rfl [0, 1] rfl rfl dX11_come_14 ?_
    intro _ _
    dsimp only [jpush]
    refine J.bipush (v := nI 12) g dX11_come_17 (by decide +kernel) ?_
    refine J.icmp_neN g dX11_come_19 (tgt := 24) (by decide) (by omega) (by omega) (fun c_19 => absurd c_19 (fun z => hi.elim (fun q => by rw [q] at c_10; cases c_10) z)) (fun c_19 => ?_)
    refine J.iconst (v := -1) g dX11_come_22 (by decide) ?_
    exact J.iret g hE () rfl trivial rfl ⟨Nat.le_of_ble_eq_true rfl, Nat.le_of_ble_eq_true rfl⟩ dX11_come_23
set_option maxHeartbeats 4000000 in
set_option maxRecDepth 100000 in
theorem c_X11_go_yes (l : Launch) (γ : jγ) (mo mta mtd msz mto mfr mso mnu mfa mpl mro mnw mrd mkp msn mbf mlv mik msm msu mbe mfe mmy mof msf mlr mty mfm mrn mrb mln mtb : Nat) (mth mfw mse : Int32) (mwd : Int64) (cd n : Nat) (f w : Nat → Nat) (SS : Nat → Nat) (p : Nat) (hw : mIs cd n f w) (hm8 : msm ≤ 8) (hp : p < n) : jM (S := (Nat → Nat) × (Nat → Nat)) l γ yX11_go cX11_go 2 (some .int) ({ frames := 2, cells := 0, slots := 0, locals := 45 } : Room) [.ref mo, .int (nI p)] [(mo, .inr (11, [.int mth, .ref mta, .int (nI mtd), .int (nI msz), .int (nI mto), .int (nI mfr), .int (nI mso), .int (nI mnu), .int (nI mfa), .int mfw, .int (nI mpl), .int (nI mro), .long mwd, .ref mnw, .ref mrd, .ref mkp, .ref msn, .ref mbf, .ref mlv, .ref mik, .int (nI msm), .ref msu, .ref mbe, .ref mfe, .ref mmy, .ref mof, .ref msf, .ref mlr, .ref mty, .ref mfm, .ref mrn, .ref mrb, .int (nI mln), .ref mtb, .int mse])), (mnw, .inl (γ.2 0, 17, .inl (fun j => nI (w j)))), (msn, .inl (γ.2 0, 136, .inl (fun j => nI (SS j))))] (fun u => some (.int (nI (n - 1)))) (fun u => [(mo, .inr (11, [.int (nI 0), .ref mta, .int (nI mtd), .int (nI msz), .int (nI mto), .int (nI mfr), .int (nI mso), .int (nI mnu), .int (nI mfa), .int mfw, .int (nI mpl), .int (nI mro), .long mwd, .ref mnw, .ref mrd, .ref mkp, .ref msn, .ref mbf, .ref mlv, .ref mik, .int (nI (if msm = 8 then 8 else msm + 1)), .ref msu, .ref mbe, .ref mfe, .ref mmy, .ref mof, .ref msf, .ref mlr, .ref mty, .ref mfm, .ref mrn, .ref mrb, .int (nI mln), .ref mtb, .int mse])), (mnw, .inl (γ.2 0, 17, .inl (fun j => nI (u.1 j)))), (msn, .inl (γ.2 0, 136, .inl (fun j => nI (u.2 j))))]) (fun u => mIs cd (n - 1) (fun j => if p ≤ j ∧ j < n - 1 then f (j + 1) else f j) u.1 ∧ msnp SS w msm u.2) := by
  refine jM.of [some (.ref mo), some (.int (nI p))] rfl (Nat.le_of_ble_eq_true rfl) (by decide) ?_
  intro x g hE hin
  have hwg := hw.g
  have hw5 := hw.2.2.2.2.2.1
  have hwf := hw.2.2.2.2.2.2
  have hw3 := hw.2.2.1
  refine J.aload_n g dX11_go_0 rfl rfl ?_
  refine J.iconstN g 0 dX11_go_1 ?_
  refine J.put g jX11 0 (by decide) lf_X11_1 0 rfl rfl (Nat.le_of_ble_eq_true rfl) rfl rfl dX11_go_2 ?_
  try dsimp only [List.set_cons_zero, List.set_cons_succ]
  refine J.aload_n g dX11_go_5 rfl rfl ?_
  refine J.iload_n g dX11_go_6 rfl rfl ?_
  refine J.callV0 g (c_X11_isPlace l γ _ _ _ _ _ _ _ _ _ _ _ _ _ _ _ _ _ _ _ _ _ _ _ _ _ _ _ _ _ _ _ _ _ _ _ _ _ _ _ _ _ hw) jy_X11_isPlace lm_X11_216 (q0 := 0) rfl jX11.1 ⟨⟨Nat.le_of_ble_eq_true rfl, Nat.le_of_ble_eq_true rfl⟩, Nat.le_of_ble_eq_true rfl, Nat.le_of_ble_eq_true rfl⟩ (Nat.le_of_ble_eq_true rfl) rfl [0, 1] rfl rfl dX11_go_7 ?_
  intro _ _
  dsimp only [jpush]
  refine J.if_neB g dX11_go_10 (tgt := 15) (by decide) (fun c_10 => ?_) (fun c_10 => absurd c_10 (by rw [jhas_n _ (by omega), decide_eq_true hp] at c_10; cases c_10))
  refine J.aload_n g dX11_go_15 rfl rfl ?_
  refine J.callV g (c_X11_snap l γ _ _ _ _ _ _ _ _ _ _ _ _ _ _ _ _ _ _ _ _ _ _ _ _ _ _ _ _ _ _ _ _ _ _ _ _ _ _ hm8) jy_X11_snap lm_X11_276 (q0 := 0) rfl jX11.1 ⟨⟨Nat.le_of_ble_eq_true rfl, Nat.le_of_ble_eq_true rfl⟩, Nat.le_of_ble_eq_true rfl, Nat.le_of_ble_eq_true rfl⟩ (Nat.le_of_ble_eq_true rfl) rfl [0, 1, 2] rfl (fun _ => rfl) rfl dX11_go_16 ?_
  intro u_16 h_16
  dsimp only [jput, List.set_cons_zero, List.set_cons_succ, Option.toList, List.append, List.cons_append, List.nil_append, List.append_nil]
  refine J.aload_n g dX11_go_19 rfl rfl ?_
  refine J.iload_n g dX11_go_20 rfl rfl ?_
  refine J.callV g (c_X11_goes l γ _ _ _ _ _ _ _ _ _ _ _ _ _ _ _ _ _ _ _ _ _ _ _ _ _ _ _ _ _ _ _ _ _ _ _ _ _ _ _ _ _ hw hp) jy_X11_goes lm_X11_282 (q0 := 0) rfl jX11.1 ⟨⟨Nat.le_of_ble_eq_true rfl, Nat.le_of_ble_eq_true rfl⟩, Nat.le_of_ble_eq_true rfl, Nat.le_of_ble_eq_true rfl⟩ (Nat.le_of_ble_eq_true rfl) rfl [0, 1] rfl (fun _ => rfl) rfl dX11_go_21 ?_
  intro u_21 h_21
  dsimp only [jput, List.set_cons_zero, List.set_cons_succ, Option.toList, List.append, List.cons_append, List.nil_append, List.append_nil]
  refine J.aload_n g dX11_go_24 rfl rfl ?_
  refine J.callV0 g (c_X11_places l γ _ _ _ _ _ _ _ _ _ _ _ _ _ _ _ _ _ _ _ _ _ _ _ _ _ _ _ _ _ _ _ _ _ _ _ _ _ _ _ _ h_21) jy_X11_places lm_X11_190 (q0 := 0) rfl jX11.1 ⟨⟨Nat.le_of_ble_eq_true rfl, Nat.le_of_ble_eq_true rfl⟩, Nat.le_of_ble_eq_true rfl, Nat.le_of_ble_eq_true rfl⟩ (Nat.le_of_ble_eq_true rfl) rfl [0, 1] rfl rfl dX11_go_25 ?_
  intro _ _
  dsimp only [jpush]
  exact J.iret g hE (u_21, u_16) rfl ⟨h_21, h_16⟩ rfl ⟨Nat.le_of_ble_eq_true rfl, Nat.le_of_ble_eq_true rfl⟩ dX11_go_28
set_option maxHeartbeats 4000000 in
set_option maxRecDepth 100000 in
theorem c_X11_go_no (l : Launch) (γ : jγ) (mo mta mtd msz mto mfr mso mnu mfa mpl mro mnw mrd mkp msn mbf mlv mik msm msu mbe mfe mmy mof msf mlr mty mfm mrn mrb mln mtb : Nat) (mth mfw mse : Int32) (mwd : Int64) (cd n : Nat) (f w : Nat → Nat) (a : Int32) (hw : mIs cd n f w) (hi : jhas a n = false) : jM (S := Unit) l γ yX11_go cX11_go 2 (some .int) ({ frames := 2, cells := 0, slots := 0, locals := 45 } : Room) [.ref mo, .int a] [(mo, .inr (11, [.int mth, .ref mta, .int (nI mtd), .int (nI msz), .int (nI mto), .int (nI mfr), .int (nI mso), .int (nI mnu), .int (nI mfa), .int mfw, .int (nI mpl), .int (nI mro), .long mwd, .ref mnw, .ref mrd, .ref mkp, .ref msn, .ref mbf, .ref mlv, .ref mik, .int (nI msm), .ref msu, .ref mbe, .ref mfe, .ref mmy, .ref mof, .ref msf, .ref mlr, .ref mty, .ref mfm, .ref mrn, .ref mrb, .int (nI mln), .ref mtb, .int mse])), (mnw, .inl (γ.2 0, 17, .inl (fun j => nI (w j))))] (fun w0 => some (.int (-1))) (fun w0 => [(mo, .inr (11, [.int (nI 0), .ref mta, .int (nI mtd), .int (nI msz), .int (nI mto), .int (nI mfr), .int (nI mso), .int (nI mnu), .int (nI mfa), .int mfw, .int (nI mpl), .int (nI mro), .long mwd, .ref mnw, .ref mrd, .ref mkp, .ref msn, .ref mbf, .ref mlv, .ref mik, .int (nI msm), .ref msu, .ref mbe, .ref mfe, .ref mmy, .ref mof, .ref msf, .ref mlr, .ref mty, .ref mfm, .ref mrn, .ref mrb, .int (nI mln), .ref mtb, .int mse])), (mnw, .inl (γ.2 0, 17, .inl (fun j => nI (w j))))]) (fun w0 => True) := by
  refine jM.of [some (.ref mo), some (.int a)] rfl (Nat.le_of_ble_eq_true rfl) (by decide) ?_
  intro x g hE hin
  have hwg := hw.g
  have hw5 := hw.2.2.2.2.2.1
  have hwf := hw.2.2.2.2.2.2
  have hw3 := hw.2.2.1
  refine J.aload_n g dX11_go_0 rfl rfl ?_
  refine J.iconstN g 0 dX11_go_1 ?_
  refine J.put g jX11 0 (by decide) lf_X11_1 0 rfl rfl (Nat.le_of_ble_eq_true rfl) rfl rfl dX11_go_2 ?_
  try dsimp only [List.set_cons_zero, List.set_cons_succ]
  refine J.aload_n g dX11_go_5 rfl rfl ?_
  refine J.iload_n g dX11_go_6 rfl rfl ?_
  refine J.callV0 g (c_X11_isPlace l γ _ _ _ _ _ _ _ _ _ _ _ _ _ _ _ _ _ _ _ _ _ _ _ _ _ _ _ _ _ _ _ _ _ _ _ _ _ _ _ _ _ hw) jy_X11_isPlace lm_X11_216 (q0 := 0) rfl jX11.1 ⟨⟨Nat.le_of_ble_eq_true rfl, Nat.le_of_ble_eq_true rfl⟩, Nat.le_of_ble_eq_true rfl, Nat.le_of_ble_eq_true rfl⟩ (Nat.le_of_ble_eq_true rfl) rfl [0, 1] rfl rfl dX11_go_7 ?_
  intro _ _
  dsimp only [jpush]
  refine J.if_neB g dX11_go_10 (tgt := 15) (by decide) (fun c_10 => absurd c_10 (by rw [hi] at c_10; cases c_10)) (fun c_10 => ?_)
  refine J.iconst (v := -1) g dX11_go_13 (by decide) ?_
  exact J.iret g hE () rfl trivial rfl ⟨Nat.le_of_ble_eq_true rfl, Nat.le_of_ble_eq_true rfl⟩ dX11_go_14
set_option maxHeartbeats 4000000 in
set_option maxRecDepth 100000 in
theorem c_X11_times_yes (l : Launch) (γ : jγ) (mo mta mtd msz mto mfr mso mnu mfa mpl mro mnw mrd mkp msn mbf mlv mik msm msu mbe mfe mmy mof msf mlr mty mfm mrn mrb mln mtb : Nat) (mth mfw mse : Int32) (mwd : Int64) (cd n : Nat) (f w : Nat → Nat) (SS : Nat → Nat) (su : Nat → Nat) (k : Nat) (hw : mIs cd n f w) (hm8 : msm ≤ 8) (hk : k ≤ 24) (hc : jcm (gex cd) n (nI k) = true) : jM (S := (Nat → Nat) × (Nat → Nat) × (Nat → Nat)) l γ yX11_times cX11_times 2 (some .int) ({ frames := 48, cells := 0, slots := 0, locals := 1164 } : Room) [.ref mo, .int (nI k)] [(mo, .inr (11, [.int mth, .ref mta, .int (nI mtd), .int (nI msz), .int (nI mto), .int (nI mfr), .int (nI mso), .int (nI mnu), .int (nI mfa), .int mfw, .int (nI mpl), .int (nI mro), .long mwd, .ref mnw, .ref mrd, .ref mkp, .ref msn, .ref mbf, .ref mlv, .ref mik, .int (nI msm), .ref msu, .ref mbe, .ref mfe, .ref mmy, .ref mof, .ref msf, .ref mlr, .ref mty, .ref mfm, .ref mrn, .ref mrb, .int (nI mln), .ref mtb, .int mse])), (mnw, .inl (γ.2 0, 17, .inl (fun j => nI (w j)))), (msn, .inl (γ.2 0, 136, .inl (fun j => nI (SS j)))), (msu, .inl (γ.2 0, 4096, .inl (fun j => nI (su j))))] (fun u => some (.int (nI (gS cd (fun j => jmul (god cd) (jmf cd) (f j) k) n (2 ^ n - 1))))) (fun u => [(mo, .inr (11, [.int (nI 0), .ref mta, .int (nI mtd), .int (nI msz), .int (nI mto), .int (nI mfr), .int (nI mso), .int (nI mnu), .int (nI mfa), .int mfw, .int (nI mpl), .int (nI mro), .long mwd, .ref mnw, .ref mrd, .ref mkp, .ref msn, .ref mbf, .ref mlv, .ref mik, .int (nI (if msm = 8 then 8 else msm + 1)), .ref msu, .ref mbe, .ref mfe, .ref mmy, .ref mof, .ref msf, .ref mlr, .ref mty, .ref mfm, .ref mrn, .ref mrb, .int (nI mln), .ref mtb, .int mse])), (mnw, .inl (γ.2 0, 17, .inl (fun j => nI (u.1 j)))), (msn, .inl (γ.2 0, 136, .inl (fun j => nI (u.2.1 j)))), (msu, .inl (γ.2 0, 4096, .inl (fun j => nI (u.2.2 j))))]) (fun u => mIs cd n (fun j => jmul (god cd) (jmf cd) (f j) k) u.1 ∧ msnp SS w msm u.2.1) := by
  refine jM.of [some (.ref mo), some (.int (nI k))] rfl (Nat.le_of_ble_eq_true rfl) (by decide) ?_
  intro x g hE hin
  have hwg := hw.g
  have hw5 := hw.2.2.2.2.2.1
  have hwf := hw.2.2.2.2.2.2
  have hw3 := hw.2.2.1
  refine J.aload_n g dX11_times_0 rfl rfl ?_
  refine J.iconstN g 0 dX11_times_1 ?_
  refine J.put g jX11 0 (by decide) lf_X11_1 0 rfl rfl (Nat.le_of_ble_eq_true rfl) rfl rfl dX11_times_2 ?_
  try dsimp only [List.set_cons_zero, List.set_cons_succ]
  refine J.aload_n g dX11_times_5 rfl rfl ?_
  refine J.iload_n g dX11_times_6 rfl rfl ?_
  refine J.callV0 g (c_X11_mayTimes l γ _ _ _ _ _ _ _ _ _ _ _ _ _ _ _ _ _ _ _ _ _ _ _ _ _ _ _ _ _ _ _ _ _ _ _ _ _ _ _ _ _ hw) jy_X11_mayTimes lm_X11_285 (q0 := 0) rfl jX11.1 ⟨⟨Nat.le_of_ble_eq_true rfl, Nat.le_of_ble_eq_true rfl⟩, Nat.le_of_ble_eq_true rfl, Nat.le_of_ble_eq_true rfl⟩ (Nat.le_of_ble_eq_true rfl) rfl [0, 1] rfl rfl dX11_times_7 ?_
  intro _ _
  dsimp only [jpush]
  refine J.if_neB g dX11_times_10 (tgt := 15) (by decide) (fun c_10 => ?_) (fun c_10 => absurd c_10 (by rw [hc] at c_10; cases c_10))
  refine J.aload_n g dX11_times_15 rfl rfl ?_
  refine J.callV g (c_X11_snap l γ _ _ _ _ _ _ _ _ _ _ _ _ _ _ _ _ _ _ _ _ _ _ _ _ _ _ _ _ _ _ _ _ _ _ _ _ _ _ hm8) jy_X11_snap lm_X11_276 (q0 := 0) rfl jX11.1 ⟨⟨Nat.le_of_ble_eq_true rfl, Nat.le_of_ble_eq_true rfl⟩, Nat.le_of_ble_eq_true rfl, Nat.le_of_ble_eq_true rfl⟩ (Nat.le_of_ble_eq_true rfl) rfl [0, 1, 2] rfl (fun _ => rfl) rfl dX11_times_16 ?_
  intro u_16 h_16
  dsimp only [jput, List.set_cons_zero, List.set_cons_succ, Option.toList, List.append, List.cons_append, List.nil_append, List.append_nil]
  refine J.aload_n g dX11_times_19 rfl rfl ?_
  refine J.iload_n g dX11_times_20 rfl rfl ?_
  refine J.callV g (c_X11_multiplies l γ _ _ _ _ _ _ _ _ _ _ _ _ _ _ _ _ _ _ _ _ _ _ _ _ _ _ _ _ _ _ _ _ _ _ _ _ _ _ _ _ _ hw (by omega)) jy_X11_multiplies lm_X11_288 (q0 := 0) rfl jX11.1 ⟨⟨Nat.le_of_ble_eq_true rfl, Nat.le_of_ble_eq_true rfl⟩, Nat.le_of_ble_eq_true rfl, Nat.le_of_ble_eq_true rfl⟩ (Nat.le_of_ble_eq_true rfl) rfl [0, 1] rfl (fun _ => rfl) rfl dX11_times_21 ?_
  intro u_21 h_21
  dsimp only [jput, List.set_cons_zero, List.set_cons_succ, Option.toList, List.append, List.cons_append, List.nil_append, List.append_nil]
  refine J.aload_n g dX11_times_24 rfl rfl ?_
  refine J.callV g (c_X11_laysSums l γ _ _ _ _ _ _ _ _ _ _ _ _ _ _ _ _ _ _ _ _ _ _ _ _ _ _ _ _ _ _ _ _ _ _ _ _ _ _ _ _ _ h_21) jy_X11_laysSums lm_X11_213 (q0 := 0) rfl jX11.1 ⟨⟨Nat.le_of_ble_eq_true rfl, Nat.le_of_ble_eq_true rfl⟩, Nat.le_of_ble_eq_true rfl, Nat.le_of_ble_eq_true rfl⟩ (Nat.le_of_ble_eq_true rfl) rfl [0, 1, 3] rfl (fun _ => rfl) rfl dX11_times_25 ?_
  intro u_25 h_25
  dsimp only [jput, List.set_cons_zero, List.set_cons_succ, Option.toList, List.append, List.cons_append, List.nil_append, List.append_nil]
  refine J.aload_n g dX11_times_28 rfl rfl ?_
  refine J.get g jX11 21 (by decide) lf_X11_107 0 rfl rfl dX11_times_29 ?_
  refine J.aload_n g dX11_times_32 rfl rfl ?_
  refine J.callV0 g (c_X11_all l γ _ _ _ _ _ _ _ _ _ _ _ _ _ _ _ _ _ _ _ _ _ _ _ _ _ _ _ _ _ _ _ _ _ _ _ _ _ _ _ _ h_21) jy_X11_all lm_X11_204 (q0 := 0) rfl jX11.1 ⟨⟨Nat.le_of_ble_eq_true rfl, Nat.le_of_ble_eq_true rfl⟩, Nat.le_of_ble_eq_true rfl, Nat.le_of_ble_eq_true rfl⟩ (Nat.le_of_ble_eq_true rfl) rfl [0, 1] rfl rfl dX11_times_33 ?_
  intro _ _
  dsimp only [jpush]
  have hpw : 2 ^ n ≤ 2 ^ 12 := Nat.pow_le_pow_right (by omega) hwg.2.2.2.2.1
  have hpp := Nat.two_pow_pos n
  refine J.ialdN g 3 rfl (by omega) (by decide) dX11_times_36 ?_
  exact J.iret g hE (u_21, u_16, u_25) (by rw [h_25 _ (by omega)]) ⟨h_21, h_16⟩ rfl ⟨Nat.le_of_ble_eq_true rfl, Nat.le_of_ble_eq_true rfl⟩ dX11_times_37
set_option maxHeartbeats 4000000 in
set_option maxRecDepth 100000 in
theorem c_X11_times_no (l : Launch) (γ : jγ) (mo mta mtd msz mto mfr mso mnu mfa mpl mro mnw mrd mkp msn mbf mlv mik msm msu mbe mfe mmy mof msf mlr mty mfm mrn mrb mln mtb : Nat) (mth mfw mse : Int32) (mwd : Int64) (cd n : Nat) (f w : Nat → Nat) (a : Int32) (hw : mIs cd n f w) (hi : jcm (gex cd) n a = false) : jM (S := Unit) l γ yX11_times cX11_times 2 (some .int) ({ frames := 48, cells := 0, slots := 0, locals := 1164 } : Room) [.ref mo, .int a] [(mo, .inr (11, [.int mth, .ref mta, .int (nI mtd), .int (nI msz), .int (nI mto), .int (nI mfr), .int (nI mso), .int (nI mnu), .int (nI mfa), .int mfw, .int (nI mpl), .int (nI mro), .long mwd, .ref mnw, .ref mrd, .ref mkp, .ref msn, .ref mbf, .ref mlv, .ref mik, .int (nI msm), .ref msu, .ref mbe, .ref mfe, .ref mmy, .ref mof, .ref msf, .ref mlr, .ref mty, .ref mfm, .ref mrn, .ref mrb, .int (nI mln), .ref mtb, .int mse])), (mnw, .inl (γ.2 0, 17, .inl (fun j => nI (w j))))] (fun w0 => some (.int (-1))) (fun w0 => [(mo, .inr (11, [.int (nI 0), .ref mta, .int (nI mtd), .int (nI msz), .int (nI mto), .int (nI mfr), .int (nI mso), .int (nI mnu), .int (nI mfa), .int mfw, .int (nI mpl), .int (nI mro), .long mwd, .ref mnw, .ref mrd, .ref mkp, .ref msn, .ref mbf, .ref mlv, .ref mik, .int (nI msm), .ref msu, .ref mbe, .ref mfe, .ref mmy, .ref mof, .ref msf, .ref mlr, .ref mty, .ref mfm, .ref mrn, .ref mrb, .int (nI mln), .ref mtb, .int mse])), (mnw, .inl (γ.2 0, 17, .inl (fun j => nI (w j))))]) (fun w0 => True) := by
  refine jM.of [some (.ref mo), some (.int a)] rfl (Nat.le_of_ble_eq_true rfl) (by decide) ?_
  intro x g hE hin
  have hwg := hw.g
  have hw5 := hw.2.2.2.2.2.1
  have hwf := hw.2.2.2.2.2.2
  have hw3 := hw.2.2.1
  refine J.aload_n g dX11_times_0 rfl rfl ?_
  refine J.iconstN g 0 dX11_times_1 ?_
  refine J.put g jX11 0 (by decide) lf_X11_1 0 rfl rfl (Nat.le_of_ble_eq_true rfl) rfl rfl dX11_times_2 ?_
  try dsimp only [List.set_cons_zero, List.set_cons_succ]
  refine J.aload_n g dX11_times_5 rfl rfl ?_
  refine J.iload_n g dX11_times_6 rfl rfl ?_
  refine J.callV0 g (c_X11_mayTimes l γ _ _ _ _ _ _ _ _ _ _ _ _ _ _ _ _ _ _ _ _ _ _ _ _ _ _ _ _ _ _ _ _ _ _ _ _ _ _ _ _ _ hw) jy_X11_mayTimes lm_X11_285 (q0 := 0) rfl jX11.1 ⟨⟨Nat.le_of_ble_eq_true rfl, Nat.le_of_ble_eq_true rfl⟩, Nat.le_of_ble_eq_true rfl, Nat.le_of_ble_eq_true rfl⟩ (Nat.le_of_ble_eq_true rfl) rfl [0, 1] rfl rfl dX11_times_7 ?_
  intro _ _
  dsimp only [jpush]
  refine J.if_neB g dX11_times_10 (tgt := 15) (by decide) (fun c_10 => absurd c_10 (by rw [hi] at c_10; cases c_10)) (fun c_10 => ?_)
  refine J.iconst (v := -1) g dX11_times_13 (by decide) ?_
  exact J.iret g hE () rfl trivial rfl ⟨Nat.le_of_ble_eq_true rfl, Nat.le_of_ble_eq_true rfl⟩ dX11_times_14
set_option maxHeartbeats 4000000 in
set_option maxRecDepth 100000 in
theorem c_X11_sort_no (l : Launch) (γ : jγ) (mo mta mtd msz mto mfr mso mnu mfa mpl mro mnw mrd mkp msn mbf mlv mik msm msu mbe mfe mmy mof msf mlr mty mfm mrn mrb mln mtb : Nat) (mth mfw mse : Int32) (mwd : Int64) (cd n : Nat) (f w : Nat → Nat) (SS : Nat → Nat) (TF : Nat → Nat) (hw : mIs cd n f w) (hm8 : msm ≤ 8) (he : jels f (jsrt f (n - 1)) n = 0) : jM (S := (Nat → Nat) × (Nat → Nat) × (Nat → Nat)) l γ yX11_sort cX11_sort 3 (some .int) ({ frames := 2, cells := 0, slots := 0, locals := 45 } : Room) [.ref mo] [(mo, .inr (11, [.int mth, .ref mta, .int (nI mtd), .int (nI msz), .int (nI mto), .int (nI mfr), .int (nI mso), .int (nI mnu), .int (nI mfa), .int mfw, .int (nI mpl), .int (nI mro), .long mwd, .ref mnw, .ref mrd, .ref mkp, .ref msn, .ref mbf, .ref mlv, .ref mik, .int (nI msm), .ref msu, .ref mbe, .ref mfe, .ref mmy, .ref mof, .ref msf, .ref mlr, .ref mty, .ref mfm, .ref mrn, .ref mrb, .int (nI mln), .ref mtb, .int mse])), (mnw, .inl (γ.2 0, 17, .inl (fun j => nI (w j)))), (msn, .inl (γ.2 0, 136, .inl (fun j => nI (SS j)))), (mty, .inl (γ.2 0, 12, .inl (fun j => nI (TF j))))] (fun u => some (.int (nI (jels f (jsrt f (n - 1)) n)))) (fun u => [(mo, .inr (11, [.int (nI 0), .ref mta, .int (nI mtd), .int (nI msz), .int (nI mto), .int (nI mfr), .int (nI mso), .int (nI mnu), .int (nI mfa), .int mfw, .int (nI mpl), .int (nI mro), .long mwd, .ref mnw, .ref mrd, .ref mkp, .ref msn, .ref mbf, .ref mlv, .ref mik, .int (nI msm), .ref msu, .ref mbe, .ref mfe, .ref mmy, .ref mof, .ref msf, .ref mlr, .ref mty, .ref mfm, .ref mrn, .ref mrb, .int (nI mln), .ref mtb, .int mse])), (mnw, .inl (γ.2 0, 17, .inl (fun j => nI (w j)))), (msn, .inl (γ.2 0, 136, .inl (fun j => nI (SS j)))), (mty, .inl (γ.2 0, 12, .inl (fun j => nI (u.2.2 j))))]) (fun u => True) := by
  refine jM.of [some (.ref mo), none, none] rfl (Nat.le_of_ble_eq_true rfl) (by decide) ?_
  intro x g hE hin
  have hwg := hw.g
  have hw5 := hw.2.2.2.2.2.1
  have hwf := hw.2.2.2.2.2.2
  have hw3 := hw.2.2.1
  have hle := jels_le (f := f) (g := jsrt f (n - 1)) n
  have hf24 : ∀ j, j < n → f j < 24 := fun j hj => by have := hwf j hj; omega
  refine J.aload_n g dX11_sort_0 rfl rfl ?_
  refine J.iconstN g 0 dX11_sort_1 ?_
  refine J.put g jX11 0 (by decide) lf_X11_1 0 rfl rfl (Nat.le_of_ble_eq_true rfl) rfl rfl dX11_sort_2 ?_
  try dsimp only [List.set_cons_zero, List.set_cons_succ]
  refine J.iconstN g 0 dX11_sort_5 ?_
  refine J.istore_n g dX11_sort_6 rfl rfl rfl ?_
  try dsimp only [List.set_cons_zero, List.set_cons_succ]
  have lp : ∀ (d : Nat) (k : Nat) (T1 : Nat → Nat), n - k < d → (k ≤ n) → (∀ j, j < k → T1 j = f j) → J γ l x [(mo, .inr (11, [.int (nI 0), .ref mta, .int (nI mtd), .int (nI msz), .int (nI mto), .int (nI mfr), .int (nI mso), .int (nI mnu), .int (nI mfa), .int mfw, .int (nI mpl), .int (nI mro), .long mwd, .ref mnw, .ref mrd, .ref mkp, .ref msn, .ref mbf, .ref mlv, .ref mik, .int (nI msm), .ref msu, .ref mbe, .ref mfe, .ref mmy, .ref mof, .ref msf, .ref mlr, .ref mty, .ref mfm, .ref mrn, .ref mrb, .int (nI mln), .ref mtb, .int mse])), (mnw, .inl (γ.2 0, 17, .inl (fun j => nI (w j)))), (msn, .inl (γ.2 0, 136, .inl (fun j => nI (SS j)))), (mty, .inl (γ.2 0, 12, .inl (fun j => nI (T1 j))))] [some (.ref mo), some (.int (nI k)), none] [] 0 0 7 := by
    intro d
    induction d with
    | zero => intro k T1 hm; exact absurd hm (Nat.not_lt_zero _)
    | succ d ih_lp =>
      intro k T1 hm hk h1
      refine J.iload_n g dX11_sort_7 rfl rfl ?_
      refine J.aload_n g dX11_sort_8 rfl rfl ?_
      refine J.callV0 g (c_X11_places l γ _ _ _ _ _ _ _ _ _ _ _ _ _ _ _ _ _ _ _ _ _ _ _ _ _ _ _ _ _ _ _ _ _ _ _ _ _ _ _ _ hw) jy_X11_places lm_X11_190 (q0 := 0) rfl jX11.1 ⟨⟨Nat.le_of_ble_eq_true rfl, Nat.le_of_ble_eq_true rfl⟩, Nat.le_of_ble_eq_true rfl, Nat.le_of_ble_eq_true rfl⟩ (Nat.le_of_ble_eq_true rfl) rfl [0, 1] rfl rfl dX11_sort_9 ?_
      intro _ _
      dsimp only [jpush]
      refine J.icmp_geN g dX11_sort_12 (tgt := 35) (by decide) (by omega) (by omega) (fun c_12 => ?_) (fun c_12 => ?_)
      · refine J.aload_n g dX11_sort_35 rfl rfl ?_
        refine J.get g jX11 28 (by decide) lf_X11_128 0 rfl rfl dX11_sort_36 ?_
        refine J.aload_n g dX11_sort_39 rfl rfl ?_
        refine J.callV0 g (c_X11_places l γ _ _ _ _ _ _ _ _ _ _ _ _ _ _ _ _ _ _ _ _ _ _ _ _ _ _ _ _ _ _ _ _ _ _ _ _ _ _ _ _ hw) jy_X11_places lm_X11_190 (q0 := 0) rfl jX11.1 ⟨⟨Nat.le_of_ble_eq_true rfl, Nat.le_of_ble_eq_true rfl⟩, Nat.le_of_ble_eq_true rfl, Nat.le_of_ble_eq_true rfl⟩ (Nat.le_of_ble_eq_true rfl) rfl [0, 1] rfl rfl dX11_sort_40 ?_
        intro _ _
        dsimp only [jpush]
        refine J.callS g (c_X11_sorts l γ _ _ _ (by omega) (fun j hj => by rw [h1 j (by omega)]; exact hf24 j hj)) jy_X11_sorts lm_X11_252 ⟨⟨Nat.le_of_ble_eq_true rfl, Nat.le_of_ble_eq_true rfl⟩, Nat.le_of_ble_eq_true rfl, Nat.le_of_ble_eq_true rfl⟩ (Nat.le_of_ble_eq_true rfl) rfl [3] rfl (fun _ => rfl) rfl dX11_sort_43 ?_
        intro _ _
        dsimp only [jput, List.set_cons_zero, List.set_cons_succ, Option.toList, List.append, List.cons_append, List.nil_append, List.append_nil]
        obtain ⟨gs, hgs⟩ : ∃ z, z = jsrt T1 (n - 1) := ⟨_, rfl⟩
        rw [← hgs]
        have hs : ∀ j, j < n → gs j = jsrt f (n - 1) j := fun j hj => by rw [hgs]; exact jsrt_congr1 (fun i hi => h1 i (by omega)) j hj
        have hs24 : ∀ j, j < n → gs j < 24 := fun j hj => by rw [hs j hj]; exact jsrt_24 hf24 (n - 1) (by omega) j hj
        refine J.iconstN g 0 dX11_sort_46 ?_
        refine J.istore_n g dX11_sort_47 rfl rfl rfl ?_
        try dsimp only [List.set_cons_zero, List.set_cons_succ]
        refine J.iconstN g 0 dX11_sort_48 ?_
        refine J.istore_n g dX11_sort_49 rfl rfl rfl ?_
        try dsimp only [List.set_cons_zero, List.set_cons_succ]
        have lq : ∀ (d : Nat) (i : Nat), n - i < d → (i ≤ n) → J γ l x [(mo, .inr (11, [.int (nI 0), .ref mta, .int (nI mtd), .int (nI msz), .int (nI mto), .int (nI mfr), .int (nI mso), .int (nI mnu), .int (nI mfa), .int mfw, .int (nI mpl), .int (nI mro), .long mwd, .ref mnw, .ref mrd, .ref mkp, .ref msn, .ref mbf, .ref mlv, .ref mik, .int (nI msm), .ref msu, .ref mbe, .ref mfe, .ref mmy, .ref mof, .ref msf, .ref mlr, .ref mty, .ref mfm, .ref mrn, .ref mrb, .int (nI mln), .ref mtb, .int mse])), (mnw, .inl (γ.2 0, 17, .inl (fun j => nI (w j)))), (msn, .inl (γ.2 0, 136, .inl (fun j => nI (SS j)))), (mty, .inl (γ.2 0, 12, .inl (fun j => nI (gs j))))] [some (.ref mo), some (.int (nI (jels f (jsrt f (n - 1)) i))), some (.int (nI i))] [] 0 0 50 := by
          intro d
          induction d with
          | zero => intro i hm; exact absurd hm (Nat.not_lt_zero _)
          | succ d ih_lq =>
            intro i hm hi
            refine J.iload_n g dX11_sort_50 rfl rfl ?_
            refine J.aload_n g dX11_sort_51 rfl rfl ?_
            refine J.callV0 g (c_X11_places l γ _ _ _ _ _ _ _ _ _ _ _ _ _ _ _ _ _ _ _ _ _ _ _ _ _ _ _ _ _ _ _ _ _ _ _ _ _ _ _ _ hw) jy_X11_places lm_X11_190 (q0 := 0) rfl jX11.1 ⟨⟨Nat.le_of_ble_eq_true rfl, Nat.le_of_ble_eq_true rfl⟩, Nat.le_of_ble_eq_true rfl, Nat.le_of_ble_eq_true rfl⟩ (Nat.le_of_ble_eq_true rfl) rfl [0, 1] rfl rfl dX11_sort_52 ?_
            intro _ _
            dsimp only [jpush]
            refine J.icmp_geN g dX11_sort_55 (tgt := 84) (by decide) (by omega) (by omega) (fun c_55 => ?_) (fun c_55 => ?_)
            · obtain rfl : n = i := by omega
              refine J.iload_n g dX11_sort_84 rfl rfl ?_
              refine J.if_neN g dX11_sort_85 (tgt := 90) (by decide) (by omega) (fun c_85 => absurd c_85 (by omega)) (fun c_85 => ?_)
              refine J.iconstN g 0 dX11_sort_88 ?_
              exact J.iret g hE (w, SS, gs) (by rw [c_85]) trivial rfl ⟨Nat.le_of_ble_eq_true rfl, Nat.le_of_ble_eq_true rfl⟩ dX11_sort_89
            · refine J.aload_n g dX11_sort_58 rfl rfl ?_
              refine J.get g jX11 28 (by decide) lf_X11_128 0 rfl rfl dX11_sort_59 ?_
              refine J.iload_n g dX11_sort_62 rfl rfl ?_
              refine J.ialdN g 3 rfl (by omega) (by decide) dX11_sort_63 ?_
              refine J.aload_n g dX11_sort_64 rfl rfl ?_
              refine J.get g jX11 13 (by decide) lf_X11_85 0 rfl rfl dX11_sort_65 ?_
              refine J.iconstN g 5 dX11_sort_68 ?_
              refine J.iload_n g dX11_sort_69 rfl rfl ?_
              refine J.iaddN g dX11_sort_70 ?_
              refine J.ialdN g 1 rfl (by omega) (by decide) dX11_sort_71 ?_
              rw [hw5 i (by omega)]
              refine J.icmp_eqN g dX11_sort_72 (tgt := 78) (by decide) (by have := hs24 i (by omega); omega) (by have := hf24 i (by omega); omega) (fun c_72 => ?_) (fun c_72 => ?_)
              · have hq : jels f (jsrt f (n - 1)) (i + 1) = jels f (jsrt f (n - 1)) i := jels_e (by rw [← hs i (by omega)]; exact c_72)
                refine J.iincN g 1 dX11_sort_78 rfl rfl ?_
                try dsimp only [List.set_cons_zero, List.set_cons_succ]
                refine J.goto g dX11_sort_81 (tgt := 50) (by decide) ?_
                have ih2 := ih_lq (i + 1) (by omega) (by omega)
                rw [hq] at ih2
                exact J.lvle (jle_s (jle_s (jle_s jle_0))) ih2
              · have hq : jels f (jsrt f (n - 1)) (i + 1) = jels f (jsrt f (n - 1)) i + 1 := jels_n (by rw [← hs i (by omega)]; exact c_72)
                refine J.iincN g 1 dX11_sort_75 rfl rfl ?_
                try dsimp only [List.set_cons_zero, List.set_cons_succ]
                refine J.iincN g 1 dX11_sort_78 rfl rfl ?_
                try dsimp only [List.set_cons_zero, List.set_cons_succ]
                refine J.goto g dX11_sort_81 (tgt := 50) (by decide) ?_
                have ih2 := ih_lq (i + 1) (by omega) (by omega)
                rw [hq] at ih2
                exact J.lvle (jle_s (jle_s (jle_s jle_0))) ih2
        exact J.lvle (jle_s (jle_s (jle_s jle_0))) (lq _ 0 (Nat.lt_succ_self _) (Nat.zero_le _))
      · refine J.aload_n g dX11_sort_15 rfl rfl ?_
        refine J.get g jX11 28 (by decide) lf_X11_128 0 rfl rfl dX11_sort_16 ?_
        refine J.iload_n g dX11_sort_19 rfl rfl ?_
        refine J.aload_n g dX11_sort_20 rfl rfl ?_
        refine J.get g jX11 13 (by decide) lf_X11_85 0 rfl rfl dX11_sort_21 ?_
        refine J.iconstN g 5 dX11_sort_24 ?_
        refine J.iload_n g dX11_sort_25 rfl rfl ?_
        refine J.iaddN g dX11_sort_26 ?_
        refine J.ialdN g 1 rfl (by omega) (by decide) dX11_sort_27 ?_
        refine J.iastN g 3 rfl (by omega) (by decide) dX11_sort_28 ?_
        try dsimp only [List.set_cons_zero, List.set_cons_succ]
        refine J.iincN g 1 dX11_sort_29 rfl rfl ?_
        try dsimp only [List.set_cons_zero, List.set_cons_succ]
        refine J.goto g dX11_sort_32 (tgt := 7) (by decide) ?_
        exact J.lvle (jle_s (jle_s (jle_n jle_0))) (ih_lp (k + 1) _ (by omega) (by omega) (lt_s (fun j hj => (up_ne (by omega)).trans (h1 j hj)) (up_at.trans (hw5 k (by omega)))))
  exact J.lvle (jle_s (jle_s (jle_n jle_0))) (lp _ 0 TF (Nat.lt_succ_self _) (Nat.zero_le _) (fun j h => absurd h (Nat.not_lt_zero _)))
set_option maxHeartbeats 4000000 in
set_option maxRecDepth 100000 in
theorem c_X11_sort_yes (l : Launch) (γ : jγ) (mo mta mtd msz mto mfr mso mnu mfa mpl mro mnw mrd mkp msn mbf mlv mik msm msu mbe mfe mmy mof msf mlr mty mfm mrn mrb mln mtb : Nat) (mth mfw mse : Int32) (mwd : Int64) (cd n : Nat) (f w : Nat → Nat) (SS : Nat → Nat) (TF : Nat → Nat) (hw : mIs cd n f w) (hm8 : msm ≤ 8) (he : ¬ jels f (jsrt f (n - 1)) n = 0) : jM (S := (Nat → Nat) × (Nat → Nat) × (Nat → Nat)) l γ yX11_sort cX11_sort 3 (some .int) ({ frames := 2, cells := 0, slots := 0, locals := 45 } : Room) [.ref mo] [(mo, .inr (11, [.int mth, .ref mta, .int (nI mtd), .int (nI msz), .int (nI mto), .int (nI mfr), .int (nI mso), .int (nI mnu), .int (nI mfa), .int mfw, .int (nI mpl), .int (nI mro), .long mwd, .ref mnw, .ref mrd, .ref mkp, .ref msn, .ref mbf, .ref mlv, .ref mik, .int (nI msm), .ref msu, .ref mbe, .ref mfe, .ref mmy, .ref mof, .ref msf, .ref mlr, .ref mty, .ref mfm, .ref mrn, .ref mrb, .int (nI mln), .ref mtb, .int mse])), (mnw, .inl (γ.2 0, 17, .inl (fun j => nI (w j)))), (msn, .inl (γ.2 0, 136, .inl (fun j => nI (SS j)))), (mty, .inl (γ.2 0, 12, .inl (fun j => nI (TF j))))] (fun u => some (.int (nI (jels f (jsrt f (n - 1)) n)))) (fun u => [(mo, .inr (11, [.int (nI 0), .ref mta, .int (nI mtd), .int (nI msz), .int (nI mto), .int (nI mfr), .int (nI mso), .int (nI mnu), .int (nI mfa), .int mfw, .int (nI mpl), .int (nI mro), .long mwd, .ref mnw, .ref mrd, .ref mkp, .ref msn, .ref mbf, .ref mlv, .ref mik, .int (nI (if msm = 8 then 8 else msm + 1)), .ref msu, .ref mbe, .ref mfe, .ref mmy, .ref mof, .ref msf, .ref mlr, .ref mty, .ref mfm, .ref mrn, .ref mrb, .int (nI mln), .ref mtb, .int mse])), (mnw, .inl (γ.2 0, 17, .inl (fun j => nI (u.1 j)))), (msn, .inl (γ.2 0, 136, .inl (fun j => nI (u.2.1 j)))), (mty, .inl (γ.2 0, 12, .inl (fun j => nI (u.2.2 j))))]) (fun u => mIs cd n (jsrt f (n - 1)) u.1 ∧ msnp SS w msm u.2.1) := by
  refine jM.of [some (.ref mo), none, none] rfl (Nat.le_of_ble_eq_true rfl) (by decide) ?_
  intro x g hE hin
  have hwg := hw.g
  have hw5 := hw.2.2.2.2.2.1
  have hwf := hw.2.2.2.2.2.2
  have hw3 := hw.2.2.1
  have hle := jels_le (f := f) (g := jsrt f (n - 1)) n
  have hf24 : ∀ j, j < n → f j < 24 := fun j hj => by have := hwf j hj; omega
  refine J.aload_n g dX11_sort_0 rfl rfl ?_
  refine J.iconstN g 0 dX11_sort_1 ?_
  refine J.put g jX11 0 (by decide) lf_X11_1 0 rfl rfl (Nat.le_of_ble_eq_true rfl) rfl rfl dX11_sort_2 ?_
  try dsimp only [List.set_cons_zero, List.set_cons_succ]
  refine J.iconstN g 0 dX11_sort_5 ?_
  refine J.istore_n g dX11_sort_6 rfl rfl rfl ?_
  try dsimp only [List.set_cons_zero, List.set_cons_succ]
  have lp : ∀ (d : Nat) (k : Nat) (T1 : Nat → Nat), n - k < d → (k ≤ n) → (∀ j, j < k → T1 j = f j) → J γ l x [(mo, .inr (11, [.int (nI 0), .ref mta, .int (nI mtd), .int (nI msz), .int (nI mto), .int (nI mfr), .int (nI mso), .int (nI mnu), .int (nI mfa), .int mfw, .int (nI mpl), .int (nI mro), .long mwd, .ref mnw, .ref mrd, .ref mkp, .ref msn, .ref mbf, .ref mlv, .ref mik, .int (nI msm), .ref msu, .ref mbe, .ref mfe, .ref mmy, .ref mof, .ref msf, .ref mlr, .ref mty, .ref mfm, .ref mrn, .ref mrb, .int (nI mln), .ref mtb, .int mse])), (mnw, .inl (γ.2 0, 17, .inl (fun j => nI (w j)))), (msn, .inl (γ.2 0, 136, .inl (fun j => nI (SS j)))), (mty, .inl (γ.2 0, 12, .inl (fun j => nI (T1 j))))] [some (.ref mo), some (.int (nI k)), none] [] 0 0 7 := by
    intro d
    induction d with
    | zero => intro k T1 hm; exact absurd hm (Nat.not_lt_zero _)
    | succ d ih_lp =>
      intro k T1 hm hk h1
      refine J.iload_n g dX11_sort_7 rfl rfl ?_
      refine J.aload_n g dX11_sort_8 rfl rfl ?_
      refine J.callV0 g (c_X11_places l γ _ _ _ _ _ _ _ _ _ _ _ _ _ _ _ _ _ _ _ _ _ _ _ _ _ _ _ _ _ _ _ _ _ _ _ _ _ _ _ _ hw) jy_X11_places lm_X11_190 (q0 := 0) rfl jX11.1 ⟨⟨Nat.le_of_ble_eq_true rfl, Nat.le_of_ble_eq_true rfl⟩, Nat.le_of_ble_eq_true rfl, Nat.le_of_ble_eq_true rfl⟩ (Nat.le_of_ble_eq_true rfl) rfl [0, 1] rfl rfl dX11_sort_9 ?_
      intro _ _
      dsimp only [jpush]
      refine J.icmp_geN g dX11_sort_12 (tgt := 35) (by decide) (by omega) (by omega) (fun c_12 => ?_) (fun c_12 => ?_)
      · refine J.aload_n g dX11_sort_35 rfl rfl ?_
        refine J.get g jX11 28 (by decide) lf_X11_128 0 rfl rfl dX11_sort_36 ?_
        refine J.aload_n g dX11_sort_39 rfl rfl ?_
        refine J.callV0 g (c_X11_places l γ _ _ _ _ _ _ _ _ _ _ _ _ _ _ _ _ _ _ _ _ _ _ _ _ _ _ _ _ _ _ _ _ _ _ _ _ _ _ _ _ hw) jy_X11_places lm_X11_190 (q0 := 0) rfl jX11.1 ⟨⟨Nat.le_of_ble_eq_true rfl, Nat.le_of_ble_eq_true rfl⟩, Nat.le_of_ble_eq_true rfl, Nat.le_of_ble_eq_true rfl⟩ (Nat.le_of_ble_eq_true rfl) rfl [0, 1] rfl rfl dX11_sort_40 ?_
        intro _ _
        dsimp only [jpush]
        refine J.callS g (c_X11_sorts l γ _ _ _ (by omega) (fun j hj => by rw [h1 j (by omega)]; exact hf24 j hj)) jy_X11_sorts lm_X11_252 ⟨⟨Nat.le_of_ble_eq_true rfl, Nat.le_of_ble_eq_true rfl⟩, Nat.le_of_ble_eq_true rfl, Nat.le_of_ble_eq_true rfl⟩ (Nat.le_of_ble_eq_true rfl) rfl [3] rfl (fun _ => rfl) rfl dX11_sort_43 ?_
        intro _ _
        dsimp only [jput, List.set_cons_zero, List.set_cons_succ, Option.toList, List.append, List.cons_append, List.nil_append, List.append_nil]
        obtain ⟨gs, hgs⟩ : ∃ z, z = jsrt T1 (n - 1) := ⟨_, rfl⟩
        rw [← hgs]
        have hs : ∀ j, j < n → gs j = jsrt f (n - 1) j := fun j hj => by rw [hgs]; exact jsrt_congr1 (fun i hi => h1 i (by omega)) j hj
        have hs24 : ∀ j, j < n → gs j < 24 := fun j hj => by rw [hs j hj]; exact jsrt_24 hf24 (n - 1) (by omega) j hj
        refine J.iconstN g 0 dX11_sort_46 ?_
        refine J.istore_n g dX11_sort_47 rfl rfl rfl ?_
        try dsimp only [List.set_cons_zero, List.set_cons_succ]
        refine J.iconstN g 0 dX11_sort_48 ?_
        refine J.istore_n g dX11_sort_49 rfl rfl rfl ?_
        try dsimp only [List.set_cons_zero, List.set_cons_succ]
        have lq : ∀ (d : Nat) (i : Nat), n - i < d → (i ≤ n) → J γ l x [(mo, .inr (11, [.int (nI 0), .ref mta, .int (nI mtd), .int (nI msz), .int (nI mto), .int (nI mfr), .int (nI mso), .int (nI mnu), .int (nI mfa), .int mfw, .int (nI mpl), .int (nI mro), .long mwd, .ref mnw, .ref mrd, .ref mkp, .ref msn, .ref mbf, .ref mlv, .ref mik, .int (nI msm), .ref msu, .ref mbe, .ref mfe, .ref mmy, .ref mof, .ref msf, .ref mlr, .ref mty, .ref mfm, .ref mrn, .ref mrb, .int (nI mln), .ref mtb, .int mse])), (mnw, .inl (γ.2 0, 17, .inl (fun j => nI (w j)))), (msn, .inl (γ.2 0, 136, .inl (fun j => nI (SS j)))), (mty, .inl (γ.2 0, 12, .inl (fun j => nI (gs j))))] [some (.ref mo), some (.int (nI (jels f (jsrt f (n - 1)) i))), some (.int (nI i))] [] 0 0 50 := by
          intro d
          induction d with
          | zero => intro i hm; exact absurd hm (Nat.not_lt_zero _)
          | succ d ih_lq =>
            intro i hm hi
            refine J.iload_n g dX11_sort_50 rfl rfl ?_
            refine J.aload_n g dX11_sort_51 rfl rfl ?_
            refine J.callV0 g (c_X11_places l γ _ _ _ _ _ _ _ _ _ _ _ _ _ _ _ _ _ _ _ _ _ _ _ _ _ _ _ _ _ _ _ _ _ _ _ _ _ _ _ _ hw) jy_X11_places lm_X11_190 (q0 := 0) rfl jX11.1 ⟨⟨Nat.le_of_ble_eq_true rfl, Nat.le_of_ble_eq_true rfl⟩, Nat.le_of_ble_eq_true rfl, Nat.le_of_ble_eq_true rfl⟩ (Nat.le_of_ble_eq_true rfl) rfl [0, 1] rfl rfl dX11_sort_52 ?_
            intro _ _
            dsimp only [jpush]
            refine J.icmp_geN g dX11_sort_55 (tgt := 84) (by decide) (by omega) (by omega) (fun c_55 => ?_) (fun c_55 => ?_)
            · obtain rfl : n = i := by omega
              refine J.iload_n g dX11_sort_84 rfl rfl ?_
              refine J.if_neN g dX11_sort_85 (tgt := 90) (by decide) (by omega) (fun c_85 => ?_) (fun c_85 => absurd c_85 (by omega))
              refine J.aload_n g dX11_sort_90 rfl rfl ?_
              refine J.callV g (c_X11_snap l γ _ _ _ _ _ _ _ _ _ _ _ _ _ _ _ _ _ _ _ _ _ _ _ _ _ _ _ _ _ _ _ _ _ _ _ _ _ _ hm8) jy_X11_snap lm_X11_276 (q0 := 0) rfl jX11.1 ⟨⟨Nat.le_of_ble_eq_true rfl, Nat.le_of_ble_eq_true rfl⟩, Nat.le_of_ble_eq_true rfl, Nat.le_of_ble_eq_true rfl⟩ (Nat.le_of_ble_eq_true rfl) rfl [0, 1, 2] rfl (fun _ => rfl) rfl dX11_sort_91 ?_
              intro u_91 h_91
              dsimp only [jput, List.set_cons_zero, List.set_cons_succ, Option.toList, List.append, List.cons_append, List.nil_append, List.append_nil]
              refine J.iconstN g 0 dX11_sort_94 ?_
              refine J.istore_n g dX11_sort_95 rfl rfl rfl ?_
              try dsimp only [List.set_cons_zero, List.set_cons_succ]
              have lr : ∀ (d : Nat) (k : Nat) (w1 : Nat → Nat), n - k < d → (k ≤ n) → (∀ j, w1 j = if 5 ≤ j ∧ j < 5 + k then jsrt f (n - 1) (j - 5) else w j) → J γ l x [(mo, .inr (11, [.int (nI 0), .ref mta, .int (nI mtd), .int (nI msz), .int (nI mto), .int (nI mfr), .int (nI mso), .int (nI mnu), .int (nI mfa), .int mfw, .int (nI mpl), .int (nI mro), .long mwd, .ref mnw, .ref mrd, .ref mkp, .ref msn, .ref mbf, .ref mlv, .ref mik, .int (nI (if msm = 8 then 8 else msm + 1)), .ref msu, .ref mbe, .ref mfe, .ref mmy, .ref mof, .ref msf, .ref mlr, .ref mty, .ref mfm, .ref mrn, .ref mrb, .int (nI mln), .ref mtb, .int mse])), (mnw, .inl (γ.2 0, 17, .inl (fun j => nI (w1 j)))), (msn, .inl (γ.2 0, 136, .inl (fun j => nI (u_91 j)))), (mty, .inl (γ.2 0, 12, .inl (fun j => nI (gs j))))] [some (.ref mo), some (.int (nI (jels f (jsrt f (n - 1)) n))), some (.int (nI k))] [] 0 0 96 := by
                intro d
                induction d with
                | zero => intro k w1 hm; exact absurd hm (Nat.not_lt_zero _)
                | succ d ih_lr =>
                  intro k w1 hm hk3 h3
                  have hwk : mPl n w1 := by unfold mPl; rw [h3, if_neg (by omega), hwg.2.2.2.1]; exact ⟨rfl, hwg.2.2.2.2.1⟩
                  refine J.iload_n g dX11_sort_96 rfl rfl ?_
                  refine J.aload_n g dX11_sort_97 rfl rfl ?_
                  refine J.callV0 g (c_X11_places_r l γ _ _ _ _ _ _ _ _ _ _ _ _ _ _ _ _ _ _ _ _ _ _ _ _ _ _ _ _ _ _ _ _ _ _ _ _ _ _ hwk) jy_X11_places lm_X11_190 (q0 := 0) rfl jX11.1 ⟨⟨Nat.le_of_ble_eq_true rfl, Nat.le_of_ble_eq_true rfl⟩, Nat.le_of_ble_eq_true rfl, Nat.le_of_ble_eq_true rfl⟩ (Nat.le_of_ble_eq_true rfl) rfl [0, 1] rfl rfl dX11_sort_98 ?_
                  intro _ _
                  dsimp only [jpush]
                  refine J.icmp_geN g dX11_sort_101 (tgt := 124) (by decide) (by omega) (by omega) (fun c_101 => ?_) (fun c_101 => ?_)
                  · refine J.iload_n g dX11_sort_124 rfl rfl ?_
                    exact J.iret g hE (w1, u_91, gs) rfl ⟨mIs_row hw (fun j hj => jsrt_b hwf _ (by omega) j hj) (fun j _ hj => by show w1 j = _; rw [h3]; by_cases q : 5 ≤ j; (· rw [if_pos (by omega), if_pos q]); (· rw [if_neg (by omega), if_neg q])), h_91⟩ rfl ⟨Nat.le_of_ble_eq_true rfl, Nat.le_of_ble_eq_true rfl⟩ dX11_sort_125
                  · refine J.aload_n g dX11_sort_104 rfl rfl ?_
                    refine J.get g jX11 13 (by decide) lf_X11_85 0 rfl rfl dX11_sort_105 ?_
                    refine J.iconstN g 5 dX11_sort_108 ?_
                    refine J.iload_n g dX11_sort_109 rfl rfl ?_
                    refine J.iaddN g dX11_sort_110 ?_
                    refine J.aload_n g dX11_sort_111 rfl rfl ?_
                    refine J.get g jX11 28 (by decide) lf_X11_128 0 rfl rfl dX11_sort_112 ?_
                    refine J.iload_n g dX11_sort_115 rfl rfl ?_
                    refine J.ialdN g 3 rfl (by omega) (by decide) dX11_sort_116 ?_
                    refine J.iastN g 1 rfl (by omega) (by decide) dX11_sort_117 ?_
                    try dsimp only [List.set_cons_zero, List.set_cons_succ]
                    refine J.iincN g 1 dX11_sort_118 rfl rfl ?_
                    try dsimp only [List.set_cons_zero, List.set_cons_succ]
                    refine J.goto g dX11_sort_121 (tgt := 96) (by decide) ?_
                    exact J.lvle (jle_s (jle_s (jle_s jle_0))) (ih_lr (k + 1) _ (by omega) (by omega) (fun j => by unfold va_up; by_cases z : j = 5 + k; (· rw [if_pos z, if_pos (by omega), show j - 5 = k by omega]; exact hs k (by omega)); (· rw [if_neg z, h3]; by_cases q : 5 ≤ j ∧ j < 5 + k; (· rw [if_pos q, if_pos (by omega)]); (· rw [if_neg q, if_neg (by omega)]))))
              exact J.lvle (jle_s (jle_s (jle_s jle_0))) (lr _ 0 w (Nat.lt_succ_self _) (Nat.zero_le _) (fun j => by rw [if_neg (by omega)]))
            · refine J.aload_n g dX11_sort_58 rfl rfl ?_
              refine J.get g jX11 28 (by decide) lf_X11_128 0 rfl rfl dX11_sort_59 ?_
              refine J.iload_n g dX11_sort_62 rfl rfl ?_
              refine J.ialdN g 3 rfl (by omega) (by decide) dX11_sort_63 ?_
              refine J.aload_n g dX11_sort_64 rfl rfl ?_
              refine J.get g jX11 13 (by decide) lf_X11_85 0 rfl rfl dX11_sort_65 ?_
              refine J.iconstN g 5 dX11_sort_68 ?_
              refine J.iload_n g dX11_sort_69 rfl rfl ?_
              refine J.iaddN g dX11_sort_70 ?_
              refine J.ialdN g 1 rfl (by omega) (by decide) dX11_sort_71 ?_
              rw [hw5 i (by omega)]
              refine J.icmp_eqN g dX11_sort_72 (tgt := 78) (by decide) (by have := hs24 i (by omega); omega) (by have := hf24 i (by omega); omega) (fun c_72 => ?_) (fun c_72 => ?_)
              · have hq : jels f (jsrt f (n - 1)) (i + 1) = jels f (jsrt f (n - 1)) i := jels_e (by rw [← hs i (by omega)]; exact c_72)
                refine J.iincN g 1 dX11_sort_78 rfl rfl ?_
                try dsimp only [List.set_cons_zero, List.set_cons_succ]
                refine J.goto g dX11_sort_81 (tgt := 50) (by decide) ?_
                have ih2 := ih_lq (i + 1) (by omega) (by omega)
                rw [hq] at ih2
                exact J.lvle (jle_s (jle_s (jle_s jle_0))) ih2
              · have hq : jels f (jsrt f (n - 1)) (i + 1) = jels f (jsrt f (n - 1)) i + 1 := jels_n (by rw [← hs i (by omega)]; exact c_72)
                refine J.iincN g 1 dX11_sort_75 rfl rfl ?_
                try dsimp only [List.set_cons_zero, List.set_cons_succ]
                refine J.iincN g 1 dX11_sort_78 rfl rfl ?_
                try dsimp only [List.set_cons_zero, List.set_cons_succ]
                refine J.goto g dX11_sort_81 (tgt := 50) (by decide) ?_
                have ih2 := ih_lq (i + 1) (by omega) (by omega)
                rw [hq] at ih2
                exact J.lvle (jle_s (jle_s (jle_s jle_0))) ih2
        exact J.lvle (jle_s (jle_s (jle_s jle_0))) (lq _ 0 (Nat.lt_succ_self _) (Nat.zero_le _))
      · refine J.aload_n g dX11_sort_15 rfl rfl ?_
        refine J.get g jX11 28 (by decide) lf_X11_128 0 rfl rfl dX11_sort_16 ?_
        refine J.iload_n g dX11_sort_19 rfl rfl ?_
        refine J.aload_n g dX11_sort_20 rfl rfl ?_
        refine J.get g jX11 13 (by decide) lf_X11_85 0 rfl rfl dX11_sort_21 ?_
        refine J.iconstN g 5 dX11_sort_24 ?_
        refine J.iload_n g dX11_sort_25 rfl rfl ?_
        refine J.iaddN g dX11_sort_26 ?_
        refine J.ialdN g 1 rfl (by omega) (by decide) dX11_sort_27 ?_
        refine J.iastN g 3 rfl (by omega) (by decide) dX11_sort_28 ?_
        try dsimp only [List.set_cons_zero, List.set_cons_succ]
        refine J.iincN g 1 dX11_sort_29 rfl rfl ?_
        try dsimp only [List.set_cons_zero, List.set_cons_succ]
        refine J.goto g dX11_sort_32 (tgt := 7) (by decide) ?_
        exact J.lvle (jle_s (jle_s (jle_n jle_0))) (ih_lp (k + 1) _ (by omega) (by omega) (lt_s (fun j hj => (up_ne (by omega)).trans (h1 j hj)) (up_at.trans (hw5 k (by omega)))))
  exact J.lvle (jle_s (jle_s (jle_n jle_0))) (lp _ 0 TF (Nat.lt_succ_self _) (Nat.zero_le _) (fun j h => absurd h (Nat.not_lt_zero _)))
set_option maxHeartbeats 4000000 in
set_option maxRecDepth 100000 in
theorem c_X11_draw (l : Launch) (γ : jγ) (mo mta mtd msz mto mfr mso mnu mfa mpl mro mnw mrd mkp msn mbf mlv mik msm msu mbe mfe mmy mof msf mlr mty mfm mrn mrb mln mtb : Nat) (mth mfw mse : Int32) (mwd : Int64) (k : Nat) (hk : 1 ≤ k ∧ k < 2 ^ 31) : jM (S := Int32 × Nat) l γ yX11_draw cX11_draw 2 (some .int) ({ frames := 0, cells := 0, slots := 0, locals := 0 } : Room) [.ref mo, .int (nI k)] [(mo, .inr (11, [.int mth, .ref mta, .int (nI mtd), .int (nI msz), .int (nI mto), .int (nI mfr), .int (nI mso), .int (nI mnu), .int (nI mfa), .int mfw, .int (nI mpl), .int (nI mro), .long mwd, .ref mnw, .ref mrd, .ref mkp, .ref msn, .ref mbf, .ref mlv, .ref mik, .int (nI msm), .ref msu, .ref mbe, .ref mfe, .ref mmy, .ref mof, .ref msf, .ref mlr, .ref mty, .ref mfm, .ref mrn, .ref mrb, .int (nI mln), .ref mtb, .int mse]))] (fun u => some (.int (nI u.2))) (fun u => [(mo, .inr (11, [.int mth, .ref mta, .int (nI mtd), .int (nI msz), .int (nI mto), .int (nI mfr), .int (nI mso), .int (nI mnu), .int (nI mfa), .int mfw, .int (nI mpl), .int (nI mro), .long mwd, .ref mnw, .ref mrd, .ref mkp, .ref msn, .ref mbf, .ref mlv, .ref mik, .int (nI msm), .ref msu, .ref mbe, .ref mfe, .ref mmy, .ref mof, .ref msf, .ref mlr, .ref mty, .ref mfm, .ref mrn, .ref mrb, .int (nI mln), .ref mtb, .int u.1]))]) (fun u => u.1 = jdr mse ∧ u.2 = jdv mse k) := by
  refine jM.of [some (.ref mo), some (.int (nI k))] rfl (Nat.le_of_ble_eq_true rfl) (by decide) ?_
  intro x g hE hin
  refine J.aload_n g dX11_draw_0 rfl rfl ?_
  refine J.aload_n g dX11_draw_1 rfl rfl ?_
  refine J.get g jX11 34 (by decide) lf_X11_291 0 rfl rfl dX11_draw_2 ?_
  refine J.ldcw g lc_X11_294 dX11_draw_5 ?_
  refine J.imul g dX11_draw_8 ?_
  refine J.sipush (v := nI 12345) g dX11_draw_9 (by decide +kernel) ?_
  refine J.iadd g dX11_draw_12 ?_
  refine J.put g jX11 34 (by decide) lf_X11_291 0 rfl rfl (Nat.le_of_ble_eq_true rfl) rfl rfl dX11_draw_13 ?_
  try dsimp only [List.set_cons_zero, List.set_cons_succ]
  refine J.aload_n g dX11_draw_16 rfl rfl ?_
  refine J.get g jX11 34 (by decide) lf_X11_291 0 rfl rfl dX11_draw_17 ?_
  refine J.bipush (v := nI 8) g dX11_draw_20 (by decide +kernel) ?_
  refine J.iushr g dX11_draw_22 (jdr_sh mse) ?_
  refine J.iload_n g dX11_draw_23 rfl rfl ?_
  refine J.iremN g dX11_draw_24 (by have := (jdr mse).toBitVec.isLt; omega) (by omega) (by omega) ?_
  exact J.iret g hE (jdr mse, jdv mse k) (by rw [jdv, if_neg (by omega)]) ⟨rfl, rfl⟩ rfl ⟨Nat.le_of_ble_eq_true rfl, Nat.le_of_ble_eq_true rfl⟩ dX11_draw_25
set_option maxHeartbeats 4000000 in
set_option maxRecDepth 100000 in
theorem c_X11_does (l : Launch) (γ : jγ) (mo mta mtd msz mto mfr mso mnu mfa mpl mro mnw mrd mkp msn mbf mlv mik msm msu mbe mfe mmy mof msf mlr mty mfm mrn mrb mln mtb : Nat) (mth mfw mse : Int32) (mwd : Int64) (cd n : Nat) (f w : Nat → Nat) (hw : mIs cd n f w) : jM (S := (Int32 × Nat × (Nat → Nat)) × (Nat → Nat)) l γ yX11_does cX11_does 3 (some .boolean) ({ frames := 48, cells := 0, slots := 0, locals := 1164 } : Room) [.ref mo] [(mo, .inr (11, [.int mth, .ref mta, .int (nI mtd), .int (nI msz), .int (nI mto), .int (nI mfr), .int (nI mso), .int (nI mnu), .int (nI mfa), .int mfw, .int (nI mpl), .int (nI mro), .long mwd, .ref mnw, .ref mrd, .ref mkp, .ref msn, .ref mbf, .ref mlv, .ref mik, .int (nI msm), .ref msu, .ref mbe, .ref mfe, .ref mmy, .ref mof, .ref msf, .ref mlr, .ref mty, .ref mfm, .ref mrn, .ref mrb, .int (nI mln), .ref mtb, .int mse])), (mnw, .inl (γ.2 0, 17, .inl (fun j => nI (w j))))] (fun u => some (.int (jB ((jdd (god cd) (gex cd) (jmf cd) (mse, n, f)).1)))) (fun u => [(mo, .inr (11, [.int mth, .ref mta, .int (nI mtd), .int (nI msz), .int (nI mto), .int (nI mfr), .int (nI mso), .int (nI mnu), .int (nI mfa), .int mfw, .int (nI mpl), .int (nI mro), .long mwd, .ref mnw, .ref mrd, .ref mkp, .ref msn, .ref mbf, .ref mlv, .ref mik, .int (nI msm), .ref msu, .ref mbe, .ref mfe, .ref mmy, .ref mof, .ref msf, .ref mlr, .ref mty, .ref mfm, .ref mrn, .ref mrb, .int (nI mln), .ref mtb, .int u.1.1])), (mnw, .inl (γ.2 0, 17, .inl (fun j => nI (u.2 j))))]) (fun u => u.1 = (jdd (god cd) (gex cd) (jmf cd) (mse, n, f)).2 ∧ mIs cd u.1.2.1 u.1.2.2 u.2) := by
  refine jM.of [some (.ref mo), none, none] rfl (Nat.le_of_ble_eq_true rfl) (by decide) ?_
  intro x g hE hin
  have hwg := hw.g
  have hw5 := hw.2.2.2.2.2.1
  have hwf := hw.2.2.2.2.2.2
  have hw3 := hw.2.2.1
  refine J.aload_n g dX11_does_0 rfl rfl ?_
  refine J.iconstN g 4 dX11_does_1 ?_
  refine J.callV g (c_X11_draw l γ _ _ _ _ _ _ _ _ _ _ _ _ _ _ _ _ _ _ _ _ _ _ _ _ _ _ _ _ _ _ _ _ _ _ _ _ _ (by omega)) jy_X11_draw lm_X11_295 (q0 := 0) rfl jX11.1 ⟨⟨Nat.le_of_ble_eq_true rfl, Nat.le_of_ble_eq_true rfl⟩, Nat.le_of_ble_eq_true rfl, Nat.le_of_ble_eq_true rfl⟩ (Nat.le_of_ble_eq_true rfl) rfl [0] rfl (fun _ => rfl) rfl dX11_does_2 ?_
  intro u_2 h_2
  obtain ⟨s2, k2⟩ := u_2
  dsimp only at h_2
  obtain ⟨hs2, hk2⟩ := h_2
  dsimp only [jput, List.set_cons_zero, List.set_cons_succ, Option.toList, List.append, List.cons_append, List.nil_append, List.append_nil]
  have hb2 : k2 < 4 := by rw [hk2]; exact jdv_lt (by omega)
  refine J.istore_n g dX11_does_5 rfl rfl rfl ?_
  try dsimp only [List.set_cons_zero, List.set_cons_succ]
  refine J.aload_n g dX11_does_6 rfl rfl ?_
  refine J.callV0 g (c_X11_order l γ _ _ _ _ _ _ _ _ _ _ _ _ _ _ _ _ _ _ _ _ _ _ _ _ _ _ _ _ _ _ _ _ _ _ _ _ _ _ _ _ hw) jy_X11_order lm_X11_186 (q0 := 0) rfl jX11.1 ⟨⟨Nat.le_of_ble_eq_true rfl, Nat.le_of_ble_eq_true rfl⟩, Nat.le_of_ble_eq_true rfl, Nat.le_of_ble_eq_true rfl⟩ (Nat.le_of_ble_eq_true rfl) rfl [0, 1] rfl rfl dX11_does_7 ?_
  intro _ _
  dsimp only [jpush]
  refine J.if_neN g dX11_does_10 (tgt := 15) (by decide) (by omega) (fun c_10 => ?_) (fun c_10 => ?_)
  · have h0 : cd ≠ 0 := fun z => by subst z; exact c_10 (by decide +kernel)
    have hex := gex_pos cd hw.1 h0
    refine J.iload_n g dX11_does_15 rfl rfl ?_
    refine J.if_neN g dX11_does_16 (tgt := 42) (by decide) (by omega) (fun c_16 => ?_) (fun c_16 => ?_)
    · refine J.iload_n g dX11_does_42 rfl rfl ?_
      refine J.iconstN g 1 dX11_does_43 ?_
      refine J.icmp_neN g dX11_does_44 (tgt := 75) (by decide) (by omega) (by omega) (fun c_44 => ?_) (fun c_44 => ?_)
      · refine J.aload_n g dX11_does_75 rfl rfl ?_
        refine J.aload_n g dX11_does_76 rfl rfl ?_
        refine J.callV0 g (c_X11_order l γ _ _ _ _ _ _ _ _ _ _ _ _ _ _ _ _ _ _ _ _ _ _ _ _ _ _ _ _ _ _ _ _ _ _ _ _ _ _ _ _ hw) jy_X11_order lm_X11_186 (q0 := 0) rfl jX11.1 ⟨⟨Nat.le_of_ble_eq_true rfl, Nat.le_of_ble_eq_true rfl⟩, Nat.le_of_ble_eq_true rfl, Nat.le_of_ble_eq_true rfl⟩ (Nat.le_of_ble_eq_true rfl) rfl [0, 1] rfl rfl dX11_does_77 ?_
        intro _ _
        dsimp only [jpush]
        refine J.callV g (c_X11_draw l γ _ _ _ _ _ _ _ _ _ _ _ _ _ _ _ _ _ _ _ _ _ _ _ _ _ _ _ _ _ _ _ _ _ _ _ _ _ (by omega)) jy_X11_draw lm_X11_295 (q0 := 0) rfl jX11.1 ⟨⟨Nat.le_of_ble_eq_true rfl, Nat.le_of_ble_eq_true rfl⟩, Nat.le_of_ble_eq_true rfl, Nat.le_of_ble_eq_true rfl⟩ (Nat.le_of_ble_eq_true rfl) rfl [0] rfl (fun _ => rfl) rfl dX11_does_80 ?_
        intro u_80 h_80
        obtain ⟨s80, k80⟩ := u_80
        dsimp only at h_80
        obtain ⟨hs80, hk80⟩ := h_80
        dsimp only [jput, List.set_cons_zero, List.set_cons_succ, Option.toList, List.append, List.cons_append, List.nil_append, List.append_nil]
        have hb80 : k80 < god cd := by rw [hk80]; exact jdv_lt (by omega)
        refine J.istore_n g dX11_does_83 rfl rfl rfl ?_
        try dsimp only [List.set_cons_zero, List.set_cons_succ]
        refine J.aload_n g dX11_does_84 rfl rfl ?_
        refine J.callV0 g (c_X11_places l γ _ _ _ _ _ _ _ _ _ _ _ _ _ _ _ _ _ _ _ _ _ _ _ _ _ _ _ _ _ _ _ _ _ _ _ _ _ _ _ _ hw) jy_X11_places lm_X11_190 (q0 := 0) rfl jX11.1 ⟨⟨Nat.le_of_ble_eq_true rfl, Nat.le_of_ble_eq_true rfl⟩, Nat.le_of_ble_eq_true rfl, Nat.le_of_ble_eq_true rfl⟩ (Nat.le_of_ble_eq_true rfl) rfl [0, 1] rfl rfl dX11_does_85 ?_
        intro _ _
        dsimp only [jpush]
        refine J.bipush (v := nI 12) g dX11_does_88 (by decide +kernel) ?_
        refine J.icmp_neN g dX11_does_90 (tgt := 95) (by decide) (by omega) (by omega) (fun c_90 => ?_) (fun c_90 => ?_)
        · refine J.aload_n g dX11_does_95 rfl rfl ?_
          refine J.iload_n g dX11_does_96 rfl rfl ?_
          refine J.callV g (c_X11_comes l γ _ _ _ _ _ _ _ _ _ _ _ _ _ _ _ _ _ _ _ _ _ _ _ _ _ _ _ _ _ _ _ _ _ _ _ _ _ _ _ _ _ hw (by omega) hb80) jy_X11_comes lm_X11_279 (q0 := 0) rfl jX11.1 ⟨⟨Nat.le_of_ble_eq_true rfl, Nat.le_of_ble_eq_true rfl⟩, Nat.le_of_ble_eq_true rfl, Nat.le_of_ble_eq_true rfl⟩ (Nat.le_of_ble_eq_true rfl) rfl [0, 1] rfl (fun _ => rfl) rfl dX11_does_97 ?_
          intro u_97 h_97
          dsimp only [jput, List.set_cons_zero, List.set_cons_succ, Option.toList, List.append, List.cons_append, List.nil_append, List.append_nil]
          refine J.iconstN g 1 dX11_does_100 ?_
          exact J.zret (by first | rfl | exact j_nz _) g hE ((s80, n + 1, va_up f n k80), u_97) (jB_t (by subst hk80; subst hs80; subst hk2; subst hs2; rw [jdd_c c_10 c_16 c_44 (by omega)])) ⟨by subst hk80; subst hs80; subst hk2; subst hs2; rw [jdd_c c_10 c_16 c_44 (by omega)], h_97⟩ rfl ⟨Nat.le_of_ble_eq_true rfl, Nat.le_of_ble_eq_true rfl⟩ dX11_does_101
        · refine J.iconstN g 0 dX11_does_93 ?_
          exact J.zret (by first | rfl | exact j_nz _) g hE ((s80, n, f), w) (jB_f (by subst hk80; subst hs80; subst hk2; subst hs2; rw [jdd_c0 c_10 c_16 c_44 (by omega)])) ⟨by subst hk80; subst hs80; subst hk2; subst hs2; rw [jdd_c0 c_10 c_16 c_44 (by omega)], hw⟩ rfl ⟨Nat.le_of_ble_eq_true rfl, Nat.le_of_ble_eq_true rfl⟩ dX11_does_94
      · refine J.aload_n g dX11_does_47 rfl rfl ?_
        refine J.aload_n g dX11_does_48 rfl rfl ?_
        refine J.callV0 g (c_X11_exponent l γ _ _ _ _ _ _ _ _ _ _ _ _ _ _ _ _ _ _ _ _ _ _ _ _ _ _ _ _ _ _ _ _ _ _ _ _ _ _ _ _ hw) jy_X11_exponent lm_X11_210 (q0 := 0) rfl jX11.1 ⟨⟨Nat.le_of_ble_eq_true rfl, Nat.le_of_ble_eq_true rfl⟩, Nat.le_of_ble_eq_true rfl, Nat.le_of_ble_eq_true rfl⟩ (Nat.le_of_ble_eq_true rfl) rfl [0, 1] rfl rfl dX11_does_49 ?_
        intro _ _
        dsimp only [jpush]
        refine J.callV g (c_X11_draw l γ _ _ _ _ _ _ _ _ _ _ _ _ _ _ _ _ _ _ _ _ _ _ _ _ _ _ _ _ _ _ _ _ _ _ _ _ _ (by omega)) jy_X11_draw lm_X11_295 (q0 := 0) rfl jX11.1 ⟨⟨Nat.le_of_ble_eq_true rfl, Nat.le_of_ble_eq_true rfl⟩, Nat.le_of_ble_eq_true rfl, Nat.le_of_ble_eq_true rfl⟩ (Nat.le_of_ble_eq_true rfl) rfl [0] rfl (fun _ => rfl) rfl dX11_does_52 ?_
        intro u_52 h_52
        obtain ⟨s52, k52⟩ := u_52
        dsimp only at h_52
        obtain ⟨hs52, hk52⟩ := h_52
        dsimp only [jput, List.set_cons_zero, List.set_cons_succ, Option.toList, List.append, List.cons_append, List.nil_append, List.append_nil]
        have hb52 : k52 < gex cd := by rw [hk52]; exact jdv_lt (by omega)
        refine J.iconstN g 1 dX11_does_55 ?_
        refine J.iaddN g dX11_does_56 ?_
        refine J.istore_n g dX11_does_57 rfl rfl rfl ?_
        try dsimp only [List.set_cons_zero, List.set_cons_succ]
        refine J.aload_n g dX11_does_58 rfl rfl ?_
        refine J.iload_n g dX11_does_59 rfl rfl ?_
        refine J.callV0 g (c_X11_mayTimes l γ _ _ _ _ _ _ _ _ _ _ _ _ _ _ _ _ _ _ _ _ _ _ _ _ _ _ _ _ _ _ _ _ _ _ _ _ _ _ _ _ _ hw) jy_X11_mayTimes lm_X11_285 (q0 := 0) rfl jX11.1 ⟨⟨Nat.le_of_ble_eq_true rfl, Nat.le_of_ble_eq_true rfl⟩, Nat.le_of_ble_eq_true rfl, Nat.le_of_ble_eq_true rfl⟩ (Nat.le_of_ble_eq_true rfl) rfl [0, 1] rfl rfl dX11_does_60 ?_
        intro _ _
        dsimp only [jpush]
        refine J.if_neB g dX11_does_63 (tgt := 68) (by decide) (fun c_63 => ?_) (fun c_63 => ?_)
        · refine J.aload_n g dX11_does_68 rfl rfl ?_
          refine J.iload_n g dX11_does_69 rfl rfl ?_
          refine J.callV g (c_X11_multiplies l γ _ _ _ _ _ _ _ _ _ _ _ _ _ _ _ _ _ _ _ _ _ _ _ _ _ _ _ _ _ _ _ _ _ _ _ _ _ _ _ _ _ hw (by omega)) jy_X11_multiplies lm_X11_288 (q0 := 0) rfl jX11.1 ⟨⟨Nat.le_of_ble_eq_true rfl, Nat.le_of_ble_eq_true rfl⟩, Nat.le_of_ble_eq_true rfl, Nat.le_of_ble_eq_true rfl⟩ (Nat.le_of_ble_eq_true rfl) rfl [0, 1] rfl (fun _ => rfl) rfl dX11_does_70 ?_
          intro u_70 h_70
          dsimp only [jput, List.set_cons_zero, List.set_cons_succ, Option.toList, List.append, List.cons_append, List.nil_append, List.append_nil]
          refine J.iconstN g 1 dX11_does_73 ?_
          exact J.zret (by first | rfl | exact j_nz _) g hE ((s52, n, (fun j => jmul (god cd) (jmf cd) (f j) (k52 + 1))), u_70) (jB_t (by subst hk52; subst hs52; subst hk2; subst hs2; rw [jdd_m c_10 c_16 c_44 c_63])) ⟨by subst hk52; subst hs52; subst hk2; subst hs2; rw [jdd_m c_10 c_16 c_44 c_63], h_70⟩ rfl ⟨Nat.le_of_ble_eq_true rfl, Nat.le_of_ble_eq_true rfl⟩ dX11_does_74
        · refine J.iconstN g 0 dX11_does_66 ?_
          exact J.zret (by first | rfl | exact j_nz _) g hE ((s52, n, f), w) (jB_f (by subst hk52; subst hs52; subst hk2; subst hs2; rw [jdd_m0 c_10 c_16 c_44 c_63])) ⟨by subst hk52; subst hs52; subst hk2; subst hs2; rw [jdd_m0 c_10 c_16 c_44 c_63], hw⟩ rfl ⟨Nat.le_of_ble_eq_true rfl, Nat.le_of_ble_eq_true rfl⟩ dX11_does_67
    · refine J.aload_n g dX11_does_19 rfl rfl ?_
      refine J.callV0 g (c_X11_places l γ _ _ _ _ _ _ _ _ _ _ _ _ _ _ _ _ _ _ _ _ _ _ _ _ _ _ _ _ _ _ _ _ _ _ _ _ _ _ _ _ hw) jy_X11_places lm_X11_190 (q0 := 0) rfl jX11.1 ⟨⟨Nat.le_of_ble_eq_true rfl, Nat.le_of_ble_eq_true rfl⟩, Nat.le_of_ble_eq_true rfl, Nat.le_of_ble_eq_true rfl⟩ (Nat.le_of_ble_eq_true rfl) rfl [0, 1] rfl rfl dX11_does_20 ?_
      intro _ _
      dsimp only [jpush]
      refine J.if_neN g dX11_does_23 (tgt := 28) (by decide) (by omega) (fun c_23 => ?_) (fun c_23 => ?_)
      · refine J.aload_n g dX11_does_28 rfl rfl ?_
        refine J.aload_n g dX11_does_29 rfl rfl ?_
        refine J.aload_n g dX11_does_30 rfl rfl ?_
        refine J.callV0 g (c_X11_places l γ _ _ _ _ _ _ _ _ _ _ _ _ _ _ _ _ _ _ _ _ _ _ _ _ _ _ _ _ _ _ _ _ _ _ _ _ _ _ _ _ hw) jy_X11_places lm_X11_190 (q0 := 0) rfl jX11.1 ⟨⟨Nat.le_of_ble_eq_true rfl, Nat.le_of_ble_eq_true rfl⟩, Nat.le_of_ble_eq_true rfl, Nat.le_of_ble_eq_true rfl⟩ (Nat.le_of_ble_eq_true rfl) rfl [0, 1] rfl rfl dX11_does_31 ?_
        intro _ _
        dsimp only [jpush]
        refine J.callV g (c_X11_draw l γ _ _ _ _ _ _ _ _ _ _ _ _ _ _ _ _ _ _ _ _ _ _ _ _ _ _ _ _ _ _ _ _ _ _ _ _ _ (by omega)) jy_X11_draw lm_X11_295 (q0 := 0) rfl jX11.1 ⟨⟨Nat.le_of_ble_eq_true rfl, Nat.le_of_ble_eq_true rfl⟩, Nat.le_of_ble_eq_true rfl, Nat.le_of_ble_eq_true rfl⟩ (Nat.le_of_ble_eq_true rfl) rfl [0] rfl (fun _ => rfl) rfl dX11_does_34 ?_
        intro u_34 h_34
        obtain ⟨s34, k34⟩ := u_34
        dsimp only at h_34
        obtain ⟨hs34, hk34⟩ := h_34
        dsimp only [jput, List.set_cons_zero, List.set_cons_succ, Option.toList, List.append, List.cons_append, List.nil_append, List.append_nil]
        have hb34 : k34 < n := by rw [hk34]; exact jdv_lt (by omega)
        refine J.callV g (c_X11_goes l γ _ _ _ _ _ _ _ _ _ _ _ _ _ _ _ _ _ _ _ _ _ _ _ _ _ _ _ _ _ _ _ _ _ _ _ _ _ _ _ _ _ hw hb34) jy_X11_goes lm_X11_282 (q0 := 0) rfl jX11.1 ⟨⟨Nat.le_of_ble_eq_true rfl, Nat.le_of_ble_eq_true rfl⟩, Nat.le_of_ble_eq_true rfl, Nat.le_of_ble_eq_true rfl⟩ (Nat.le_of_ble_eq_true rfl) rfl [0, 1] rfl (fun _ => rfl) rfl dX11_does_37 ?_
        intro u_37 h_37
        dsimp only [jput, List.set_cons_zero, List.set_cons_succ, Option.toList, List.append, List.cons_append, List.nil_append, List.append_nil]
        refine J.iconstN g 1 dX11_does_40 ?_
        exact J.zret (by first | rfl | exact j_nz _) g hE ((s34, n - 1, (fun j => if k34 ≤ j ∧ j < n - 1 then f (j + 1) else f j)), u_37) (jB_t (by subst hk34; subst hs34; subst hk2; subst hs2; rw [jdd_g c_10 c_16 (by omega)])) ⟨by subst hk34; subst hs34; subst hk2; subst hs2; rw [jdd_g c_10 c_16 (by omega)], h_37⟩ rfl ⟨Nat.le_of_ble_eq_true rfl, Nat.le_of_ble_eq_true rfl⟩ dX11_does_41
      · refine J.iconstN g 0 dX11_does_26 ?_
        exact J.zret (by first | rfl | exact j_nz _) g hE ((s2, n, f), w) (jB_f (by subst hk2; subst hs2; rw [jdd_g0 c_10 c_16 (by omega)])) ⟨by subst hk2; subst hs2; rw [jdd_g0 c_10 c_16 (by omega)], hw⟩ rfl ⟨Nat.le_of_ble_eq_true rfl, Nat.le_of_ble_eq_true rfl⟩ dX11_does_27
  · refine J.iconstN g 0 dX11_does_13 ?_
    exact J.zret (by first | rfl | exact j_nz _) g hE ((s2, n, f), w) (jB_f (by subst hk2; subst hs2; rw [jdd_0 c_10])) ⟨by subst hk2; subst hs2; rw [jdd_0 c_10], hw⟩ rfl ⟨Nat.le_of_ble_eq_true rfl, Nat.le_of_ble_eq_true rfl⟩ dX11_does_14
set_option maxHeartbeats 4000000 in
set_option maxRecDepth 100000 in
theorem c_X11_drawn_yes (l : Launch) (γ : jγ) (mo mta mtd msz mto mfr mso mnu mfa mpl mro mnw mrd mkp msn mbf mlv mik msm msu mbe mfe mmy mof msf mlr mty mfm mrn mrb mln mtb : Nat) (mth mfw mse : Int32) (mwd : Int64) (cd n : Nat) (f w : Nat → Nat) (SS : Nat → Nat) (bf lv : Nat → Nat) (nn : Nat) (seed : Int32) (hw : mIs cd n f w) (hm8 : msm ≤ 8) (hnn : 1 ≤ nn ∧ nn ≤ 60) : jM (S := Int32 × (Nat → Nat) × (Nat → Nat) × (Nat → Nat) × (Nat → Nat)) l γ yX11_drawn cX11_drawn 5 (some .int) ({ frames := 49, cells := 0, slots := 0, locals := 1186 } : Room) [.ref mo, .int (nI nn), .int seed] [(mo, .inr (11, [.int mth, .ref mta, .int (nI mtd), .int (nI msz), .int (nI mto), .int (nI mfr), .int (nI mso), .int (nI mnu), .int (nI mfa), .int mfw, .int (nI mpl), .int (nI mro), .long mwd, .ref mnw, .ref mrd, .ref mkp, .ref msn, .ref mbf, .ref mlv, .ref mik, .int (nI msm), .ref msu, .ref mbe, .ref mfe, .ref mmy, .ref mof, .ref msf, .ref mlr, .ref mty, .ref mfm, .ref mrn, .ref mrb, .int (nI mln), .ref mtb, .int mse])), (mnw, .inl (γ.2 0, 17, .inl (fun j => nI (w j)))), (msn, .inl (γ.2 0, 136, .inl (fun j => nI (SS j)))), (mbf, .inl (γ.2 0, 17, .inl (fun j => nI (bf j)))), (mlv, .inl (γ.2 0, 17, .inl (fun j => nI (lv j))))] (fun u => some (.int (nI ((jdn (god cd) (gex cd) (jmf cd) (seed, n, f) nn).1)))) (fun u => [(mo, .inr (11, [.int (nI 0), .ref mta, .int (nI mtd), .int (nI msz), .int (nI mto), .int (nI mfr), .int (nI mso), .int (nI mnu), .int (nI mfa), .int mfw, .int (nI mpl), .int (nI mro), .long mwd, .ref mnw, .ref mrd, .ref mkp, .ref msn, .ref mbf, .ref mlv, .ref mik, .int (nI (if 0 < (jdn (god cd) (gex cd) (jmf cd) (seed, n, f) nn).1 then (if msm = 8 then 8 else msm + 1) else msm)), .ref msu, .ref mbe, .ref mfe, .ref mmy, .ref mof, .ref msf, .ref mlr, .ref mty, .ref mfm, .ref mrn, .ref mrb, .int (nI mln), .ref mtb, .int u.1])), (mnw, .inl (γ.2 0, 17, .inl (fun j => nI (u.2.1 j)))), (msn, .inl (γ.2 0, 136, .inl (fun j => nI (u.2.2.1 j)))), (mbf, .inl (γ.2 0, 17, .inl (fun j => nI (u.2.2.2.1 j)))), (mlv, .inl (γ.2 0, 17, .inl (fun j => nI (u.2.2.2.2 j))))]) (fun u => mIs cd (jdn (god cd) (gex cd) (jmf cd) (seed, n, f) nn).2.2.1 (jdn (god cd) (gex cd) (jmf cd) (seed, n, f) nn).2.2.2 u.2.1 ∧ if 0 < (jdn (god cd) (gex cd) (jmf cd) (seed, n, f) nn).1 then msnp SS w msm u.2.2.1 else u.2.2.1 = SS) := by
  refine jM.of [some (.ref mo), some (.int (nI nn)), some (.int seed), none, none] rfl (Nat.le_of_ble_eq_true rfl) (by decide) ?_
  intro x g hE hin
  have hwg := hw.g
  have hw5 := hw.2.2.2.2.2.1
  have hwf := hw.2.2.2.2.2.2
  have hw3 := hw.2.2.1
  refine J.aload_n g dX11_drawn_0 rfl rfl ?_
  refine J.iconstN g 0 dX11_drawn_1 ?_
  refine J.put g jX11 0 (by decide) lf_X11_1 0 rfl rfl (Nat.le_of_ble_eq_true rfl) rfl rfl dX11_drawn_2 ?_
  try dsimp only [List.set_cons_zero, List.set_cons_succ]
  refine J.iload_n g dX11_drawn_5 rfl rfl ?_
  refine J.iconstN g 1 dX11_drawn_6 ?_
  refine J.bipush (v := nI 60) g dX11_drawn_7 (by decide +kernel) ?_
  refine J.callS0 g (c_X11_isIn l γ _ _ _ ) jy_X11_isIn lm_X11_157 ⟨⟨Nat.le_of_ble_eq_true rfl, Nat.le_of_ble_eq_true rfl⟩, Nat.le_of_ble_eq_true rfl, Nat.le_of_ble_eq_true rfl⟩ (Nat.le_of_ble_eq_true rfl) rfl [] rfl rfl dX11_drawn_9 ?_
  intro _ _
  dsimp only [jpush]
  refine J.if_neB g dX11_drawn_12 (tgt := 17) (by decide) (fun c_12 => ?_) (fun c_12 => absurd c_12 (by rw [mIn_nn (by omega) (by omega) (by omega), decide_eq_true hnn] at c_12; cases c_12))
  refine J.aload_n g dX11_drawn_17 rfl rfl ?_
  refine J.get g jX11 13 (by decide) lf_X11_85 0 rfl rfl dX11_drawn_18 ?_
  refine J.iconstN g 0 dX11_drawn_21 ?_
  refine J.aload_n g dX11_drawn_22 rfl rfl ?_
  refine J.get g jX11 17 (by decide) lf_X11_97 0 rfl rfl dX11_drawn_23 ?_
  refine J.iconstN g 0 dX11_drawn_26 ?_
  refine J.callS g (c_X11_copy l γ _ _ _ _ _ _ _ _ (by decide) (by decide) (by omega) (by omega)) jy_X11_copy lm_X11_179 ⟨⟨Nat.le_of_ble_eq_true rfl, Nat.le_of_ble_eq_true rfl⟩, Nat.le_of_ble_eq_true rfl, Nat.le_of_ble_eq_true rfl⟩ (Nat.le_of_ble_eq_true rfl) rfl [1, 3] rfl (fun _ => rfl) rfl dX11_drawn_27 ?_
  intro u_27 h_27
  dsimp only [jput, List.set_cons_zero, List.set_cons_succ, Option.toList, List.append, List.cons_append, List.nil_append, List.append_nil]
  have hjl : ∀ i, (jdn (god cd) (gex cd) (jmf cd) (seed, n, f) i).1 ≤ i := fun i => jdn_le i
  refine J.aload_n g dX11_drawn_30 rfl rfl ?_
  refine J.iload_n g dX11_drawn_31 rfl rfl ?_
  refine J.put g jX11 34 (by decide) lf_X11_291 0 rfl rfl (Nat.le_of_ble_eq_true rfl) rfl rfl dX11_drawn_32 ?_
  try dsimp only [List.set_cons_zero, List.set_cons_succ]
  refine J.iconstN g 0 dX11_drawn_35 ?_
  refine J.istore_n g dX11_drawn_36 rfl rfl rfl ?_
  try dsimp only [List.set_cons_zero, List.set_cons_succ]
  refine J.iconstN g 0 dX11_drawn_37 ?_
  refine J.istore g dX11_drawn_38 rfl rfl ?_
  try dsimp only [List.set_cons_zero, List.set_cons_succ]
  have lp : ∀ (d : Nat) (i : Nat) (w1 : Nat → Nat), nn - i < d → (i ≤ nn) → (mIs cd (jdn (god cd) (gex cd) (jmf cd) (seed, n, f) i).2.2.1 (jdn (god cd) (gex cd) (jmf cd) (seed, n, f) i).2.2.2 w1) → J γ l x [(mo, .inr (11, [.int (nI 0), .ref mta, .int (nI mtd), .int (nI msz), .int (nI mto), .int (nI mfr), .int (nI mso), .int (nI mnu), .int (nI mfa), .int mfw, .int (nI mpl), .int (nI mro), .long mwd, .ref mnw, .ref mrd, .ref mkp, .ref msn, .ref mbf, .ref mlv, .ref mik, .int (nI msm), .ref msu, .ref mbe, .ref mfe, .ref mmy, .ref mof, .ref msf, .ref mlr, .ref mty, .ref mfm, .ref mrn, .ref mrb, .int (nI mln), .ref mtb, .int ((jdn (god cd) (gex cd) (jmf cd) (seed, n, f) i).2.1)])), (mnw, .inl (γ.2 0, 17, .inl (fun j => nI (w1 j)))), (msn, .inl (γ.2 0, 136, .inl (fun j => nI (SS j)))), (mbf, .inl (γ.2 0, 17, .inl (fun j => nI (u_27 j)))), (mlv, .inl (γ.2 0, 17, .inl (fun j => nI (lv j))))] [some (.ref mo), some (.int (nI nn)), some (.int seed), some (.int (nI ((jdn (god cd) (gex cd) (jmf cd) (seed, n, f) i).1))), some (.int (nI i))] [] 0 0 40 := by
    intro d
    induction d with
    | zero => intro i w1 hm; exact absurd hm (Nat.not_lt_zero _)
    | succ d ih_lp =>
      intro i w1 hm hi hmi
      refine J.iload g dX11_drawn_40 rfl ?_
      refine J.iload_n g dX11_drawn_42 rfl rfl ?_
      refine J.icmp_geN g dX11_drawn_43 (tgt := 62) (by decide) (by omega) (by omega) (fun c_43 => ?_) (fun c_43 => ?_)
      · obtain rfl : i = nn := by omega
        have hji := hjl i
        refine J.iload_n g dX11_drawn_62 rfl rfl ?_
        refine J.if_leN g dX11_drawn_63 (tgt := 70) (by decide) (by omega) (fun c_63 => ?_) (fun c_63 => ?_)
        · refine J.iload_n g dX11_drawn_70 rfl rfl ?_
          exact J.iret g hE (_, w1, SS, u_27, lv) rfl ⟨hmi, by rw [if_neg (show ¬ 0 < (jdn (god cd) (gex cd) (jmf cd) (seed, n, f) i).1 by omega)]⟩ (by first | rw [if_pos (show 0 < (jdn (god cd) (gex cd) (jmf cd) (seed, n, f) i).1 by omega)] | rw [if_neg (show ¬ 0 < (jdn (god cd) (gex cd) (jmf cd) (seed, n, f) i).1 by omega)]) ⟨Nat.le_of_ble_eq_true rfl, Nat.le_of_ble_eq_true rfl⟩ dX11_drawn_71
        · refine J.aload_n g dX11_drawn_66 rfl rfl ?_
          refine J.callV g (c_X11_stay l γ _ _ _ _ _ _ _ _ _ _ _ _ _ _ _ _ _ _ _ _ _ _ _ _ _ _ _ _ _ _ _ _ _ _ _ _ _ _ _ _ hm8) jy_X11_stay lm_X11_301 (q0 := 0) rfl jX11.1 ⟨⟨Nat.le_of_ble_eq_true rfl, Nat.le_of_ble_eq_true rfl⟩, Nat.le_of_ble_eq_true rfl, Nat.le_of_ble_eq_true rfl⟩ (Nat.le_of_ble_eq_true rfl) rfl [0, 1, 2, 3, 4] rfl (fun _ => rfl) rfl dX11_drawn_67 ?_
          intro u_67 h_67
          dsimp only [jput, List.set_cons_zero, List.set_cons_succ, Option.toList, List.append, List.cons_append, List.nil_append, List.append_nil]
          refine J.iload_n g dX11_drawn_70 rfl rfl ?_
          exact J.iret g hE (_, u_67.1, u_67.2.1, u_27, u_67.2.2) rfl ⟨mIs_c hmi h_67.1, by rw [if_pos (show 0 < (jdn (god cd) (gex cd) (jmf cd) (seed, n, f) i).1 by omega)]; exact msnp_c h_67.2 (fun j hj => by rw [h_27, if_pos (by omega), show 0 + (j - 0) = j by omega])⟩ (by first | rw [if_pos (show 0 < (jdn (god cd) (gex cd) (jmf cd) (seed, n, f) i).1 by omega)] | rw [if_neg (show ¬ 0 < (jdn (god cd) (gex cd) (jmf cd) (seed, n, f) i).1 by omega)]) ⟨Nat.le_of_ble_eq_true rfl, Nat.le_of_ble_eq_true rfl⟩ dX11_drawn_71
      · refine J.aload_n g dX11_drawn_46 rfl rfl ?_
        refine J.callV g (c_X11_does l γ _ _ _ _ _ _ _ _ _ _ _ _ _ _ _ _ _ _ _ _ _ _ _ _ _ _ _ _ _ _ _ _ _ _ _ _ _ _ _ _ hmi) jy_X11_does lm_X11_298 (q0 := 0) rfl jX11.1 ⟨⟨Nat.le_of_ble_eq_true rfl, Nat.le_of_ble_eq_true rfl⟩, Nat.le_of_ble_eq_true rfl, Nat.le_of_ble_eq_true rfl⟩ (Nat.le_of_ble_eq_true rfl) rfl [0, 1] rfl (fun _ => rfl) rfl dX11_drawn_47 ?_
        intro u_47 h_47
        obtain ⟨hu47, hm47⟩ := h_47
        dsimp only [jput, List.set_cons_zero, List.set_cons_succ, Option.toList, List.append, List.cons_append, List.nil_append, List.append_nil]
        have hj9 : (jdn (god cd) (gex cd) (jmf cd) (seed, n, f) (i + 1)).2 = u_47.1 := hu47.symm
        have hmn : mIs cd (jdn (god cd) (gex cd) (jmf cd) (seed, n, f) (i + 1)).2.2.1 (jdn (god cd) (gex cd) (jmf cd) (seed, n, f) (i + 1)).2.2.2 u_47.2 := by rw [hj9]; exact hm47
        have hq2 : (jdn (god cd) (gex cd) (jmf cd) (seed, n, f) (i + 1)).2.1 = u_47.1.1 := by rw [hj9]
        refine J.if_eqB g dX11_drawn_50 (tgt := 56) (by decide) (fun c_50 => ?_) (fun c_50 => ?_)
        · have hq : (jdn (god cd) (gex cd) (jmf cd) (seed, n, f) (i + 1)).1 = (jdn (god cd) (gex cd) (jmf cd) (seed, n, f) i).1 := if_neg (by rw [c_50]; decide)
          refine J.iincN g 1 dX11_drawn_56 rfl rfl ?_
          try dsimp only [List.set_cons_zero, List.set_cons_succ]
          refine J.goto g dX11_drawn_59 (tgt := 40) (by decide) ?_
          have ih2 := ih_lp (i + 1) u_47.2 (by omega) (by omega) hmn
          rw [hq, hq2] at ih2
          exact J.lvle (jle_s (jle_s (jle_s (jle_s (jle_s jle_0))))) ih2
        · have hq : (jdn (god cd) (gex cd) (jmf cd) (seed, n, f) (i + 1)).1 = (jdn (god cd) (gex cd) (jmf cd) (seed, n, f) i).1 + 1 := if_pos c_50
          refine J.iincN g 1 dX11_drawn_53 rfl rfl ?_
          try dsimp only [List.set_cons_zero, List.set_cons_succ]
          refine J.iincN g 1 dX11_drawn_56 rfl rfl ?_
          try dsimp only [List.set_cons_zero, List.set_cons_succ]
          refine J.goto g dX11_drawn_59 (tgt := 40) (by decide) ?_
          have ih2 := ih_lp (i + 1) u_47.2 (by omega) (by omega) hmn
          rw [hq, hq2] at ih2
          exact J.lvle (jle_s (jle_s (jle_s (jle_s (jle_s jle_0))))) ih2
  exact J.lvle (jle_s (jle_s (jle_s (jle_s (jle_s jle_0))))) (lp _ 0 w (Nat.lt_succ_self _) (Nat.zero_le _) hw)
set_option maxHeartbeats 4000000 in
set_option maxRecDepth 100000 in
theorem c_X11_drawn_no (l : Launch) (γ : jγ) (mo mta mtd msz mto mfr mso mnu mfa mpl mro mnw mrd mkp msn mbf mlv mik msm msu mbe mfe mmy mof msf mlr mty mfm mrn mrb mln mtb : Nat) (mth mfw mse : Int32) (mwd : Int64) (a b : Int32) (hi : mIn a (nI 1) (nI 60) = false) : jM (S := Unit) l γ yX11_drawn cX11_drawn 5 (some .int) ({ frames := 49, cells := 0, slots := 0, locals := 1186 } : Room) [.ref mo, .int a, .int b] [(mo, .inr (11, [.int mth, .ref mta, .int (nI mtd), .int (nI msz), .int (nI mto), .int (nI mfr), .int (nI mso), .int (nI mnu), .int (nI mfa), .int mfw, .int (nI mpl), .int (nI mro), .long mwd, .ref mnw, .ref mrd, .ref mkp, .ref msn, .ref mbf, .ref mlv, .ref mik, .int (nI msm), .ref msu, .ref mbe, .ref mfe, .ref mmy, .ref mof, .ref msf, .ref mlr, .ref mty, .ref mfm, .ref mrn, .ref mrb, .int (nI mln), .ref mtb, .int mse]))] (fun w0 => some (.int (-1))) (fun w0 => [(mo, .inr (11, [.int (nI 0), .ref mta, .int (nI mtd), .int (nI msz), .int (nI mto), .int (nI mfr), .int (nI mso), .int (nI mnu), .int (nI mfa), .int mfw, .int (nI mpl), .int (nI mro), .long mwd, .ref mnw, .ref mrd, .ref mkp, .ref msn, .ref mbf, .ref mlv, .ref mik, .int (nI msm), .ref msu, .ref mbe, .ref mfe, .ref mmy, .ref mof, .ref msf, .ref mlr, .ref mty, .ref mfm, .ref mrn, .ref mrb, .int (nI mln), .ref mtb, .int mse]))]) (fun w0 => True) := by
  refine jM.of [some (.ref mo), some (.int a), some (.int b), none, none] rfl (Nat.le_of_ble_eq_true rfl) (by decide) ?_
  intro x g hE hin
  refine J.aload_n g dX11_drawn_0 rfl rfl ?_
  refine J.iconstN g 0 dX11_drawn_1 ?_
  refine J.put g jX11 0 (by decide) lf_X11_1 0 rfl rfl (Nat.le_of_ble_eq_true rfl) rfl rfl dX11_drawn_2 ?_
  try dsimp only [List.set_cons_zero, List.set_cons_succ]
  refine J.iload_n g dX11_drawn_5 rfl rfl ?_
  refine J.iconstN g 1 dX11_drawn_6 ?_
  refine J.bipush (v := nI 60) g dX11_drawn_7 (by decide +kernel) ?_
  refine J.callS0 g (c_X11_isIn l γ _ _ _ ) jy_X11_isIn lm_X11_157 ⟨⟨Nat.le_of_ble_eq_true rfl, Nat.le_of_ble_eq_true rfl⟩, Nat.le_of_ble_eq_true rfl, Nat.le_of_ble_eq_true rfl⟩ (Nat.le_of_ble_eq_true rfl) rfl [] rfl rfl dX11_drawn_9 ?_
  intro _ _
  dsimp only [jpush]
  refine J.if_neB g dX11_drawn_12 (tgt := 17) (by decide) (fun c_12 => absurd c_12 (by rw [hi] at c_12; cases c_12)) (fun c_12 => ?_)
  refine J.iconst (v := -1) g dX11_drawn_15 (by decide) ?_
  exact J.iret g hE () rfl trivial rfl ⟨Nat.le_of_ble_eq_true rfl, Nat.le_of_ble_eq_true rfl⟩ dX11_drawn_16
set_option maxHeartbeats 4000000 in
set_option maxRecDepth 100000 in
theorem c_X11_undo_yes (l : Launch) (γ : jγ) (mo mta mtd msz mto mfr mso mnu mfa mpl mro mnw mrd mkp msn mbf mlv mik msm msu mbe mfe mmy mof msf mlr mty mfm mrn mrb mln mtb : Nat) (mth mfw mse : Int32) (mwd : Int64) (w SS : Nat → Nat) (hm : 1 ≤ msm ∧ msm ≤ 8) : jM (S := Nat → Nat) l γ yX11_undo cX11_undo 1 (some .int) ({ frames := 1, cells := 0, slots := 0, locals := 24 } : Room) [.ref mo] [(mo, .inr (11, [.int mth, .ref mta, .int (nI mtd), .int (nI msz), .int (nI mto), .int (nI mfr), .int (nI mso), .int (nI mnu), .int (nI mfa), .int mfw, .int (nI mpl), .int (nI mro), .long mwd, .ref mnw, .ref mrd, .ref mkp, .ref msn, .ref mbf, .ref mlv, .ref mik, .int (nI msm), .ref msu, .ref mbe, .ref mfe, .ref mmy, .ref mof, .ref msf, .ref mlr, .ref mty, .ref mfm, .ref mrn, .ref mrb, .int (nI mln), .ref mtb, .int mse])), (mnw, .inl (γ.2 0, 17, .inl (fun j => nI (w j)))), (msn, .inl (γ.2 0, 136, .inl (fun j => nI (SS j))))] (fun u => some (.int (nI (msm - 1)))) (fun u => [(mo, .inr (11, [.int (nI 0), .ref mta, .int (nI mtd), .int (nI msz), .int (nI mto), .int (nI mfr), .int (nI mso), .int (nI mnu), .int (nI mfa), .int mfw, .int (nI mpl), .int (nI mro), .long mwd, .ref mnw, .ref mrd, .ref mkp, .ref msn, .ref mbf, .ref mlv, .ref mik, .int (nI (msm - 1)), .ref msu, .ref mbe, .ref mfe, .ref mmy, .ref mof, .ref msf, .ref mlr, .ref mty, .ref mfm, .ref mrn, .ref mrb, .int (nI mln), .ref mtb, .int mse])), (mnw, .inl (γ.2 0, 17, .inl (fun j => nI (u j)))), (msn, .inl (γ.2 0, 136, .inl (fun j => nI (SS j))))]) (fun u => ∀ j, j < 17 → u j = SS (17 * (msm - 1) + j)) := by
  refine jM.of [some (.ref mo)] rfl (Nat.le_of_ble_eq_true rfl) (by decide) ?_
  intro x g hE hin
  refine J.aload_n g dX11_undo_0 rfl rfl ?_
  refine J.iconstN g 0 dX11_undo_1 ?_
  refine J.put g jX11 0 (by decide) lf_X11_1 0 rfl rfl (Nat.le_of_ble_eq_true rfl) rfl rfl dX11_undo_2 ?_
  try dsimp only [List.set_cons_zero, List.set_cons_succ]
  refine J.aload_n g dX11_undo_5 rfl rfl ?_
  refine J.get g jX11 20 (by decide) lf_X11_183 0 rfl rfl dX11_undo_6 ?_
  refine J.if_neN g dX11_undo_9 (tgt := 14) (by decide) (by omega) (fun c_9 => ?_) (fun c_9 => absurd c_9 (by omega))
  refine J.aload_n g dX11_undo_14 rfl rfl ?_
  refine J.dup g dX11_undo_15 rfl ?_
  refine J.get g jX11 20 (by decide) lf_X11_183 0 rfl rfl dX11_undo_16 ?_
  refine J.iconstN g 1 dX11_undo_19 ?_
  refine J.isubN g dX11_undo_20 (by omega) ?_
  refine J.put g jX11 20 (by decide) lf_X11_183 0 rfl rfl (Nat.le_of_ble_eq_true rfl) rfl rfl dX11_undo_21 ?_
  try dsimp only [List.set_cons_zero, List.set_cons_succ]
  refine J.aload_n g dX11_undo_24 rfl rfl ?_
  refine J.get g jX11 16 (by decide) lf_X11_94 0 rfl rfl dX11_undo_25 ?_
  refine J.bipush (v := nI 17) g dX11_undo_28 (by decide +kernel) ?_
  refine J.aload_n g dX11_undo_30 rfl rfl ?_
  refine J.get g jX11 20 (by decide) lf_X11_183 0 rfl rfl dX11_undo_31 ?_
  refine J.imulN g dX11_undo_34 ?_
  refine J.aload_n g dX11_undo_35 rfl rfl ?_
  refine J.get g jX11 13 (by decide) lf_X11_85 0 rfl rfl dX11_undo_36 ?_
  refine J.iconstN g 0 dX11_undo_39 ?_
  refine J.callS g (c_X11_copy l γ _ _ _ _ _ _ _ _ (by decide) (by decide) (by omega) (by omega)) jy_X11_copy lm_X11_179 ⟨⟨Nat.le_of_ble_eq_true rfl, Nat.le_of_ble_eq_true rfl⟩, Nat.le_of_ble_eq_true rfl, Nat.le_of_ble_eq_true rfl⟩ (Nat.le_of_ble_eq_true rfl) rfl [2, 1] rfl (fun _ => rfl) rfl dX11_undo_40 ?_
  intro u_40 h_40
  dsimp only [jput, List.set_cons_zero, List.set_cons_succ, Option.toList, List.append, List.cons_append, List.nil_append, List.append_nil]
  refine J.aload_n g dX11_undo_43 rfl rfl ?_
  refine J.get g jX11 20 (by decide) lf_X11_183 0 rfl rfl dX11_undo_44 ?_
  exact J.iret g hE u_40 rfl (fun j hj => by rw [h_40, if_pos (by omega), show 17 * (msm - 1) + (j - 0) = 17 * (msm - 1) + j by omega]) rfl ⟨Nat.le_of_ble_eq_true rfl, Nat.le_of_ble_eq_true rfl⟩ dX11_undo_47
set_option maxHeartbeats 4000000 in
set_option maxRecDepth 100000 in
theorem c_X11_undo_no (l : Launch) (γ : jγ) (mo mta mtd msz mto mfr mso mnu mfa mpl mro mnw mrd mkp msn mbf mlv mik msm msu mbe mfe mmy mof msf mlr mty mfm mrn mrb mln mtb : Nat) (mth mfw mse : Int32) (mwd : Int64) (hm : msm = 0) : jM (S := Unit) l γ yX11_undo cX11_undo 1 (some .int) ({ frames := 1, cells := 0, slots := 0, locals := 24 } : Room) [.ref mo] [(mo, .inr (11, [.int mth, .ref mta, .int (nI mtd), .int (nI msz), .int (nI mto), .int (nI mfr), .int (nI mso), .int (nI mnu), .int (nI mfa), .int mfw, .int (nI mpl), .int (nI mro), .long mwd, .ref mnw, .ref mrd, .ref mkp, .ref msn, .ref mbf, .ref mlv, .ref mik, .int (nI msm), .ref msu, .ref mbe, .ref mfe, .ref mmy, .ref mof, .ref msf, .ref mlr, .ref mty, .ref mfm, .ref mrn, .ref mrb, .int (nI mln), .ref mtb, .int mse]))] (fun w0 => some (.int (-1))) (fun w0 => [(mo, .inr (11, [.int (nI 0), .ref mta, .int (nI mtd), .int (nI msz), .int (nI mto), .int (nI mfr), .int (nI mso), .int (nI mnu), .int (nI mfa), .int mfw, .int (nI mpl), .int (nI mro), .long mwd, .ref mnw, .ref mrd, .ref mkp, .ref msn, .ref mbf, .ref mlv, .ref mik, .int (nI msm), .ref msu, .ref mbe, .ref mfe, .ref mmy, .ref mof, .ref msf, .ref mlr, .ref mty, .ref mfm, .ref mrn, .ref mrb, .int (nI mln), .ref mtb, .int mse]))]) (fun w0 => True) := by
  refine jM.of [some (.ref mo)] rfl (Nat.le_of_ble_eq_true rfl) (by decide) ?_
  intro x g hE hin
  refine J.aload_n g dX11_undo_0 rfl rfl ?_
  refine J.iconstN g 0 dX11_undo_1 ?_
  refine J.put g jX11 0 (by decide) lf_X11_1 0 rfl rfl (Nat.le_of_ble_eq_true rfl) rfl rfl dX11_undo_2 ?_
  try dsimp only [List.set_cons_zero, List.set_cons_succ]
  refine J.aload_n g dX11_undo_5 rfl rfl ?_
  refine J.get g jX11 20 (by decide) lf_X11_183 0 rfl rfl dX11_undo_6 ?_
  refine J.if_neN g dX11_undo_9 (tgt := 14) (by decide) (by omega) (fun c_9 => absurd c_9 (by omega)) (fun c_9 => ?_)
  refine J.iconst (v := -1) g dX11_undo_12 (by decide) ?_
  exact J.iret g hE () rfl trivial rfl ⟨Nat.le_of_ble_eq_true rfl, Nat.le_of_ble_eq_true rfl⟩ dX11_undo_13
set_option maxHeartbeats 4000000 in
set_option maxRecDepth 100000 in
theorem c_X11_image_yes (l : Launch) (γ : jγ) (mo mta mtd msz mto mfr mso mnu mfa mpl mro mnw mrd mkp msn mbf mlv mik msm msu mbe mfe mmy mof msf mlr mty mfm mrn mrb mln mtb : Nat) (mth mfw mse : Int32) (mwd : Int64) (w KF : Nat → Nat) (ik : Nat → Bool) (k : Nat) (hk : k < 2) : jM (S := Nat → Nat) l γ yX11_image cX11_image 2 (some .boolean) ({ frames := 1, cells := 0, slots := 0, locals := 24 } : Room) [.ref mo, .int (nI k)] [(mo, .inr (11, [.int mth, .ref mta, .int (nI mtd), .int (nI msz), .int (nI mto), .int (nI mfr), .int (nI mso), .int (nI mnu), .int (nI mfa), .int mfw, .int (nI mpl), .int (nI mro), .long mwd, .ref mnw, .ref mrd, .ref mkp, .ref msn, .ref mbf, .ref mlv, .ref mik, .int (nI msm), .ref msu, .ref mbe, .ref mfe, .ref mmy, .ref mof, .ref msf, .ref mlr, .ref mty, .ref mfm, .ref mrn, .ref mrb, .int (nI mln), .ref mtb, .int mse])), (mnw, .inl (γ.2 0, 17, .inl (fun j => nI (w j)))), (mkp, .inl (γ.2 0, 34, .inl (fun j => nI (KF j)))), (mik, .inl (γ.2 2, 2, .inl (fun j => jB (ik j))))] (fun u => some (.int (jB true))) (fun u => [(mo, .inr (11, [.int (nI 0), .ref mta, .int (nI mtd), .int (nI msz), .int (nI mto), .int (nI mfr), .int (nI mso), .int (nI mnu), .int (nI mfa), .int mfw, .int (nI mpl), .int (nI mro), .long mwd, .ref mnw, .ref mrd, .ref mkp, .ref msn, .ref mbf, .ref mlv, .ref mik, .int (nI msm), .ref msu, .ref mbe, .ref mfe, .ref mmy, .ref mof, .ref msf, .ref mlr, .ref mty, .ref mfm, .ref mrn, .ref mrb, .int (nI mln), .ref mtb, .int mse])), (mnw, .inl (γ.2 0, 17, .inl (fun j => nI (w j)))), (mkp, .inl (γ.2 0, 34, .inl (fun j => nI (u j)))), (mik, .inl (γ.2 2, 2, .inl (fun j => jB ((va_up ik k true) j))))]) (fun u => ∀ i j, i < 2 → j < 17 → u (17 * i + j) = if i = k then w j else KF (17 * i + j)) := by
  refine jM.of [some (.ref mo), some (.int (nI k))] rfl (Nat.le_of_ble_eq_true rfl) (by decide) ?_
  intro x g hE hin
  refine J.aload_n g dX11_image_0 rfl rfl ?_
  refine J.iconstN g 0 dX11_image_1 ?_
  refine J.put g jX11 0 (by decide) lf_X11_1 0 rfl rfl (Nat.le_of_ble_eq_true rfl) rfl rfl dX11_image_2 ?_
  try dsimp only [List.set_cons_zero, List.set_cons_succ]
  refine J.iload_n g dX11_image_5 rfl rfl ?_
  refine J.iconstN g 0 dX11_image_6 ?_
  refine J.iconstN g 1 dX11_image_7 ?_
  refine J.callS0 g (c_X11_isIn l γ _ _ _ ) jy_X11_isIn lm_X11_157 ⟨⟨Nat.le_of_ble_eq_true rfl, Nat.le_of_ble_eq_true rfl⟩, Nat.le_of_ble_eq_true rfl, Nat.le_of_ble_eq_true rfl⟩ (Nat.le_of_ble_eq_true rfl) rfl [] rfl rfl dX11_image_8 ?_
  intro _ _
  dsimp only [jpush]
  refine J.if_neB g dX11_image_11 (tgt := 16) (by decide) (fun c_11 => ?_) (fun c_11 => absurd c_11 (by rw [mIn_nn (by omega) (by omega) (by omega), decide_eq_true (by omega)] at c_11; cases c_11))
  refine J.aload_n g dX11_image_16 rfl rfl ?_
  refine J.get g jX11 13 (by decide) lf_X11_85 0 rfl rfl dX11_image_17 ?_
  refine J.iconstN g 0 dX11_image_20 ?_
  refine J.aload_n g dX11_image_21 rfl rfl ?_
  refine J.get g jX11 15 (by decide) lf_X11_91 0 rfl rfl dX11_image_22 ?_
  refine J.bipush (v := nI 17) g dX11_image_25 (by decide +kernel) ?_
  refine J.iload_n g dX11_image_27 rfl rfl ?_
  refine J.imulN g dX11_image_28 ?_
  refine J.callS g (c_X11_copy l γ _ _ _ _ _ _ _ _ (by decide) (by decide) (by omega) (by omega)) jy_X11_copy lm_X11_179 ⟨⟨Nat.le_of_ble_eq_true rfl, Nat.le_of_ble_eq_true rfl⟩, Nat.le_of_ble_eq_true rfl, Nat.le_of_ble_eq_true rfl⟩ (Nat.le_of_ble_eq_true rfl) rfl [1, 2] rfl (fun _ => rfl) rfl dX11_image_29 ?_
  intro u_29 h_29
  dsimp only [jput, List.set_cons_zero, List.set_cons_succ, Option.toList, List.append, List.cons_append, List.nil_append, List.append_nil]
  refine J.aload_n g dX11_image_32 rfl rfl ?_
  refine J.get g jX11 19 (by decide) lf_X11_103 0 rfl rfl dX11_image_33 ?_
  refine J.iload_n g dX11_image_36 rfl rfl ?_
  refine J.iconstN g 1 dX11_image_37 ?_
  refine J.zastB (p := true) g 3 rfl (by omega) (by decide) dX11_image_38 ?_
  try dsimp only [List.set_cons_zero, List.set_cons_succ]
  refine J.iconstN g 1 dX11_image_39 ?_
  exact J.zret (by first | rfl | exact j_nz _) g hE u_29 (jB_t (by rfl)) (fun i j hi hj => by rw [h_29]; by_cases z : i = k; (· rw [if_pos z, if_pos (by omega), show 0 + (17 * i + j - 17 * k) = j by omega]); (· rw [if_neg z, if_neg (by omega)])) rfl ⟨Nat.le_of_ble_eq_true rfl, Nat.le_of_ble_eq_true rfl⟩ dX11_image_40
set_option maxHeartbeats 4000000 in
set_option maxRecDepth 100000 in
theorem c_X11_image_no (l : Launch) (γ : jγ) (mo mta mtd msz mto mfr mso mnu mfa mpl mro mnw mrd mkp msn mbf mlv mik msm msu mbe mfe mmy mof msf mlr mty mfm mrn mrb mln mtb : Nat) (mth mfw mse : Int32) (mwd : Int64) (a : Int32) (hi : mIn a (nI 0) (nI 1) = false) : jM (S := Unit) l γ yX11_image cX11_image 2 (some .boolean) ({ frames := 1, cells := 0, slots := 0, locals := 24 } : Room) [.ref mo, .int a] [(mo, .inr (11, [.int mth, .ref mta, .int (nI mtd), .int (nI msz), .int (nI mto), .int (nI mfr), .int (nI mso), .int (nI mnu), .int (nI mfa), .int mfw, .int (nI mpl), .int (nI mro), .long mwd, .ref mnw, .ref mrd, .ref mkp, .ref msn, .ref mbf, .ref mlv, .ref mik, .int (nI msm), .ref msu, .ref mbe, .ref mfe, .ref mmy, .ref mof, .ref msf, .ref mlr, .ref mty, .ref mfm, .ref mrn, .ref mrb, .int (nI mln), .ref mtb, .int mse]))] (fun w0 => some (.int (jB false))) (fun w0 => [(mo, .inr (11, [.int (nI 0), .ref mta, .int (nI mtd), .int (nI msz), .int (nI mto), .int (nI mfr), .int (nI mso), .int (nI mnu), .int (nI mfa), .int mfw, .int (nI mpl), .int (nI mro), .long mwd, .ref mnw, .ref mrd, .ref mkp, .ref msn, .ref mbf, .ref mlv, .ref mik, .int (nI msm), .ref msu, .ref mbe, .ref mfe, .ref mmy, .ref mof, .ref msf, .ref mlr, .ref mty, .ref mfm, .ref mrn, .ref mrb, .int (nI mln), .ref mtb, .int mse]))]) (fun w0 => True) := by
  refine jM.of [some (.ref mo), some (.int a)] rfl (Nat.le_of_ble_eq_true rfl) (by decide) ?_
  intro x g hE hin
  refine J.aload_n g dX11_image_0 rfl rfl ?_
  refine J.iconstN g 0 dX11_image_1 ?_
  refine J.put g jX11 0 (by decide) lf_X11_1 0 rfl rfl (Nat.le_of_ble_eq_true rfl) rfl rfl dX11_image_2 ?_
  try dsimp only [List.set_cons_zero, List.set_cons_succ]
  refine J.iload_n g dX11_image_5 rfl rfl ?_
  refine J.iconstN g 0 dX11_image_6 ?_
  refine J.iconstN g 1 dX11_image_7 ?_
  refine J.callS0 g (c_X11_isIn l γ _ _ _ ) jy_X11_isIn lm_X11_157 ⟨⟨Nat.le_of_ble_eq_true rfl, Nat.le_of_ble_eq_true rfl⟩, Nat.le_of_ble_eq_true rfl, Nat.le_of_ble_eq_true rfl⟩ (Nat.le_of_ble_eq_true rfl) rfl [] rfl rfl dX11_image_8 ?_
  intro _ _
  dsimp only [jpush]
  refine J.if_neB g dX11_image_11 (tgt := 16) (by decide) (fun c_11 => absurd c_11 (by rw [hi] at c_11; cases c_11)) (fun c_11 => ?_)
  refine J.iconstN g 0 dX11_image_14 ?_
  exact J.zret (by first | rfl | exact j_nz _) g hE () (jB_f (by rfl)) trivial rfl ⟨Nat.le_of_ble_eq_true rfl, Nat.le_of_ble_eq_true rfl⟩ dX11_image_15
set_option maxHeartbeats 4000000 in
set_option maxRecDepth 100000 in
theorem c_X11_restore_yes (l : Launch) (γ : jγ) (mo mta mtd msz mto mfr mso mnu mfa mpl mro mnw mrd mkp msn mbf mlv mik msm msu mbe mfe mmy mof msf mlr mty mfm mrn mrb mln mtb : Nat) (mth mfw mse : Int32) (mwd : Int64) (w KF : Nat → Nat) (ik : Nat → Bool) (k : Nat) (hk : k < 2) (hik : ik k = true) : jM (S := Nat → Nat) l γ yX11_restore cX11_restore 2 (some .boolean) ({ frames := 1, cells := 0, slots := 0, locals := 24 } : Room) [.ref mo, .int (nI k)] [(mo, .inr (11, [.int mth, .ref mta, .int (nI mtd), .int (nI msz), .int (nI mto), .int (nI mfr), .int (nI mso), .int (nI mnu), .int (nI mfa), .int mfw, .int (nI mpl), .int (nI mro), .long mwd, .ref mnw, .ref mrd, .ref mkp, .ref msn, .ref mbf, .ref mlv, .ref mik, .int (nI msm), .ref msu, .ref mbe, .ref mfe, .ref mmy, .ref mof, .ref msf, .ref mlr, .ref mty, .ref mfm, .ref mrn, .ref mrb, .int (nI mln), .ref mtb, .int mse])), (mnw, .inl (γ.2 0, 17, .inl (fun j => nI (w j)))), (mkp, .inl (γ.2 0, 34, .inl (fun j => nI (KF j)))), (mik, .inl (γ.2 2, 2, .inl (fun j => jB (ik j))))] (fun u => some (.int (jB true))) (fun u => [(mo, .inr (11, [.int (nI 0), .ref mta, .int (nI mtd), .int (nI msz), .int (nI mto), .int (nI mfr), .int (nI mso), .int (nI mnu), .int (nI mfa), .int mfw, .int (nI mpl), .int (nI mro), .long mwd, .ref mnw, .ref mrd, .ref mkp, .ref msn, .ref mbf, .ref mlv, .ref mik, .int (nI 0), .ref msu, .ref mbe, .ref mfe, .ref mmy, .ref mof, .ref msf, .ref mlr, .ref mty, .ref mfm, .ref mrn, .ref mrb, .int (nI mln), .ref mtb, .int mse])), (mnw, .inl (γ.2 0, 17, .inl (fun j => nI (u j)))), (mkp, .inl (γ.2 0, 34, .inl (fun j => nI (KF j)))), (mik, .inl (γ.2 2, 2, .inl (fun j => jB (ik j))))]) (fun u => ∀ j, j < 17 → u j = KF (17 * k + j)) := by
  refine jM.of [some (.ref mo), some (.int (nI k))] rfl (Nat.le_of_ble_eq_true rfl) (by decide) ?_
  intro x g hE hin
  refine J.aload_n g dX11_restore_0 rfl rfl ?_
  refine J.iconstN g 0 dX11_restore_1 ?_
  refine J.put g jX11 0 (by decide) lf_X11_1 0 rfl rfl (Nat.le_of_ble_eq_true rfl) rfl rfl dX11_restore_2 ?_
  try dsimp only [List.set_cons_zero, List.set_cons_succ]
  refine J.iload_n g dX11_restore_5 rfl rfl ?_
  refine J.iconstN g 0 dX11_restore_6 ?_
  refine J.iconstN g 1 dX11_restore_7 ?_
  refine J.callS0 g (c_X11_isIn l γ _ _ _ ) jy_X11_isIn lm_X11_157 ⟨⟨Nat.le_of_ble_eq_true rfl, Nat.le_of_ble_eq_true rfl⟩, Nat.le_of_ble_eq_true rfl, Nat.le_of_ble_eq_true rfl⟩ (Nat.le_of_ble_eq_true rfl) rfl [] rfl rfl dX11_restore_8 ?_
  intro _ _
  dsimp only [jpush]
  refine J.if_eqB g dX11_restore_11 (tgt := 23) (by decide) (fun c_11 => absurd c_11 (by rw [mIn_nn (by omega) (by omega) (by omega), decide_eq_true (by omega)] at c_11; cases c_11)) (fun c_11 => ?_)
  refine J.aload_n g dX11_restore_14 rfl rfl ?_
  refine J.get g jX11 19 (by decide) lf_X11_103 0 rfl rfl dX11_restore_15 ?_
  refine J.iload_n g dX11_restore_18 rfl rfl ?_
  refine J.zaldB g 3 rfl (by omega) (by decide) dX11_restore_19 ?_
  refine J.if_neB g dX11_restore_20 (tgt := 25) (by decide) (fun c_20 => ?_) (fun c_20 => absurd c_20 (by rw [hik] at c_20; cases c_20))
  refine J.aload_n g dX11_restore_25 rfl rfl ?_
  refine J.get g jX11 15 (by decide) lf_X11_91 0 rfl rfl dX11_restore_26 ?_
  refine J.bipush (v := nI 17) g dX11_restore_29 (by decide +kernel) ?_
  refine J.iload_n g dX11_restore_31 rfl rfl ?_
  refine J.imulN g dX11_restore_32 ?_
  refine J.aload_n g dX11_restore_33 rfl rfl ?_
  refine J.get g jX11 13 (by decide) lf_X11_85 0 rfl rfl dX11_restore_34 ?_
  refine J.iconstN g 0 dX11_restore_37 ?_
  refine J.callS g (c_X11_copy l γ _ _ _ _ _ _ _ _ (by decide) (by decide) (by omega) (by omega)) jy_X11_copy lm_X11_179 ⟨⟨Nat.le_of_ble_eq_true rfl, Nat.le_of_ble_eq_true rfl⟩, Nat.le_of_ble_eq_true rfl, Nat.le_of_ble_eq_true rfl⟩ (Nat.le_of_ble_eq_true rfl) rfl [2, 1] rfl (fun _ => rfl) rfl dX11_restore_38 ?_
  intro u_38 h_38
  dsimp only [jput, List.set_cons_zero, List.set_cons_succ, Option.toList, List.append, List.cons_append, List.nil_append, List.append_nil]
  refine J.aload_n g dX11_restore_41 rfl rfl ?_
  refine J.iconstN g 0 dX11_restore_42 ?_
  refine J.put g jX11 20 (by decide) lf_X11_183 0 rfl rfl (Nat.le_of_ble_eq_true rfl) rfl rfl dX11_restore_43 ?_
  try dsimp only [List.set_cons_zero, List.set_cons_succ]
  refine J.iconstN g 1 dX11_restore_46 ?_
  exact J.zret (by first | rfl | exact j_nz _) g hE u_38 (jB_t (by rfl)) (fun j hj => by rw [h_38, if_pos (by omega), show 17 * k + (j - 0) = 17 * k + j by omega]) rfl ⟨Nat.le_of_ble_eq_true rfl, Nat.le_of_ble_eq_true rfl⟩ dX11_restore_47
set_option maxHeartbeats 4000000 in
set_option maxRecDepth 100000 in
theorem c_X11_restore_no (l : Launch) (γ : jγ) (mo mta mtd msz mto mfr mso mnu mfa mpl mro mnw mrd mkp msn mbf mlv mik msm msu mbe mfe mmy mof msf mlr mty mfm mrn mrb mln mtb : Nat) (mth mfw mse : Int32) (mwd : Int64) (ik : Nat → Bool) (a : Int32) (hi : mIn a (nI 0) (nI 1) = false ∨ ∃ k : Nat, k < 2 ∧ a = nI k ∧ ik k = false) : jM (S := Unit) l γ yX11_restore cX11_restore 2 (some .boolean) ({ frames := 1, cells := 0, slots := 0, locals := 24 } : Room) [.ref mo, .int a] [(mo, .inr (11, [.int mth, .ref mta, .int (nI mtd), .int (nI msz), .int (nI mto), .int (nI mfr), .int (nI mso), .int (nI mnu), .int (nI mfa), .int mfw, .int (nI mpl), .int (nI mro), .long mwd, .ref mnw, .ref mrd, .ref mkp, .ref msn, .ref mbf, .ref mlv, .ref mik, .int (nI msm), .ref msu, .ref mbe, .ref mfe, .ref mmy, .ref mof, .ref msf, .ref mlr, .ref mty, .ref mfm, .ref mrn, .ref mrb, .int (nI mln), .ref mtb, .int mse])), (mik, .inl (γ.2 2, 2, .inl (fun j => jB (ik j))))] (fun w0 => some (.int (jB false))) (fun w0 => [(mo, .inr (11, [.int (nI 0), .ref mta, .int (nI mtd), .int (nI msz), .int (nI mto), .int (nI mfr), .int (nI mso), .int (nI mnu), .int (nI mfa), .int mfw, .int (nI mpl), .int (nI mro), .long mwd, .ref mnw, .ref mrd, .ref mkp, .ref msn, .ref mbf, .ref mlv, .ref mik, .int (nI msm), .ref msu, .ref mbe, .ref mfe, .ref mmy, .ref mof, .ref msf, .ref mlr, .ref mty, .ref mfm, .ref mrn, .ref mrb, .int (nI mln), .ref mtb, .int mse])), (mik, .inl (γ.2 2, 2, .inl (fun j => jB (ik j))))]) (fun w0 => True) := by
  refine jM.of [some (.ref mo), some (.int a)] rfl (Nat.le_of_ble_eq_true rfl) (by decide) ?_
  intro x g hE hin
  refine J.aload_n g dX11_restore_0 rfl rfl ?_
  refine J.iconstN g 0 dX11_restore_1 ?_
  refine J.put g jX11 0 (by decide) lf_X11_1 0 rfl rfl (Nat.le_of_ble_eq_true rfl) rfl rfl dX11_restore_2 ?_
  try dsimp only [List.set_cons_zero, List.set_cons_succ]
  refine J.iload_n g dX11_restore_5 rfl rfl ?_
  refine J.iconstN g 0 dX11_restore_6 ?_
  refine J.iconstN g 1 dX11_restore_7 ?_
  refine J.callS0 g (c_X11_isIn l γ _ _ _ ) jy_X11_isIn lm_X11_157 ⟨⟨Nat.le_of_ble_eq_true rfl, Nat.le_of_ble_eq_true rfl⟩, Nat.le_of_ble_eq_true rfl, Nat.le_of_ble_eq_true rfl⟩ (Nat.le_of_ble_eq_true rfl) rfl [] rfl rfl dX11_restore_8 ?_
  intro _ _
  dsimp only [jpush]
  refine J.if_eqB g dX11_restore_11 (tgt := 23) (by decide) (fun c_11 => ?_) (fun c_11 => ?_)
  · refine J.iconstN g 0 dX11_restore_23 ?_
    exact J.zret (by first | rfl | exact j_nz _) g hE () (jB_f (by rfl)) trivial rfl ⟨Nat.le_of_ble_eq_true rfl, Nat.le_of_ble_eq_true rfl⟩ dX11_restore_24
  · obtain ⟨k, hk, rfl, hik⟩ : ∃ k : Nat, k < 2 ∧ a = nI k ∧ ik k = false := hi.elim (fun z => by rw [z] at c_11; cases c_11) id
    refine J.aload_n g dX11_restore_14 rfl rfl ?_
    refine J.get g jX11 19 (by decide) lf_X11_103 0 rfl rfl dX11_restore_15 ?_
    refine J.iload_n g dX11_restore_18 rfl rfl ?_
    refine J.zaldB g 1 rfl (by omega) (by decide) dX11_restore_19 ?_
    refine J.if_neB g dX11_restore_20 (tgt := 25) (by decide) (fun c_20 => absurd c_20 (by rw [hik] at c_20; cases c_20)) (fun c_20 => ?_)
    refine J.iconstN g 0 dX11_restore_23 ?_
    exact J.zret (by first | rfl | exact j_nz _) g hE () (jB_f (by rfl)) trivial rfl ⟨Nat.le_of_ble_eq_true rfl, Nat.le_of_ble_eq_true rfl⟩ dX11_restore_24
