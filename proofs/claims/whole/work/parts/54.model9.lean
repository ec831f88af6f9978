set_option maxHeartbeats 4000000 in
set_option maxRecDepth 100000 in
theorem c_X11_readRow (l : Launch) (γ : jγ) (mo mta mtd msz mfa mpl mro mnw mrd mkp msn mbf mlv mik msm msu mbe mfe mmy mof msf mlr mty mfm mrn mrb mln mtb : Nat) (mth mfw mse : Int32)  (t r : Nat → Nat) (q : jRS) (v : mV) (i : Nat) (hB : ∀ j, t j < 256) (hz : msz ≤ 340) (hq : mR msz q v r mro) (h0 : v.2.2.1 ≠ 0) (hi : i = 0 ↔ q.2.1.1 = 0) (hn0 : i = 0 → q.2.2.2.1 = 0) (hJ : jRB q) (htf : ∃ tf : Nat → Int32, t = jbs tf) : jM (S := mO) l γ yX11_readRow cX11_readRow 1 (some .boolean) ({ frames := 3, cells := 0, slots := 0, locals := 71 } : Room) [.ref mo] [(mo, .inr (11, [.int mth, .ref mta, .int (nI mtd), .int (nI msz), .int (nI v.1), .int (nI v.2.1), .int (nI v.2.2.1), .int (nI v.2.2.2.1), .int (nI mfa), .int mfw, .int (nI mpl), .int (nI mro), .long v.2.2.2.2, .ref mnw, .ref mrd, .ref mkp, .ref msn, .ref mbf, .ref mlv, .ref mik, .int (nI msm), .ref msu, .ref mbe, .ref mfe, .ref mmy, .ref mof, .ref msf, .ref mlr, .ref mty, .ref mfm, .ref mrn, .ref mrb, .int (nI mln), .ref mtb, .int mse])), (mta, .inl (γ.2 0, 340, .inl (fun j => nI (t j)))), (mrd, .inl (γ.2 0, 17, .inl (fun j => nI (r j))))] (fun u => some (.int (jB u.2.2.2))) (fun u => [(mo, .inr (11, [.int mth, .ref mta, .int (nI mtd), .int (nI msz), .int (nI u.1.1), .int (nI u.1.2.1), .int (nI u.1.2.2.1), .int (nI u.1.2.2.2.1), .int (nI u.2.2.1.1), .int u.2.2.1.2.2, .int (nI u.2.2.1.2.1), .int (nI mro), .long u.1.2.2.2.2, .ref mnw, .ref mrd, .ref mkp, .ref msn, .ref mbf, .ref mlv, .ref mik, .int (nI msm), .ref msu, .ref mbe, .ref mfe, .ref mmy, .ref mof, .ref msf, .ref mlr, .ref mty, .ref mfm, .ref mrn, .ref mrb, .int (nI mln), .ref mtb, .int mse])), (mta, .inl (γ.2 0, 340, .inl (fun j => nI (t j)))), (mrd, .inl (γ.2 0, 17, .inl (fun j => nI (u.2.1 j))))]) (fun u => mRes t msz mro q.1.2.2.1 (jrRow t msz i q) (mfa, mpl, mfw) u) := by
  refine jM.of [some (.ref mo)] rfl (Nat.le_of_ble_eq_true rfl) (by decide) ?_
  intro x g hE hin
  have hqs := hq.to.2.1
  have hg := hq.is.g
  have hr0 : r 0 = gpt q.2.1.1 := hq.is.2.1
  refine J.aload_n g dX11_readRow_0 rfl rfl ?_
  refine J.get g jX11 14 (by decide) lf_X11_88 0 rfl rfl dX11_readRow_1 ?_
  refine J.iconstN g 0 dX11_readRow_4 ?_
  refine J.ialdN g 2 rfl (by omega) (by decide) dX11_readRow_5 ?_
  refine J.if_neN g dX11_readRow_6 (tgt := 29) (by decide) (by omega) (fun c_6 => ?_) (fun c_6 => ?_)
  · have hc1 : q.2.1.1 ≠ 0 := fun z => c_6 (by rw [hr0, z]; decide +kernel)
    have hi1 : ¬ i = 0 := fun z => hc1 (hi.mp z)
    refine J.aload_n g dX11_readRow_29 rfl rfl ?_
    refine J.callV0 g (c_X11_isPut l γ _ _ _ _ _ _ _ _ _ _ _ _ _ _ _ _ _ _ _ _ _ _ _ _ _ _ _ _ _ _ _ _ _ _ _ _ (by omega)) jy_X11_isPut lm_X11_167 (q0 := 0) rfl jX11.1 ⟨⟨Nat.le_of_ble_eq_true rfl, Nat.le_of_ble_eq_true rfl⟩, Nat.le_of_ble_eq_true rfl, Nat.le_of_ble_eq_true rfl⟩ (Nat.le_of_ble_eq_true rfl) rfl [0] rfl rfl dX11_readRow_30 ?_
    intro _ _
    dsimp only [jpush]
    rw [WP_eq]
    refine J.if_eqB g dX11_readRow_33 (tgt := 43) (by decide) (fun c_33 => ?_) (fun c_33 => ?_)
    · have hk5 : ¬ q.1.2.1 = 5 := fun z => hq.w2n c_33 (hq.wp.mp z)
      refine J.aload_n g dX11_readRow_43 rfl rfl ?_
      refine J.iconstN g 1 dX11_readRow_44 ?_
      refine J.callV g (c_X11_bad l γ _ _ _ _ _ _ _ _ _ _ _ _ _ _ _ _ _ _ _ _ _ _ _ _ _ _ _ _ _ _ _ _ _ _ _ _ _ (by omega)) jy_X11_bad lm_X11_146 (q0 := 0) rfl jX11.1 ⟨⟨Nat.le_of_ble_eq_true rfl, Nat.le_of_ble_eq_true rfl⟩, Nat.le_of_ble_eq_true rfl, Nat.le_of_ble_eq_true rfl⟩ (Nat.le_of_ble_eq_true rfl) rfl [0] rfl (fun _ => rfl) rfl dX11_readRow_45 ?_
      intro _ _
      dsimp only [jput, List.set_cons_zero, List.set_cons_succ, Option.toList, List.append, List.cons_append, List.nil_append, List.append_nil]
      exact J.zret (by first | rfl | exact j_nz _) g hE (v, r, (1, v.2.1, nI mro), false) rfl (mRes_f (q := q) (k := 1) (pl := q.1.2.2.1) hq (by rw [jrRow, if_neg hi1, jrPut, if_pos hk5]) rfl hq.to.2.2.1 (by decide)) (by first | rfl | rw [ite_self]) ⟨Nat.le_of_ble_eq_true rfl, Nat.le_of_ble_eq_true rfl⟩ dX11_readRow_48
    · have hw2 := hq.w2 c_33
      have hk5 := hq.wp.mpr hw2
      refine J.aload_n g dX11_readRow_36 rfl rfl ?_
      refine J.callV g (c_X11_readPut l γ _ _ _ _ _ _ _ _ _ _ _ _ _ _ _ _ _ _ _ _ _ _ _ _ _ _ _ _ _ _ _ _ _ _ _ hB hz hq hw2.1 hc1 hJ htf) jy_X11_readPut lm_X11_170 (q0 := 0) rfl jX11.1 ⟨⟨Nat.le_of_ble_eq_true rfl, Nat.le_of_ble_eq_true rfl⟩, Nat.le_of_ble_eq_true rfl, Nat.le_of_ble_eq_true rfl⟩ (Nat.le_of_ble_eq_true rfl) rfl [0, 1, 2] rfl (fun _ => rfl) rfl dX11_readRow_37 ?_
      intro u_37 h_37
      dsimp only [jput, List.set_cons_zero, List.set_cons_succ, Option.toList, List.append, List.cons_append, List.nil_append, List.append_nil]
      refine J.goto g dX11_readRow_40 (tgt := 48) (by decide) ?_
      exact J.zret (by first | rfl | exact j_nz _) g hE u_37 rfl (mRes_row (i := i) h_37 (by rw [jrRow, if_neg hi1, jrPut, if_neg (fun z => z hk5)])) (by first | rfl | rw [ite_self]) ⟨Nat.le_of_ble_eq_true rfl, Nat.le_of_ble_eq_true rfl⟩ dX11_readRow_48
  · have hc0 : q.2.1.1 = 0 := gpt_0 _ hq.is.1 (by omega)
    have hi0 : i = 0 := hi.mpr hc0
    refine J.aload_n g dX11_readRow_9 rfl rfl ?_
    refine J.callV0 g (c_X11_isGroup l γ _ _ _ _ _ _ _ _ _ _ _ _ _ _ _ _ _ _ _ _ _ _ _ _ _ _ _ _ _ _ _ _ _ _ _ _ (by omega)) jy_X11_isGroup lm_X11_161 (q0 := 0) rfl jX11.1 ⟨⟨Nat.le_of_ble_eq_true rfl, Nat.le_of_ble_eq_true rfl⟩, Nat.le_of_ble_eq_true rfl, Nat.le_of_ble_eq_true rfl⟩ (Nat.le_of_ble_eq_true rfl) rfl [0] rfl rfl dX11_readRow_10 ?_
    intro _ _
    dsimp only [jpush]
    rw [WG_eq]
    refine J.if_eqB g dX11_readRow_13 (tgt := 23) (by decide) (fun c_13 => ?_) (fun c_13 => ?_)
    · have hk4 : ¬ q.1.2.1 = 4 := fun z => hq.w2n c_13 (hq.wg.mp z)
      refine J.aload_n g dX11_readRow_23 rfl rfl ?_
      refine J.iconstN g 1 dX11_readRow_24 ?_
      refine J.callV g (c_X11_bad l γ _ _ _ _ _ _ _ _ _ _ _ _ _ _ _ _ _ _ _ _ _ _ _ _ _ _ _ _ _ _ _ _ _ _ _ _ _ (by omega)) jy_X11_bad lm_X11_146 (q0 := 0) rfl jX11.1 ⟨⟨Nat.le_of_ble_eq_true rfl, Nat.le_of_ble_eq_true rfl⟩, Nat.le_of_ble_eq_true rfl, Nat.le_of_ble_eq_true rfl⟩ (Nat.le_of_ble_eq_true rfl) rfl [0] rfl (fun _ => rfl) rfl dX11_readRow_25 ?_
      intro _ _
      dsimp only [jput, List.set_cons_zero, List.set_cons_succ, Option.toList, List.append, List.cons_append, List.nil_append, List.append_nil]
      exact J.zret (by first | rfl | exact j_nz _) g hE (v, r, (1, v.2.1, nI mro), false) rfl (mRes_f (q := q) (k := 1) (pl := q.1.2.2.1) hq (by rw [jrRow, if_pos hi0, jrGroup, if_pos hk4]) rfl hq.to.2.2.1 (by decide)) (by first | rfl | rw [ite_self]) ⟨Nat.le_of_ble_eq_true rfl, Nat.le_of_ble_eq_true rfl⟩ dX11_readRow_28
    · have hw2 := hq.w2 c_13
      have hk4 := hq.wg.mpr hw2
      refine J.aload_n g dX11_readRow_16 rfl rfl ?_
      refine J.callV g (c_X11_readGroup l γ _ _ _ _ _ _ _ _ _ _ _ _ _ _ _ _ _ _ _ _ _ _ _ _ _ _ _ _ _ _ _ _ _ _ _ hB hz hq hw2.1 hc0 (hn0 hi0) hJ htf) jy_X11_readGroup lm_X11_164 (q0 := 0) rfl jX11.1 ⟨⟨Nat.le_of_ble_eq_true rfl, Nat.le_of_ble_eq_true rfl⟩, Nat.le_of_ble_eq_true rfl, Nat.le_of_ble_eq_true rfl⟩ (Nat.le_of_ble_eq_true rfl) rfl [0, 1, 2] rfl (fun _ => rfl) rfl dX11_readRow_17 ?_
      intro u_17 h_17
      dsimp only [jput, List.set_cons_zero, List.set_cons_succ, Option.toList, List.append, List.cons_append, List.nil_append, List.append_nil]
      refine J.goto g dX11_readRow_20 (tgt := 28) (by decide) ?_
      exact J.zret (by first | rfl | exact j_nz _) g hE u_17 rfl (mRes_row (i := i) h_17 (by rw [jrRow, if_pos hi0, jrGroup, if_neg (fun z => z hk4)])) (by first | rfl | rw [ite_self]) ⟨Nat.le_of_ble_eq_true rfl, Nat.le_of_ble_eq_true rfl⟩ dX11_readRow_28
set_option maxHeartbeats 4000000 in
set_option maxRecDepth 100000 in
theorem c_X11_readEnd_yes (l : Launch) (γ : jγ) (mo mta mtd msz mfa mpl mro mnw mrd mkp msn mbf mlv mik msm msu mbe mfe mmy mof msf mlr mty mfm mrn mrb mln mtb : Nat) (mth mfw mse : Int32)  (t r : Nat → Nat) (q : jRS) (v : mV) (hB : ∀ j, t j < 256) (hz : msz ≤ 340) (hq : mR msz q v r mro) (h4 : v.2.2.1 = 4) : jM (S := mV) l γ yX11_readEnd cX11_readEnd 1 (some .boolean) ({ frames := 2, cells := 0, slots := 0, locals := 45 } : Room) [.ref mo] [(mo, .inr (11, [.int mth, .ref mta, .int (nI mtd), .int (nI msz), .int (nI v.1), .int (nI v.2.1), .int (nI v.2.2.1), .int (nI v.2.2.2.1), .int (nI mfa), .int mfw, .int (nI mpl), .int (nI mro), .long v.2.2.2.2, .ref mnw, .ref mrd, .ref mkp, .ref msn, .ref mbf, .ref mlv, .ref mik, .int (nI msm), .ref msu, .ref mbe, .ref mfe, .ref mmy, .ref mof, .ref msf, .ref mlr, .ref mty, .ref mfm, .ref mrn, .ref mrb, .int (nI mln), .ref mtb, .int mse])), (mta, .inl (γ.2 0, 340, .inl (fun j => nI (t j)))), (mrd, .inl (γ.2 0, 17, .inl (fun j => nI (r j))))] (fun u => some (.int (jB true))) (fun u => [(mo, .inr (11, [.int mth, .ref mta, .int (nI mtd), .int (nI msz), .int (nI u.1), .int (nI u.2.1), .int (nI u.2.2.1), .int (nI u.2.2.2.1), .int (nI mfa), .int mfw, .int (nI mpl), .int (nI mro), .long u.2.2.2.2, .ref mnw, .ref mrd, .ref mkp, .ref msn, .ref mbf, .ref mlv, .ref mik, .int (nI msm), .ref msu, .ref mbe, .ref mfe, .ref mmy, .ref mof, .ref msf, .ref mlr, .ref mty, .ref mfm, .ref mrn, .ref mrb, .int (nI mln), .ref mtb, .int mse])), (mta, .inl (γ.2 0, 340, .inl (fun j => nI (t j)))), (mrd, .inl (γ.2 0, 17, .inl (fun j => nI (r j))))]) (fun u => mR msz (jrTok t msz q) u r mro) := by
  refine jM.of [some (.ref mo)] rfl (Nat.le_of_ble_eq_true rfl) (by decide) ?_
  intro x g hE hin
  refine J.aload_n g dX11_readEnd_0 rfl rfl ?_
  refine J.get g jX11 6 (by decide) lf_X11_31 0 rfl rfl dX11_readEnd_1 ?_
  refine J.iconstN g 4 dX11_readEnd_4 ?_
  refine J.icmp_eqN g dX11_readEnd_5 (tgt := 14) (by decide) (by omega) (by omega) (fun c_5 => ?_) (fun c_5 => absurd c_5 (by omega))
  refine J.aload_n g dX11_readEnd_14 rfl rfl ?_
  refine J.callV g (c_X11_next l γ _ _ _ _ _ _ _ _ _ _ _ _ _ _ _ _ _ _ _ _ _ _ _ _ _ _ _ _ _ _ _ _ _ _ _ _ _ hB hz hq.to.1) jy_X11_next lm_X11_143 (q0 := 0) rfl jX11.1 ⟨⟨Nat.le_of_ble_eq_true rfl, Nat.le_of_ble_eq_true rfl⟩, Nat.le_of_ble_eq_true rfl, Nat.le_of_ble_eq_true rfl⟩ (Nat.le_of_ble_eq_true rfl) rfl [0, 1] rfl (fun _ => rfl) rfl dX11_readEnd_15 ?_
  intro u_15 h_15
  dsimp only [jput, List.set_cons_zero, List.set_cons_succ, Option.toList, List.append, List.cons_append, List.nil_append, List.append_nil]
  refine J.iconstN g 1 dX11_readEnd_18 ?_
  exact J.zret (by first | rfl | exact j_nz _) g hE u_15 (jB_t (by rfl)) (hq.next (by omega) (by omega) h_15) rfl ⟨Nat.le_of_ble_eq_true rfl, Nat.le_of_ble_eq_true rfl⟩ dX11_readEnd_19
set_option maxHeartbeats 4000000 in
set_option maxRecDepth 100000 in
theorem c_X11_readEnd_no (l : Launch) (γ : jγ) (mo mta mtd msz mro mnw mrd mkp msn mbf mlv mik msm msu mbe mfe mmy mof msf mlr mty mfm mrn mrb mln mtb : Nat) (mth mse : Int32)  (mfa mpl : Nat) (mfw : Int32) (v : mV) (hs : v.2.2.1 < 5) (h4 : v.2.2.1 ≠ 4) : jM (S := Unit) l γ yX11_readEnd cX11_readEnd 1 (some .boolean) ({ frames := 2, cells := 0, slots := 0, locals := 45 } : Room) [.ref mo] [(mo, .inr (11, [.int mth, .ref mta, .int (nI mtd), .int (nI msz), .int (nI v.1), .int (nI v.2.1), .int (nI v.2.2.1), .int (nI v.2.2.2.1), .int (nI mfa), .int mfw, .int (nI mpl), .int (nI mro), .long v.2.2.2.2, .ref mnw, .ref mrd, .ref mkp, .ref msn, .ref mbf, .ref mlv, .ref mik, .int (nI msm), .ref msu, .ref mbe, .ref mfe, .ref mmy, .ref mof, .ref msf, .ref mlr, .ref mty, .ref mfm, .ref mrn, .ref mrb, .int (nI mln), .ref mtb, .int mse]))] (fun w0 => some (.int (jB false))) (fun w0 => [(mo, .inr (11, [.int mth, .ref mta, .int (nI mtd), .int (nI msz), .int (nI v.1), .int (nI v.2.1), .int (nI v.2.2.1), .int (nI v.2.2.2.1), .int (nI 1), .int (nI mro), .int (nI v.2.1), .int (nI mro), .long v.2.2.2.2, .ref mnw, .ref mrd, .ref mkp, .ref msn, .ref mbf, .ref mlv, .ref mik, .int (nI msm), .ref msu, .ref mbe, .ref mfe, .ref mmy, .ref mof, .ref msf, .ref mlr, .ref mty, .ref mfm, .ref mrn, .ref mrb, .int (nI mln), .ref mtb, .int mse]))]) (fun w0 => True) := by
  refine jM.of [some (.ref mo)] rfl (Nat.le_of_ble_eq_true rfl) (by decide) ?_
  intro x g hE hin
  refine J.aload_n g dX11_readEnd_0 rfl rfl ?_
  refine J.get g jX11 6 (by decide) lf_X11_31 0 rfl rfl dX11_readEnd_1 ?_
  refine J.iconstN g 4 dX11_readEnd_4 ?_
  refine J.icmp_eqN g dX11_readEnd_5 (tgt := 14) (by decide) (by omega) (by omega) (fun c_5 => absurd c_5 (by omega)) (fun c_5 => ?_)
  refine J.aload_n g dX11_readEnd_8 rfl rfl ?_
  refine J.iconstN g 1 dX11_readEnd_9 ?_
  refine J.callV g (c_X11_bad l γ _ _ _ _ _ _ _ _ _ _ _ _ _ _ _ _ _ _ _ _ _ _ _ _ _ _ _ _ _ _ _ _ _ _ _ _ _ (by omega)) jy_X11_bad lm_X11_146 (q0 := 0) rfl jX11.1 ⟨⟨Nat.le_of_ble_eq_true rfl, Nat.le_of_ble_eq_true rfl⟩, Nat.le_of_ble_eq_true rfl, Nat.le_of_ble_eq_true rfl⟩ (Nat.le_of_ble_eq_true rfl) rfl [0] rfl (fun _ => rfl) rfl dX11_readEnd_10 ?_
  intro _ _
  dsimp only [jput, List.set_cons_zero, List.set_cons_succ, Option.toList, List.append, List.cons_append, List.nil_append, List.append_nil]
  exact J.zret (by first | rfl | exact j_nz _) g hE () rfl trivial (by rw [ite_self]) ⟨Nat.le_of_ble_eq_true rfl, Nat.le_of_ble_eq_true rfl⟩ dX11_readEnd_13
set_option maxHeartbeats 4000000 in
set_option maxRecDepth 100000 in
theorem c_X11_text (l : Launch) (γ : jγ) (mo mta mtd msz mto mfr mso mnu mfa mpl mro mnw mrd mkp msn mbf mlv mik msm msu mbe mfe mmy mof msf mlr mty mfm mrn mrb mln mtb : Nat) (mth mfw mse : Int32) (mwd : Int64) (t r w f0 : Nat → Nat) (a b c : Nat) (hB : ∀ j, t j < 256) (hz : mtd ≤ 340) (htf : ∃ tf : Nat → Int32, t = jbs tf) (hJ0 : jRB (mq0 a b c f0)) : jM (S := mV × (Nat → Nat) × (Nat × Nat × Int32) × Nat × (Nat → Nat)) l γ yX11_text cX11_text 2 (some .int) ({ frames := 4, cells := 0, slots := 0, locals := 91 } : Room) [.ref mo] [(mo, .inr (11, [.int mth, .ref mta, .int (nI mtd), .int (nI msz), .int (nI mto), .int (nI mfr), .int (nI mso), .int (nI mnu), .int (nI mfa), .int mfw, .int (nI mpl), .int (nI mro), .long mwd, .ref mnw, .ref mrd, .ref mkp, .ref msn, .ref mbf, .ref mlv, .ref mik, .int (nI msm), .ref msu, .ref mbe, .ref mfe, .ref mmy, .ref mof, .ref msf, .ref mlr, .ref mty, .ref mfm, .ref mrn, .ref mrb, .int (nI mln), .ref mtb, .int mse])), (mta, .inl (γ.2 0, 340, .inl (fun j => nI (t j)))), (mrd, .inl (γ.2 0, 17, .inl (fun j => nI (r j)))), (mnw, .inl (γ.2 0, 17, .inl (fun j => nI (w j))))] (fun u => some (.int (if (jrAll t mtd 301 0 (jrTok t mtd (mq0 a b c f0))).2.2.1.1 = 0 then nI (jrAll t mtd 301 0 (jrTok t mtd (mq0 a b c f0))).2.1.2 else -1 - nI (jrAll t mtd 301 0 (jrTok t mtd (mq0 a b c f0))).2.2.1.2.1))) (fun u => [(mo, .inr (11, [.int (nI 0), .ref mta, .int (nI 0), .int (nI mtd), .int (nI u.1.1), .int (nI u.1.2.1), .int (nI u.1.2.2.1), .int (nI u.1.2.2.2.1), .int (nI u.2.2.1.1), .int u.2.2.1.2.2, .int (nI u.2.2.1.2.1), .int (nI u.2.2.2.1), .long u.1.2.2.2.2, .ref mnw, .ref mrd, .ref mkp, .ref msn, .ref mbf, .ref mlv, .ref mik, .int (nI (if (jrAll t mtd 301 0 (jrTok t mtd (mq0 a b c f0))).2.2.1.1 = 0 then 0 else msm)), .ref msu, .ref mbe, .ref mfe, .ref mmy, .ref mof, .ref msf, .ref mlr, .ref mty, .ref mfm, .ref mrn, .ref mrb, .int (nI mln), .ref mtb, .int mse])), (mta, .inl (γ.2 0, 340, .inl (fun j => nI (t j)))), (mrd, .inl (γ.2 0, 17, .inl (fun j => nI (u.2.1 j)))), (mnw, .inl (γ.2 0, 17, .inl (fun j => nI (u.2.2.2.2 j))))]) (fun u => u.2.2.1.1 = (jrAll t mtd 301 0 (jrTok t mtd (mq0 a b c f0))).2.2.1.1 ∧ u.2.2.1.2.2 = (jrAll t mtd 301 0 (jrTok t mtd (mq0 a b c f0))).2.2.1.2.2 ∧ ((jrAll t mtd 301 0 (jrTok t mtd (mq0 a b c f0))).2.2.1.1 = 0 → mIs (jrAll t mtd 301 0 (jrTok t mtd (mq0 a b c f0))).2.1.1 (jrAll t mtd 301 0 (jrTok t mtd (mq0 a b c f0))).2.2.2.1 (jrAll t mtd 301 0 (jrTok t mtd (mq0 a b c f0))).2.2.2.2 u.2.2.2.2) ∧ (¬ (jrAll t mtd 301 0 (jrTok t mtd (mq0 a b c f0))).2.2.1.1 = 0 → u.2.2.2.2 = w)) := by
  refine jM.of [some (.ref mo), none] rfl (Nat.le_of_ble_eq_true rfl) (by decide) ?_
  intro x g hE hin
  obtain ⟨RR, hRR⟩ : ∃ z, z = jrAll t mtd 301 0 (jrTok t mtd (mq0 a b c f0)) := ⟨_, rfl⟩
  rw [← hRR] at hE
  have htf2 := htf
  obtain ⟨tf, htf⟩ := htf
  refine J.aload_n g dX11_text_0 rfl rfl ?_
  refine J.iconstN g 0 dX11_text_1 ?_
  refine J.put g jX11 0 (by decide) lf_X11_1 0 rfl rfl (Nat.le_of_ble_eq_true rfl) rfl rfl dX11_text_2 ?_
  try dsimp only [List.set_cons_zero, List.set_cons_succ]
  refine J.aload_n g dX11_text_5 rfl rfl ?_
  refine J.aload_n g dX11_text_6 rfl rfl ?_
  refine J.get g jX11 2 (by decide) lf_X11_15 0 rfl rfl dX11_text_7 ?_
  refine J.put g jX11 3 (by decide) lf_X11_22 0 rfl rfl (Nat.le_of_ble_eq_true rfl) rfl rfl dX11_text_10 ?_
  try dsimp only [List.set_cons_zero, List.set_cons_succ]
  refine J.aload_n g dX11_text_13 rfl rfl ?_
  refine J.iconstN g 0 dX11_text_14 ?_
  refine J.put g jX11 2 (by decide) lf_X11_15 0 rfl rfl (Nat.le_of_ble_eq_true rfl) rfl rfl dX11_text_15 ?_
  try dsimp only [List.set_cons_zero, List.set_cons_succ]
  refine J.aload_n g dX11_text_18 rfl rfl ?_
  refine J.iconstN g 0 dX11_text_19 ?_
  refine J.put g jX11 8 (by decide) lf_X11_64 0 rfl rfl (Nat.le_of_ble_eq_true rfl) rfl rfl dX11_text_20 ?_
  try dsimp only [List.set_cons_zero, List.set_cons_succ]
  refine J.aload_n g dX11_text_23 rfl rfl ?_
  refine J.iconst (v := -1) g dX11_text_24 (by decide) ?_
  refine J.put g jX11 9 (by decide) lf_X11_73 0 rfl rfl (Nat.le_of_ble_eq_true rfl) rfl rfl dX11_text_25 ?_
  try dsimp only [List.set_cons_zero, List.set_cons_succ]
  refine J.aload_n g dX11_text_28 rfl rfl ?_
  refine J.iconstN g 0 dX11_text_29 ?_
  refine J.put g jX11 4 (by decide) lf_X11_25 0 rfl rfl (Nat.le_of_ble_eq_true rfl) rfl rfl dX11_text_30 ?_
  try dsimp only [List.set_cons_zero, List.set_cons_succ]
  refine J.aload_n g dX11_text_33 rfl rfl ?_
  refine J.iconstN g 0 dX11_text_34 ?_
  refine J.put g jX11 11 (by decide) lf_X11_70 0 rfl rfl (Nat.le_of_ble_eq_true rfl) rfl rfl dX11_text_35 ?_
  try dsimp only [List.set_cons_zero, List.set_cons_succ]
  refine J.iconstN g 0 dX11_text_38 ?_
  refine J.istore_n g dX11_text_39 rfl rfl rfl ?_
  try dsimp only [List.set_cons_zero, List.set_cons_succ]
  have lp : ∀ (d : Nat) (k : Nat) (r1 : Nat → Nat), 17 - k < d → (k ≤ 17) → (∀ j, j < k → r1 j = 0) → J γ l x [(mo, .inr (11, [.int (nI 0), .ref mta, .int (nI 0), .int (nI mtd), .int (nI 0), .int (nI mfr), .int (nI mso), .int (nI mnu), .int (nI 0), .int (-1), .int (nI mpl), .int (nI 0), .long mwd, .ref mnw, .ref mrd, .ref mkp, .ref msn, .ref mbf, .ref mlv, .ref mik, .int (nI msm), .ref msu, .ref mbe, .ref mfe, .ref mmy, .ref mof, .ref msf, .ref mlr, .ref mty, .ref mfm, .ref mrn, .ref mrb, .int (nI mln), .ref mtb, .int mse])), (mta, .inl (γ.2 0, 340, .inl (fun j => nI (t j)))), (mrd, .inl (γ.2 0, 17, .inl (fun j => nI (r1 j)))), (mnw, .inl (γ.2 0, 17, .inl (fun j => nI (w j))))] [some (.ref mo), some (.int (nI k))] [] 0 0 40 := by
    intro d
    induction d with
    | zero => intro k r1 hm; exact absurd hm (Nat.not_lt_zero _)
    | succ d ih_lp =>
      intro k r1 hm hk h1
      refine J.iload_n g dX11_text_40 rfl rfl ?_
      refine J.bipush (v := nI 17) g dX11_text_41 (by decide +kernel) ?_
      refine J.icmp_geN g dX11_text_43 (tgt := 59) (by decide) (by omega) (by omega) (fun c_43 => ?_) (fun c_43 => ?_)
      · refine J.aload_n g dX11_text_59 rfl rfl ?_
        refine J.callV g (c_X11_next l γ _ _ _ _ _ _ _ _ _ _ _ _ _ _ _ _ _ _ _ _ _ _ _ _ _ _ _ _ _ _ _ _ _ _ _ _ _ hB hz (Nat.zero_le _)) jy_X11_next lm_X11_143 (q0 := 0) rfl jX11.1 ⟨⟨Nat.le_of_ble_eq_true rfl, Nat.le_of_ble_eq_true rfl⟩, Nat.le_of_ble_eq_true rfl, Nat.le_of_ble_eq_true rfl⟩ (Nat.le_of_ble_eq_true rfl) rfl [0, 1] rfl (fun _ => rfl) rfl dX11_text_60 ?_
        intro u_60 h_60
        dsimp only [jput, List.set_cons_zero, List.set_cons_succ, Option.toList, List.append, List.cons_append, List.nil_append, List.append_nil]
        have hm0 : mIs 0 0 f0 r1 := ⟨by decide +kernel, (h1 0 (by omega)).trans (by decide +kernel), fun j hj => absurd hj (by rw [show gpt 0 = 0 from by decide +kernel]; exact Nat.not_lt_zero _), h1 4 (by omega), Nat.zero_le _, fun j hj => absurd hj (Nat.not_lt_zero _), fun j hj => absurd hj (Nat.not_lt_zero _)⟩
        have hr0 : mR mtd (jrTok t mtd (mq0 a b c f0)) u_60 r1 0 := by subst h_60; exact ⟨mTok_next rfl (Nat.zero_le _), hm0, rfl⟩
        have lq : ∀ (d : Nat) (v9 : mV) (r9 : Nat → Nat) (q9 : jRS) (i pl9 : Nat), 301 - i < d → (mR mtd q9 v9 r9 i) → (jRB q9) → (q9.2.2.1 = (0, 0, -1)) → (i = 0 ↔ q9.2.1.1 = 0) → (i = 0 → q9.2.2.2.1 = 0) → (i ≤ q9.1.2.2.1) → (RR = jrAll t mtd (301 - i) i q9) → J γ l x [(mo, .inr (11, [.int (nI 0), .ref mta, .int (nI 0), .int (nI mtd), .int (nI v9.1), .int (nI v9.2.1), .int (nI v9.2.2.1), .int (nI v9.2.2.2.1), .int (nI 0), .int (-1), .int (nI pl9), .int (nI i), .long v9.2.2.2.2, .ref mnw, .ref mrd, .ref mkp, .ref msn, .ref mbf, .ref mlv, .ref mik, .int (nI msm), .ref msu, .ref mbe, .ref mfe, .ref mmy, .ref mof, .ref msf, .ref mlr, .ref mty, .ref mfm, .ref mrn, .ref mrb, .int (nI mln), .ref mtb, .int mse])), (mta, .inl (γ.2 0, 340, .inl (fun j => nI (t j)))), (mrd, .inl (γ.2 0, 17, .inl (fun j => nI (r9 j)))), (mnw, .inl (γ.2 0, 17, .inl (fun j => nI (w j))))] [some (.ref mo), none] [] 0 0 63 := by
          intro d
          induction d with
          | zero => intro v9 r9 q9 i pl9 hm; exact absurd hm (Nat.not_lt_zero _)
          | succ d ih_lq =>
            intro v9 r9 q9 i pl9 hm hr hJ9 hf9 hcode hn0 hps hR
            have hrs := hr.to.2.1
            have hrp := hr.ps.2
            refine J.aload_n g dX11_text_63 rfl rfl ?_
            refine J.get g jX11 6 (by decide) lf_X11_31 0 rfl rfl dX11_text_64 ?_
            refine J.if_eqN g dX11_text_67 (tgt := 104) (by decide) (by omega) (fun c_67 => ?_) (fun c_67 => ?_)
            · have hk0 : q9.1.2.1 = 0 := hr.st.mpr (by omega)
              have hRe : RR = q9 := by rw [hR]; exact (jrAll_e hk0).symm
              have hff : q9.2.2.1.1 = 0 := by rw [hf9]
              refine J.aload_n g dX11_text_104 rfl rfl ?_
              refine J.get g jX11 14 (by decide) lf_X11_88 0 rfl rfl dX11_text_105 ?_
              refine J.iconstN g 0 dX11_text_108 ?_
              refine J.aload_n g dX11_text_109 rfl rfl ?_
              refine J.get g jX11 13 (by decide) lf_X11_85 0 rfl rfl dX11_text_110 ?_
              refine J.iconstN g 0 dX11_text_113 ?_
              refine J.callS g (c_X11_copy l γ _ _ _ _ _ _ _ _ (by decide) (by decide) (by omega) (by omega)) jy_X11_copy lm_X11_179 ⟨⟨Nat.le_of_ble_eq_true rfl, Nat.le_of_ble_eq_true rfl⟩, Nat.le_of_ble_eq_true rfl, Nat.le_of_ble_eq_true rfl⟩ (Nat.le_of_ble_eq_true rfl) rfl [2, 3] rfl (fun _ => rfl) rfl dX11_text_114 ?_
              intro u_114 h_114
              dsimp only [jput, List.set_cons_zero, List.set_cons_succ, Option.toList, List.append, List.cons_append, List.nil_append, List.append_nil]
              refine J.aload_n g dX11_text_117 rfl rfl ?_
              refine J.iconstN g 0 dX11_text_118 ?_
              refine J.put g jX11 20 (by decide) lf_X11_183 0 rfl rfl (Nat.le_of_ble_eq_true rfl) rfl rfl dX11_text_119 ?_
              try dsimp only [List.set_cons_zero, List.set_cons_succ]
              refine J.aload_n g dX11_text_122 rfl rfl ?_
              refine J.get g jX11 11 (by decide) lf_X11_70 0 rfl rfl dX11_text_123 ?_
              exact J.iret g hE (v9, r9, (0, pl9, -1), i, u_114) (by rw [hRe, if_pos hff, ← hr.2.2]) ⟨by rw [hRe, hff], by rw [hRe, hf9], fun _ => by rw [hRe]; exact mIs_c hr.is (fun j hj => by show u_114 j = r9 j; rw [h_114, if_pos (by omega), show 0 + (j - 0) = j by omega]), fun z => absurd (by rw [hRe]; exact hff) z⟩ (by rw [if_pos (by rw [hRe]; exact hff)]) ⟨Nat.le_of_ble_eq_true rfl, Nat.le_of_ble_eq_true rfl⟩ dX11_text_126
            · have hv0 : v9.2.2.1 ≠ 0 := by omega
              have hk0 : ¬ q9.1.2.1 = 0 := fun z => hv0 (hr.st.mp z)
              have hff : q9.2.2.1.1 = 0 := by rw [hf9]
              refine J.aload_n g dX11_text_70 rfl rfl ?_
              refine J.callV g (c_X11_readRow l γ _ _ _ _ _ _ _ _ _ _ _ _ _ _ _ _ _ _ _ _ _ _ _ _ _ _ _ _ _ _ _ _ _ _ _ _ hB hz hr hv0 hcode hn0 hJ9 htf2) jy_X11_readRow lm_X11_173 (q0 := 0) rfl jX11.1 ⟨⟨Nat.le_of_ble_eq_true rfl, Nat.le_of_ble_eq_true rfl⟩, Nat.le_of_ble_eq_true rfl, Nat.le_of_ble_eq_true rfl⟩ (Nat.le_of_ble_eq_true rfl) rfl [0, 1, 2] rfl (fun _ => rfl) rfl dX11_text_71 ?_
              intro u_71 h_71
              dsimp only [jput, List.set_cons_zero, List.set_cons_succ, Option.toList, List.append, List.cons_append, List.nil_append, List.append_nil]
              have hJr := hJ9.row (tf := tf) (i := i) hz
              rw [← htf] at hJr
              refine J.if_eqB g dX11_text_74 (tgt := 84) (by decide) (fun c_74 => ?_) (fun c_74 => ?_)
              · obtain ⟨hb1, hb2, hb3, hb4, hb5⟩ := h_71.2 c_74
                have hRe : RR = (jrRow t mtd i q9).2 := by rw [hR]; exact jrAll_r (by omega) hff hk0 hb1 (by rw [← hb2]; exact hb3)
                have hRf : ¬ RR.2.2.1.1 = 0 := by rw [hRe, ← hb2]; exact hb3
                refine J.iconst (v := -1) g dX11_text_84 (by decide) ?_
                refine J.aload_n g dX11_text_85 rfl rfl ?_
                refine J.get g jX11 10 (by decide) lf_X11_67 0 rfl rfl dX11_text_86 ?_
                refine J.isub g dX11_text_89 ?_
                exact J.iret g hE (u_71.1, u_71.2.1, u_71.2.2.1, i, w) (by rw [if_neg hRf, hRe]; first | rw [hr8.to.2.2.1]; rfl | rw [← hb2]) ⟨by rw [hRe, hb2], by rw [hRe, hb2], fun z => absurd z hRf, fun _ => rfl⟩ (by rw [if_neg hRf]) ⟨Nat.le_of_ble_eq_true rfl, Nat.le_of_ble_eq_true rfl⟩ dX11_text_90
              · obtain ⟨hb0, q8, hr8, hR8, hc8, hp8⟩ := h_71.1 c_74
                have hs8 := hr8.to.2.1
                rw [hb0]
                refine J.aload_n g dX11_text_77 rfl rfl ?_
                rcases Decidable.em (u_71.1.2.2.1 = 4) with h4 | h4
                · refine J.callV g (c_X11_readEnd_yes l γ _ _ _ _ _ _ _ _ _ _ _ _ _ _ _ _ _ _ _ _ _ _ _ _ _ _ _ _ _ _ _ _ _ _ _ hB hz hr8 h4) jy_X11_readEnd lm_X11_176 (q0 := 0) rfl jX11.1 ⟨⟨Nat.le_of_ble_eq_true rfl, Nat.le_of_ble_eq_true rfl⟩, Nat.le_of_ble_eq_true rfl, Nat.le_of_ble_eq_true rfl⟩ (Nat.le_of_ble_eq_true rfl) rfl [0, 1, 2] rfl (fun _ => rfl) rfl dX11_text_78 ?_
                  intro u_78 h_78
                  dsimp only [jput, List.set_cons_zero, List.set_cons_succ, Option.toList, List.append, List.cons_append, List.nil_append, List.append_nil]
                  have hse : jrSemi t mtd q8 = (true, jrTok t mtd q8) := by rw [jrSemi, if_pos (hr8.sem.mpr h4)]
                  have hrow : jrRow t mtd i q9 = (true, jrTok t mtd q8) := hR8.trans hse
                  have hrn : mR mtd ((jrTok t mtd q8).1, ((jrTok t mtd q8).2.1.1, (jrTok t mtd q8).2.1.2 + 1), (jrTok t mtd q8).2.2) u_78 u_71.2.1 (i + 1) := ⟨h_78.1, h_78.2.1, by rw [← h_78.2.2]⟩
                  have hJ8 : jRB (jrTok t mtd q8) := by have := hJr; rw [hrow] at this; exact this
                  have hrw2 : (jrTok t mtd q8).2.1.2 = i := h_78.2.2.symm
                  have hJn : jRB ((jrTok t mtd q8).1, ((jrTok t mtd q8).2.1.1, (jrTok t mtd q8).2.1.2 + 1), (jrTok t mtd q8).2.2) := ⟨hJ8.1, ⟨hJ8.2.1.1, by show (jrTok t mtd q8).2.1.2 + 1 < 2 ^ 20; omega⟩, hJ8.2.2⟩
                  have hfn : ((jrTok t mtd q8).1, ((jrTok t mtd q8).2.1.1, (jrTok t mtd q8).2.1.2 + 1), (jrTok t mtd q8).2.2).2.2.1 = (0, 0, -1) := by have h9 : (jrRow t mtd i q9).2.2.2.1 = q9.2.2.1 := jrRow_f (by rw [hrow]); rw [hrow] at h9; exact h9.trans hf9
                  have hpn : i + 1 ≤ (jrTok t mtd q8).1.2.2.1 := by have := hr8.pos (t := t) (by omega) (by omega); omega
                  have hRn : RR = jrAll t mtd (301 - (i + 1)) (i + 1) ((jrTok t mtd q8).1, ((jrTok t mtd q8).2.1.1, (jrTok t mtd q8).2.1.2 + 1), (jrTok t mtd q8).2.2) := by rw [hR, jrAll_t (by omega) hff hk0 (by rw [hrow]), hrow]
                  refine J.if_neB g dX11_text_81 (tgt := 91) (by decide) (fun c_81 => ?_) (fun c_81 => absurd c_81 (by simp at c_81))
                  refine J.aload_n g dX11_text_91 rfl rfl ?_
                  refine J.dup g dX11_text_92 rfl ?_
                  refine J.get g jX11 11 (by decide) lf_X11_70 0 rfl rfl dX11_text_93 ?_
                  refine J.iconstN g 1 dX11_text_96 ?_
                  refine J.iaddN g dX11_text_97 ?_
                  refine J.put g jX11 11 (by decide) lf_X11_70 0 rfl rfl (Nat.le_of_ble_eq_true rfl) rfl rfl dX11_text_98 ?_
                  try dsimp only [List.set_cons_zero, List.set_cons_succ]
                  refine J.goto g dX11_text_101 (tgt := 63) (by decide) ?_
                  exact J.lvle (jle_s (jle_n jle_0)) (ih_lq u_78 u_71.2.1 (((jrTok t mtd q8).1, ((jrTok t mtd q8).2.1.1, (jrTok t mtd q8).2.1.2 + 1), (jrTok t mtd q8).2.2)) (i + 1) pl9 (by omega) hrn hJn hfn (Iff.intro (fun z => absurd z (Nat.succ_ne_zero i)) (fun z => absurd z hc8)) (fun z => absurd z (Nat.succ_ne_zero i)) hpn hRn)
                · refine J.callV g (c_X11_readEnd_no l γ _ _ _ _ _ _ _ _ _ _ _ _ _ _ _ _ _ _ _ _ _ _ _ _ _ _ _ _ _ _ _ _ hs8 h4) jy_X11_readEnd lm_X11_176 (q0 := 0) rfl jX11.1 ⟨⟨Nat.le_of_ble_eq_true rfl, Nat.le_of_ble_eq_true rfl⟩, Nat.le_of_ble_eq_true rfl, Nat.le_of_ble_eq_true rfl⟩ (Nat.le_of_ble_eq_true rfl) rfl [0] rfl (fun _ => rfl) rfl dX11_text_78 ?_
                  intro _ _
                  dsimp only [jput, List.set_cons_zero, List.set_cons_succ, Option.toList, List.append, List.cons_append, List.nil_append, List.append_nil]
                  have hse : jrSemi t mtd q8 = (false, jrFail 1 q8.1.2.2.1 q8) := by rw [jrSemi, if_neg (fun z => h4 (hr8.sem.mp z))]
                  have hrow : jrRow t mtd i q9 = (false, jrFail 1 q8.1.2.2.1 q8) := hR8.trans hse
                  have hRe : RR = jrFail 1 q8.1.2.2.1 q8 := by rw [hR, jrAll_r (by omega) hff hk0 (by rw [hrow]) (by rw [hrow]; show (1 : Nat) ≠ 0; decide), hrow]
                  have hRf : ¬ RR.2.2.1.1 = 0 := by rw [hRe]; show ¬ (1 : Nat) = 0; decide
                  refine J.if_neB g dX11_text_81 (tgt := 91) (by decide) (fun c_81 => absurd c_81 (by simp at c_81)) (fun c_81 => ?_)
                  refine J.iconst (v := -1) g dX11_text_84 (by decide) ?_
                  refine J.aload_n g dX11_text_85 rfl rfl ?_
                  refine J.get g jX11 10 (by decide) lf_X11_67 0 rfl rfl dX11_text_86 ?_
                  refine J.isub g dX11_text_89 ?_
                  exact J.iret g hE (u_71.1, u_71.2.1, (1, u_71.1.2.1, nI i), i, w) (by rw [if_neg hRf, hRe]; first | rw [hr8.to.2.2.1]; rfl | rw [← hb2]) ⟨by rw [hRe]; rfl, by rw [hRe, hr8.2.2]; rfl, fun z => absurd z hRf, fun _ => rfl⟩ (by rw [if_neg hRf]) ⟨Nat.le_of_ble_eq_true rfl, Nat.le_of_ble_eq_true rfl⟩ dX11_text_90
        exact J.lvle (jle_s (jle_n jle_0)) (lq _ u_60 r1 (jrTok t mtd (mq0 a b c f0)) 0 mpl (Nat.lt_succ_self _) hr0 (by rw [htf]; exact hJ0.tok hz) rfl (Iff.intro (fun _ => rfl) (fun _ => rfl)) (fun _ => rfl) (Nat.zero_le _) hRR)
      · refine J.aload_n g dX11_text_46 rfl rfl ?_
        refine J.get g jX11 14 (by decide) lf_X11_88 0 rfl rfl dX11_text_47 ?_
        refine J.iload_n g dX11_text_50 rfl rfl ?_
        refine J.iconstN g 0 dX11_text_51 ?_
        refine J.iastN g 2 rfl (by omega) (by decide) dX11_text_52 ?_
        try dsimp only [List.set_cons_zero, List.set_cons_succ]
        refine J.iincN g 1 dX11_text_53 rfl rfl ?_
        try dsimp only [List.set_cons_zero, List.set_cons_succ]
        refine J.goto g dX11_text_56 (tgt := 40) (by decide) ?_
        exact J.lvle (jle_s (jle_s jle_0)) (ih_lp (k + 1) _ (by omega) (by omega) (up_lt (P := fun _ v => v = 0) h1 rfl))
  exact J.lvle (jle_s (jle_s jle_0)) (lp _ 0 r (Nat.lt_succ_self _) (Nat.zero_le _) (fun j h => absurd h (Nat.not_lt_zero _)))
