set_option maxHeartbeats 4000000 in
set_option maxRecDepth 100000 in
theorem c_X11_laysBears (l : Launch) (γ : jγ) (mo mta mtd msz mto mfr mso mnu mfa mpl mro mnw mrd mkp msn mbf mlv mik msm msu mbe mfe mmy mof msf mlr mty mfm mrn mrb mln mtb : Nat) (mth mfw mse : Int32) (mwd : Int64) (cd n : Nat) (f w : Nat → Nat) (su : Nat → Nat) (be : Nat → Bool) (hw : mIs cd n f w) : jM (S := (Nat → Nat) × (Nat → Bool)) l γ yX11_laysBears cX11_laysBears 3 none ({ frames := 3, cells := 0, slots := 0, locals := 73 } : Room) [.ref mo] [(mo, .inr (11, [.int mth, .ref mta, .int (nI mtd), .int (nI msz), .int (nI mto), .int (nI mfr), .int (nI mso), .int (nI mnu), .int (nI mfa), .int mfw, .int (nI mpl), .int (nI mro), .long mwd, .ref mnw, .ref mrd, .ref mkp, .ref msn, .ref mbf, .ref mlv, .ref mik, .int (nI msm), .ref msu, .ref mbe, .ref mfe, .ref mmy, .ref mof, .ref msf, .ref mlr, .ref mty, .ref mfm, .ref mrn, .ref mrb, .int (nI mln), .ref mtb, .int mse])), (mnw, .inl (γ.2 0, 17, .inl (fun j => nI (w j)))), (msu, .inl (γ.2 0, 4096, .inl (fun j => nI (su j)))), (mbe, .inl (γ.2 2, 4096, .inl (fun j => jB (be j))))] (fun u => none) (fun u => [(mo, .inr (11, [.int mth, .ref mta, .int (nI mtd), .int (nI msz), .int (nI mto), .int (nI mfr), .int (nI mso), .int (nI mnu), .int (nI mfa), .int mfw, .int (nI mpl), .int (nI mro), .long mwd, .ref mnw, .ref mrd, .ref mkp, .ref msn, .ref mbf, .ref mlv, .ref mik, .int (nI msm), .ref msu, .ref mbe, .ref mfe, .ref mmy, .ref mof, .ref msf, .ref mlr, .ref mty, .ref mfm, .ref mrn, .ref mrb, .int (nI mln), .ref mtb, .int mse])), (mnw, .inl (γ.2 0, 17, .inl (fun j => nI (w j)))), (msu, .inl (γ.2 0, 4096, .inl (fun j => nI (u.1 j)))), (mbe, .inl (γ.2 2, 4096, .inl (fun j => jB (u.2 j))))]) (fun u => (∀ s, s < 2 ^ n → u.1 s = gS cd f n s) ∧ ∀ s, s < 2 ^ n → u.2 s = jD (zB cd f n s)) := by
  refine jM.of [some (.ref mo), none, none] rfl (Nat.le_of_ble_eq_true rfl) (by decide) ?_
  intro x g hE hin
  have hwg := hw.g
  have hw5 := hw.2.2.2.2.2.1
  have hwf := hw.2.2.2.2.2.2
  have hw3 := hw.2.2.1
  have hpw : 2 ^ n ≤ 2 ^ 12 := Nat.pow_le_pow_right (by omega) hwg.2.2.2.2.1
  have hpp := Nat.two_pow_pos n
  refine J.aload_n g dX11_laysBears_0 rfl rfl ?_
  refine J.callV g (c_X11_laysSums l γ _ _ _ _ _ _ _ _ _ _ _ _ _ _ _ _ _ _ _ _ _ _ _ _ _ _ _ _ _ _ _ _ _ _ _ _ _ _ _ _ _ hw) jy_X11_laysSums lm_X11_213 (q0 := 0) rfl jX11.1 ⟨⟨Nat.le_of_ble_eq_true rfl, Nat.le_of_ble_eq_true rfl⟩, Nat.le_of_ble_eq_true rfl, Nat.le_of_ble_eq_true rfl⟩ (Nat.le_of_ble_eq_true rfl) rfl [0, 1, 2] rfl (fun _ => rfl) rfl dX11_laysBears_1 ?_
  intro u_1 h_1
  dsimp only [jput, List.set_cons_zero, List.set_cons_succ, Option.toList, List.append, List.cons_append, List.nil_append, List.append_nil]
  refine J.aload_n g dX11_laysBears_4 rfl rfl ?_
  refine J.get g jX11 22 (by decide) lf_X11_110 0 rfl rfl dX11_laysBears_5 ?_
  refine J.iconstN g 0 dX11_laysBears_8 ?_
  refine J.iconstN g 0 dX11_laysBears_9 ?_
  refine J.zastB (p := false) g 3 rfl (by omega) (by decide) dX11_laysBears_10 ?_
  try dsimp only [List.set_cons_zero, List.set_cons_succ]
  refine J.iconstN g 1 dX11_laysBears_11 ?_
  refine J.istore_n g dX11_laysBears_12 rfl rfl rfl ?_
  try dsimp only [List.set_cons_zero, List.set_cons_succ]
  have lp : ∀ (d : Nat) (s : Nat) (B : Nat → Bool), 2 ^ n - s < d → (1 ≤ s ∧ s ≤ 2 ^ n) → (∀ t, t < s → B t = jD (zB cd f n t)) → J γ l x [(mo, .inr (11, [.int mth, .ref mta, .int (nI mtd), .int (nI msz), .int (nI mto), .int (nI mfr), .int (nI mso), .int (nI mnu), .int (nI mfa), .int mfw, .int (nI mpl), .int (nI mro), .long mwd, .ref mnw, .ref mrd, .ref mkp, .ref msn, .ref mbf, .ref mlv, .ref mik, .int (nI msm), .ref msu, .ref mbe, .ref mfe, .ref mmy, .ref mof, .ref msf, .ref mlr, .ref mty, .ref mfm, .ref mrn, .ref mrb, .int (nI mln), .ref mtb, .int mse])), (mnw, .inl (γ.2 0, 17, .inl (fun j => nI (w j)))), (msu, .inl (γ.2 0, 4096, .inl (fun j => nI (u_1 j)))), (mbe, .inl (γ.2 2, 4096, .inl (fun j => jB (B j))))] [some (.ref mo), some (.int (nI s)), none] [] 0 0 13 := by
    intro d
    induction d with
    | zero => intro s B hm; exact absurd hm (Nat.not_lt_zero _)
    | succ d ih_lp =>
      intro s B hm hs hh
      refine J.iload_n g dX11_laysBears_13 rfl rfl ?_
      refine J.aload_n g dX11_laysBears_14 rfl rfl ?_
      refine J.callV0 g (c_X11_all l γ _ _ _ _ _ _ _ _ _ _ _ _ _ _ _ _ _ _ _ _ _ _ _ _ _ _ _ _ _ _ _ _ _ _ _ _ _ _ _ _ hw) jy_X11_all lm_X11_204 (q0 := 0) rfl jX11.1 ⟨⟨Nat.le_of_ble_eq_true rfl, Nat.le_of_ble_eq_true rfl⟩, Nat.le_of_ble_eq_true rfl, Nat.le_of_ble_eq_true rfl⟩ (Nat.le_of_ble_eq_true rfl) rfl [0, 1] rfl rfl dX11_laysBears_15 ?_
      intro _ _
      dsimp only [jpush]
      refine J.icmp_gtN g dX11_laysBears_18 (tgt := 93) (by decide) (by omega) (by omega) (fun c_18 => ?_) (fun c_18 => ?_)
      · exact J.vret g hE (u_1, B) rfl ⟨h_1, fun t ht => hh t (by omega)⟩ rfl ⟨Nat.le_of_ble_eq_true rfl, Nat.le_of_ble_eq_true rfl⟩ dX11_laysBears_93
      · have hsv := h_1 s (by omega)
        have hsl : gS cd f n s < 24 := by have := gS_lt1 (cd := cd) (f := f) (s := s) hw.1 n hwf; omega
        refine J.aload_n g dX11_laysBears_21 rfl rfl ?_
        refine J.get g jX11 22 (by decide) lf_X11_110 0 rfl rfl dX11_laysBears_22 ?_
        refine J.iload_n g dX11_laysBears_25 rfl rfl ?_
        refine J.aload_n g dX11_laysBears_26 rfl rfl ?_
        refine J.get g jX11 21 (by decide) lf_X11_107 0 rfl rfl dX11_laysBears_27 ?_
        refine J.iload_n g dX11_laysBears_30 rfl rfl ?_
        refine J.ialdN g 2 rfl (by omega) (by decide) dX11_laysBears_31 ?_
        refine J.if_neN g dX11_laysBears_32 (tgt := 39) (by decide) (by omega) (fun c_32 => ?_) (fun c_32 => ?_)
        · refine J.iconstN g 0 dX11_laysBears_39 ?_
          refine J.zastB (p := false) g 3 rfl (by omega) (by decide) dX11_laysBears_40 ?_
          try dsimp only [List.set_cons_zero, List.set_cons_succ]
          refine J.iconstN g 0 dX11_laysBears_41 ?_
          refine J.istore_n g dX11_laysBears_42 rfl rfl rfl ?_
          try dsimp only [List.set_cons_zero, List.set_cons_succ]
          have lq1 : ∀ (d : Nat) (k : Nat) (B2 : Nat → Bool), n - k < d → (k ≤ n) → (∀ t, t < s → B2 t = jD (zB cd f n t)) → (B2 s = jD (zQ cd f n s k)) → J γ l x [(mo, .inr (11, [.int mth, .ref mta, .int (nI mtd), .int (nI msz), .int (nI mto), .int (nI mfr), .int (nI mso), .int (nI mnu), .int (nI mfa), .int mfw, .int (nI mpl), .int (nI mro), .long mwd, .ref mnw, .ref mrd, .ref mkp, .ref msn, .ref mbf, .ref mlv, .ref mik, .int (nI msm), .ref msu, .ref mbe, .ref mfe, .ref mmy, .ref mof, .ref msf, .ref mlr, .ref mty, .ref mfm, .ref mrn, .ref mrb, .int (nI mln), .ref mtb, .int mse])), (mnw, .inl (γ.2 0, 17, .inl (fun j => nI (w j)))), (msu, .inl (γ.2 0, 4096, .inl (fun j => nI (u_1 j)))), (mbe, .inl (γ.2 2, 4096, .inl (fun j => jB (B2 j))))] [some (.ref mo), some (.int (nI s)), some (.int (nI k))] [] 0 0 43 := by
            intro d
            induction d with
            | zero => intro k B2 hm; exact absurd hm (Nat.not_lt_zero _)
            | succ d ih_lq1 =>
              intro k B2 hm hk h2 h3
              refine J.iload_n g dX11_laysBears_43 rfl rfl ?_
              refine J.aload_n g dX11_laysBears_44 rfl rfl ?_
              refine J.callV0 g (c_X11_places l γ _ _ _ _ _ _ _ _ _ _ _ _ _ _ _ _ _ _ _ _ _ _ _ _ _ _ _ _ _ _ _ _ _ _ _ _ _ _ _ _ hw) jy_X11_places lm_X11_190 (q0 := 0) rfl jX11.1 ⟨⟨Nat.le_of_ble_eq_true rfl, Nat.le_of_ble_eq_true rfl⟩, Nat.le_of_ble_eq_true rfl, Nat.le_of_ble_eq_true rfl⟩ (Nat.le_of_ble_eq_true rfl) rfl [0, 1] rfl rfl dX11_laysBears_45 ?_
              intro _ _
              dsimp only [jpush]
              refine J.icmp_geN g dX11_laysBears_48 (tgt := 87) (by decide) (by omega) (by omega) (fun c_48 => ?_) (fun c_48 => ?_)
              · have hnn : ∀ t, t < s + 1 → B2 t = jD (zB cd f n t) := lt_s h2 (by rw [h3, show k = n by omega]; exact zQ_e (by omega))
                refine J.iincN g 1 dX11_laysBears_87 rfl rfl ?_
                try dsimp only [List.set_cons_zero, List.set_cons_succ]
                refine J.goto g dX11_laysBears_90 (tgt := 13) (by decide) ?_
                exact J.lvle (jle_s (jle_s (jle_n jle_0))) (ih_lp (s + 1) B2 (by omega) (by omega) hnn)
              · refine J.iload_n g dX11_laysBears_51 rfl rfl ?_
                refine J.iload_n g dX11_laysBears_52 rfl rfl ?_
                refine J.callS0 g (c_X11_has l γ _ _ (by omega) (by omega)) jy_X11_has lm_X11_7 ⟨⟨Nat.le_of_ble_eq_true rfl, Nat.le_of_ble_eq_true rfl⟩, Nat.le_of_ble_eq_true rfl, Nat.le_of_ble_eq_true rfl⟩ (Nat.le_of_ble_eq_true rfl) rfl [] rfl rfl dX11_laysBears_53 ?_
                intro _ _
                dsimp only [jpush]
                refine J.if_eqB g dX11_laysBears_56 (tgt := 81) (by decide) (fun c_56 => ?_) (fun c_56 => ?_)
                · have hn1 := h2
                  have hn2 : B2 s = jD (zQ cd f n s (k + 1)) := h3.trans (zQ_s (Or.inl c_56))
                  refine J.iincN g 1 dX11_laysBears_81 rfl rfl ?_
                  try dsimp only [List.set_cons_zero, List.set_cons_succ]
                  refine J.goto g dX11_laysBears_84 (tgt := 43) (by decide) ?_
                  exact J.lvle (jle_s (jle_s (jle_s jle_0))) (ih_lq1 (k + 1) _ (by omega) (by omega) hn1 hn2)
                · have hxl : s ^^^ 2 ^ k < s := jxor_lt c_56
                  refine J.aload_n g dX11_laysBears_59 rfl rfl ?_
                  refine J.get g jX11 22 (by decide) lf_X11_110 0 rfl rfl dX11_laysBears_60 ?_
                  refine J.iload_n g dX11_laysBears_63 rfl rfl ?_
                  refine J.iconstN g 1 dX11_laysBears_64 ?_
                  refine J.iload_n g dX11_laysBears_65 rfl rfl ?_
                  refine J.ishl' g dX11_laysBears_66 (j_pow (by omega)) ?_
                  refine J.iconst (v := -1) g dX11_laysBears_67 (by decide) ?_
                  refine J.ixor g dX11_laysBears_68 ?_
                  refine J.iand' g dX11_laysBears_69 (j_andn _ _) ?_
                  rw [and_pow c_56]
                  refine J.zaldB g 3 rfl (by omega) (by decide) dX11_laysBears_70 ?_
                  refine J.if_eqB g dX11_laysBears_71 (tgt := 81) (by decide) (fun c_71 => ?_) (fun c_71 => ?_)
                  · have hn1 := h2
                    have hn2 : B2 s = jD (zQ cd f n s (k + 1)) := h3.trans (zQ_s (Or.inr (jD_not.mp ((h2 _ hxl).symm.trans c_71))))
                    refine J.iincN g 1 dX11_laysBears_81 rfl rfl ?_
                    try dsimp only [List.set_cons_zero, List.set_cons_succ]
                    refine J.goto g dX11_laysBears_84 (tgt := 43) (by decide) ?_
                    exact J.lvle (jle_s (jle_s (jle_s jle_0))) (ih_lq1 (k + 1) _ (by omega) (by omega) hn1 hn2)
                  · have hzz := jD_is.mp ((h2 _ hxl).symm.trans c_71)
                    have hn1 : ∀ t, t < s → va_up B2 s true t = jD (zB cd f n t) := fun t ht => (uq_ne (by omega)).trans (h2 t ht)
                    have hn2 : va_up B2 s true s = jD (zQ cd f n s (k + 1)) := uq_at.trans (zQ_t c_56 hzz)
                    refine J.aload_n g dX11_laysBears_74 rfl rfl ?_
                    refine J.get g jX11 22 (by decide) lf_X11_110 0 rfl rfl dX11_laysBears_75 ?_
                    refine J.iload_n g dX11_laysBears_78 rfl rfl ?_
                    refine J.iconstN g 1 dX11_laysBears_79 ?_
                    refine J.zastB (p := true) g 3 rfl (by omega) (by decide) dX11_laysBears_80 ?_
                    try dsimp only [List.set_cons_zero, List.set_cons_succ]
                    refine J.iincN g 1 dX11_laysBears_81 rfl rfl ?_
                    try dsimp only [List.set_cons_zero, List.set_cons_succ]
                    refine J.goto g dX11_laysBears_84 (tgt := 43) (by decide) ?_
                    exact J.lvle (jle_s (jle_s (jle_s jle_0))) (ih_lq1 (k + 1) _ (by omega) (by omega) hn1 hn2)
          exact J.lvle (jle_s (jle_s (jle_s jle_0))) (lq1 _ 0 (va_up B s false) (Nat.lt_succ_self _) (by omega) (fun t ht => (uq_ne (by omega)).trans (hh t ht)) (by rw [uq_at]; exact zQ_0f (by rw [← hsv]; exact c_32)))
        · refine J.iconstN g 1 dX11_laysBears_35 ?_
          refine J.goto g dX11_laysBears_36 (tgt := 40) (by decide) ?_
          refine J.zastB (p := true) g 3 rfl (by omega) (by decide) dX11_laysBears_40 ?_
          try dsimp only [List.set_cons_zero, List.set_cons_succ]
          refine J.iconstN g 0 dX11_laysBears_41 ?_
          refine J.istore_n g dX11_laysBears_42 rfl rfl rfl ?_
          try dsimp only [List.set_cons_zero, List.set_cons_succ]
          have lq2 : ∀ (d : Nat) (k : Nat) (B2 : Nat → Bool), n - k < d → (k ≤ n) → (∀ t, t < s → B2 t = jD (zB cd f n t)) → (B2 s = jD (zQ cd f n s k)) → J γ l x [(mo, .inr (11, [.int mth, .ref mta, .int (nI mtd), .int (nI msz), .int (nI mto), .int (nI mfr), .int (nI mso), .int (nI mnu), .int (nI mfa), .int mfw, .int (nI mpl), .int (nI mro), .long mwd, .ref mnw, .ref mrd, .ref mkp, .ref msn, .ref mbf, .ref mlv, .ref mik, .int (nI msm), .ref msu, .ref mbe, .ref mfe, .ref mmy, .ref mof, .ref msf, .ref mlr, .ref mty, .ref mfm, .ref mrn, .ref mrb, .int (nI mln), .ref mtb, .int mse])), (mnw, .inl (γ.2 0, 17, .inl (fun j => nI (w j)))), (msu, .inl (γ.2 0, 4096, .inl (fun j => nI (u_1 j)))), (mbe, .inl (γ.2 2, 4096, .inl (fun j => jB (B2 j))))] [some (.ref mo), some (.int (nI s)), some (.int (nI k))] [] 0 0 43 := by
            intro d
            induction d with
            | zero => intro k B2 hm; exact absurd hm (Nat.not_lt_zero _)
            | succ d ih_lq2 =>
              intro k B2 hm hk h2 h3
              refine J.iload_n g dX11_laysBears_43 rfl rfl ?_
              refine J.aload_n g dX11_laysBears_44 rfl rfl ?_
              refine J.callV0 g (c_X11_places l γ _ _ _ _ _ _ _ _ _ _ _ _ _ _ _ _ _ _ _ _ _ _ _ _ _ _ _ _ _ _ _ _ _ _ _ _ _ _ _ _ hw) jy_X11_places lm_X11_190 (q0 := 0) rfl jX11.1 ⟨⟨Nat.le_of_ble_eq_true rfl, Nat.le_of_ble_eq_true rfl⟩, Nat.le_of_ble_eq_true rfl, Nat.le_of_ble_eq_true rfl⟩ (Nat.le_of_ble_eq_true rfl) rfl [0, 1] rfl rfl dX11_laysBears_45 ?_
              intro _ _
              dsimp only [jpush]
              refine J.icmp_geN g dX11_laysBears_48 (tgt := 87) (by decide) (by omega) (by omega) (fun c_48 => ?_) (fun c_48 => ?_)
              · have hnn : ∀ t, t < s + 1 → B2 t = jD (zB cd f n t) := lt_s h2 (by rw [h3, show k = n by omega]; exact zQ_e (by omega))
                refine J.iincN g 1 dX11_laysBears_87 rfl rfl ?_
                try dsimp only [List.set_cons_zero, List.set_cons_succ]
                refine J.goto g dX11_laysBears_90 (tgt := 13) (by decide) ?_
                exact J.lvle (jle_s (jle_s (jle_n jle_0))) (ih_lp (s + 1) B2 (by omega) (by omega) hnn)
              · refine J.iload_n g dX11_laysBears_51 rfl rfl ?_
                refine J.iload_n g dX11_laysBears_52 rfl rfl ?_
                refine J.callS0 g (c_X11_has l γ _ _ (by omega) (by omega)) jy_X11_has lm_X11_7 ⟨⟨Nat.le_of_ble_eq_true rfl, Nat.le_of_ble_eq_true rfl⟩, Nat.le_of_ble_eq_true rfl, Nat.le_of_ble_eq_true rfl⟩ (Nat.le_of_ble_eq_true rfl) rfl [] rfl rfl dX11_laysBears_53 ?_
                intro _ _
                dsimp only [jpush]
                refine J.if_eqB g dX11_laysBears_56 (tgt := 81) (by decide) (fun c_56 => ?_) (fun c_56 => ?_)
                · have hn1 := h2
                  have hn2 : B2 s = jD (zQ cd f n s (k + 1)) := h3.trans (zQ_s (Or.inl c_56))
                  refine J.iincN g 1 dX11_laysBears_81 rfl rfl ?_
                  try dsimp only [List.set_cons_zero, List.set_cons_succ]
                  refine J.goto g dX11_laysBears_84 (tgt := 43) (by decide) ?_
                  exact J.lvle (jle_s (jle_s (jle_s jle_0))) (ih_lq2 (k + 1) _ (by omega) (by omega) hn1 hn2)
                · have hxl : s ^^^ 2 ^ k < s := jxor_lt c_56
                  refine J.aload_n g dX11_laysBears_59 rfl rfl ?_
                  refine J.get g jX11 22 (by decide) lf_X11_110 0 rfl rfl dX11_laysBears_60 ?_
                  refine J.iload_n g dX11_laysBears_63 rfl rfl ?_
                  refine J.iconstN g 1 dX11_laysBears_64 ?_
                  refine J.iload_n g dX11_laysBears_65 rfl rfl ?_
                  refine J.ishl' g dX11_laysBears_66 (j_pow (by omega)) ?_
                  refine J.iconst (v := -1) g dX11_laysBears_67 (by decide) ?_
                  refine J.ixor g dX11_laysBears_68 ?_
                  refine J.iand' g dX11_laysBears_69 (j_andn _ _) ?_
                  rw [and_pow c_56]
                  refine J.zaldB g 3 rfl (by omega) (by decide) dX11_laysBears_70 ?_
                  refine J.if_eqB g dX11_laysBears_71 (tgt := 81) (by decide) (fun c_71 => ?_) (fun c_71 => ?_)
                  · have hn1 := h2
                    have hn2 : B2 s = jD (zQ cd f n s (k + 1)) := h3.trans (zQ_s (Or.inr (jD_not.mp ((h2 _ hxl).symm.trans c_71))))
                    refine J.iincN g 1 dX11_laysBears_81 rfl rfl ?_
                    try dsimp only [List.set_cons_zero, List.set_cons_succ]
                    refine J.goto g dX11_laysBears_84 (tgt := 43) (by decide) ?_
                    exact J.lvle (jle_s (jle_s (jle_s jle_0))) (ih_lq2 (k + 1) _ (by omega) (by omega) hn1 hn2)
                  · have hzz := jD_is.mp ((h2 _ hxl).symm.trans c_71)
                    have hn1 : ∀ t, t < s → va_up B2 s true t = jD (zB cd f n t) := fun t ht => (uq_ne (by omega)).trans (h2 t ht)
                    have hn2 : va_up B2 s true s = jD (zQ cd f n s (k + 1)) := uq_at.trans (zQ_t c_56 hzz)
                    refine J.aload_n g dX11_laysBears_74 rfl rfl ?_
                    refine J.get g jX11 22 (by decide) lf_X11_110 0 rfl rfl dX11_laysBears_75 ?_
                    refine J.iload_n g dX11_laysBears_78 rfl rfl ?_
                    refine J.iconstN g 1 dX11_laysBears_79 ?_
                    refine J.zastB (p := true) g 3 rfl (by omega) (by decide) dX11_laysBears_80 ?_
                    try dsimp only [List.set_cons_zero, List.set_cons_succ]
                    refine J.iincN g 1 dX11_laysBears_81 rfl rfl ?_
                    try dsimp only [List.set_cons_zero, List.set_cons_succ]
                    refine J.goto g dX11_laysBears_84 (tgt := 43) (by decide) ?_
                    exact J.lvle (jle_s (jle_s (jle_s jle_0))) (ih_lq2 (k + 1) _ (by omega) (by omega) hn1 hn2)
          exact J.lvle (jle_s (jle_s (jle_s jle_0))) (lq2 _ 0 (va_up B s true) (Nat.lt_succ_self _) (by omega) (fun t ht => (uq_ne (by omega)).trans (hh t ht)) (by rw [uq_at]; exact zQ_0t (by omega) (by rw [← hsv]; exact c_32)))
  exact J.lvle (jle_s (jle_s (jle_n jle_0))) (lp _ 1 (va_up be 0 false) (Nat.lt_succ_self _) (by omega) (fun t ht => by obtain rfl : t = 0 := (by omega); rw [uq_at, jD_f zB_0]))
set_option maxHeartbeats 4000000 in
set_option maxRecDepth 100000 in
theorem c_X11_isAtom (l : Launch) (γ : jγ) (mo mta mtd msz mto mfr mso mnu mfa mpl mro mnw mrd mkp msn mbf mlv mik msm msu mbe mfe mmy mof msf mlr mty mfm mrn mrb mln mtb : Nat) (mth mfw mse : Int32) (mwd : Int64) (cd n : Nat) (f w : Nat → Nat) (su : Nat → Nat) (be : Nat → Bool) (s : Nat) (hw : mIs cd n f w) (hsu : ∀ s, s < 2 ^ n → su s = gS cd f n s) (hbe : ∀ s, s < 2 ^ n → be s = jD (zB cd f n s)) (hs : s < 2 ^ n) : jM (S := Unit) l γ yX11_isAtom cX11_isAtom 3 (some .boolean) ({ frames := 1, cells := 0, slots := 0, locals := 21 } : Room) [.ref mo, .int (nI s)] [(mo, .inr (11, [.int mth, .ref mta, .int (nI mtd), .int (nI msz), .int (nI mto), .int (nI mfr), .int (nI mso), .int (nI mnu), .int (nI mfa), .int mfw, .int (nI mpl), .int (nI mro), .long mwd, .ref mnw, .ref mrd, .ref mkp, .ref msn, .ref mbf, .ref mlv, .ref mik, .int (nI msm), .ref msu, .ref mbe, .ref mfe, .ref mmy, .ref mof, .ref msf, .ref mlr, .ref mty, .ref mfm, .ref mrn, .ref mrb, .int (nI mln), .ref mtb, .int mse])), (mnw, .inl (γ.2 0, 17, .inl (fun j => nI (w j)))), (msu, .inl (γ.2 0, 4096, .inl (fun j => nI (su j)))), (mbe, .inl (γ.2 2, 4096, .inl (fun j => jB (be j))))] (fun w0 => some (.int (jB (jD (aT cd f n s))))) (fun w0 => [(mo, .inr (11, [.int mth, .ref mta, .int (nI mtd), .int (nI msz), .int (nI mto), .int (nI mfr), .int (nI mso), .int (nI mnu), .int (nI mfa), .int mfw, .int (nI mpl), .int (nI mro), .long mwd, .ref mnw, .ref mrd, .ref mkp, .ref msn, .ref mbf, .ref mlv, .ref mik, .int (nI msm), .ref msu, .ref mbe, .ref mfe, .ref mmy, .ref mof, .ref msf, .ref mlr, .ref mty, .ref mfm, .ref mrn, .ref mrb, .int (nI mln), .ref mtb, .int mse])), (mnw, .inl (γ.2 0, 17, .inl (fun j => nI (w j)))), (msu, .inl (γ.2 0, 4096, .inl (fun j => nI (su j)))), (mbe, .inl (γ.2 2, 4096, .inl (fun j => jB (be j))))]) (fun w0 => True) := by
  refine jM.of [some (.ref mo), some (.int (nI s)), none] rfl (Nat.le_of_ble_eq_true rfl) (by decide) ?_
  intro x g hE hin
  have hwg := hw.g
  have hw5 := hw.2.2.2.2.2.1
  have hwf := hw.2.2.2.2.2.2
  have hw3 := hw.2.2.1
  have hpw : 2 ^ n ≤ 2 ^ 12 := Nat.pow_le_pow_right (by omega) hwg.2.2.2.2.1
  have hpp := Nat.two_pow_pos n
  refine J.iload_n g dX11_isAtom_0 rfl rfl ?_
  refine J.if_eqN g dX11_isAtom_1 (tgt := 13) (by decide) (by omega) (fun c_1 => ?_) (fun c_1 => ?_)
  · refine J.iconstN g 0 dX11_isAtom_13 ?_
    exact J.zret (by first | rfl | exact j_nz _) g hE () (jB_f (by first | exact jD_f (fun z => z.1 c_1) | exact jD_f (fun z => c_10 (hsv.trans z.2.1)) | exact jD_f (fun z => ((aT_rec hs).mp z).2.2 k (by omega) c_30 (jD_is.mp ((hbe _ (by omega)).symm.trans c_45))) | exact jD_t ((aT_rec hs).mpr ⟨c_1, hsv.symm.trans c_10, fun j hj => hh j (by omega)⟩))) trivial rfl ⟨Nat.le_of_ble_eq_true rfl, Nat.le_of_ble_eq_true rfl⟩ dX11_isAtom_14
  · have hsv := hsu s hs
    have hsl : gS cd f n s < 24 := by have := gS_lt1 (cd := cd) (f := f) (s := s) hw.1 n hwf; omega
    refine J.aload_n g dX11_isAtom_4 rfl rfl ?_
    refine J.get g jX11 21 (by decide) lf_X11_107 0 rfl rfl dX11_isAtom_5 ?_
    refine J.iload_n g dX11_isAtom_8 rfl rfl ?_
    refine J.ialdN g 2 rfl (by omega) (by decide) dX11_isAtom_9 ?_
    refine J.if_eqN g dX11_isAtom_10 (tgt := 15) (by decide) (by omega) (fun c_10 => ?_) (fun c_10 => ?_)
    · refine J.iconstN g 0 dX11_isAtom_15 ?_
      refine J.istore_n g dX11_isAtom_16 rfl rfl rfl ?_
      try dsimp only [List.set_cons_zero, List.set_cons_succ]
      have lp : ∀ (d : Nat) (k : Nat), n - k < d → (k ≤ n) → (∀ j, j < k → s.testBit j = true → ¬ zB cd f n (s ^^^ 2 ^ j)) → J γ l x [(mo, .inr (11, [.int mth, .ref mta, .int (nI mtd), .int (nI msz), .int (nI mto), .int (nI mfr), .int (nI mso), .int (nI mnu), .int (nI mfa), .int mfw, .int (nI mpl), .int (nI mro), .long mwd, .ref mnw, .ref mrd, .ref mkp, .ref msn, .ref mbf, .ref mlv, .ref mik, .int (nI msm), .ref msu, .ref mbe, .ref mfe, .ref mmy, .ref mof, .ref msf, .ref mlr, .ref mty, .ref mfm, .ref mrn, .ref mrb, .int (nI mln), .ref mtb, .int mse])), (mnw, .inl (γ.2 0, 17, .inl (fun j => nI (w j)))), (msu, .inl (γ.2 0, 4096, .inl (fun j => nI (su j)))), (mbe, .inl (γ.2 2, 4096, .inl (fun j => jB (be j))))] [some (.ref mo), some (.int (nI s)), some (.int (nI k))] [] 0 0 17 := by
        intro d
        induction d with
        | zero => intro k hm; exact absurd hm (Nat.not_lt_zero _)
        | succ d ih_lp =>
          intro k hm hk hh
          refine J.iload_n g dX11_isAtom_17 rfl rfl ?_
          refine J.aload_n g dX11_isAtom_18 rfl rfl ?_
          refine J.callV0 g (c_X11_places l γ _ _ _ _ _ _ _ _ _ _ _ _ _ _ _ _ _ _ _ _ _ _ _ _ _ _ _ _ _ _ _ _ _ _ _ _ _ _ _ _ hw) jy_X11_places lm_X11_190 (q0 := 0) rfl jX11.1 ⟨⟨Nat.le_of_ble_eq_true rfl, Nat.le_of_ble_eq_true rfl⟩, Nat.le_of_ble_eq_true rfl, Nat.le_of_ble_eq_true rfl⟩ (Nat.le_of_ble_eq_true rfl) rfl [0, 1] rfl rfl dX11_isAtom_19 ?_
          intro _ _
          dsimp only [jpush]
          refine J.icmp_geN g dX11_isAtom_22 (tgt := 56) (by decide) (by omega) (by omega) (fun c_22 => ?_) (fun c_22 => ?_)
          · refine J.iconstN g 1 dX11_isAtom_56 ?_
            exact J.zret (by first | rfl | exact j_nz _) g hE () (jB_t (by first | exact jD_f (fun z => z.1 c_1) | exact jD_f (fun z => c_10 (hsv.trans z.2.1)) | exact jD_f (fun z => ((aT_rec hs).mp z).2.2 k (by omega) c_30 (jD_is.mp ((hbe _ (by omega)).symm.trans c_45))) | exact jD_t ((aT_rec hs).mpr ⟨c_1, hsv.symm.trans c_10, fun j hj => hh j (by omega)⟩))) trivial rfl ⟨Nat.le_of_ble_eq_true rfl, Nat.le_of_ble_eq_true rfl⟩ dX11_isAtom_57
          · refine J.iload_n g dX11_isAtom_25 rfl rfl ?_
            refine J.iload_n g dX11_isAtom_26 rfl rfl ?_
            refine J.callS0 g (c_X11_has l γ _ _ (by omega) (by omega)) jy_X11_has lm_X11_7 ⟨⟨Nat.le_of_ble_eq_true rfl, Nat.le_of_ble_eq_true rfl⟩, Nat.le_of_ble_eq_true rfl, Nat.le_of_ble_eq_true rfl⟩ (Nat.le_of_ble_eq_true rfl) rfl [] rfl rfl dX11_isAtom_27 ?_
            intro _ _
            dsimp only [jpush]
            refine J.if_eqB g dX11_isAtom_30 (tgt := 50) (by decide) (fun c_30 => ?_) (fun c_30 => ?_)
            · have hn1 : ∀ j, j < k + 1 → s.testBit j = true → ¬ zB cd f n (s ^^^ 2 ^ j) := lt_s (p := fun j => s.testBit j = true → ¬ zB cd f n (s ^^^ 2 ^ j)) hh (fun z => by rw [c_30] at z; cases z)
              refine J.iincN g 1 dX11_isAtom_50 rfl rfl ?_
              try dsimp only [List.set_cons_zero, List.set_cons_succ]
              refine J.goto g dX11_isAtom_53 (tgt := 17) (by decide) ?_
              exact J.lvle (jle_s (jle_s (jle_s jle_0))) (ih_lp (k + 1) (by omega) (by omega) hn1)
            · have hxl : s ^^^ 2 ^ k < s := jxor_lt c_30
              refine J.aload_n g dX11_isAtom_33 rfl rfl ?_
              refine J.get g jX11 22 (by decide) lf_X11_110 0 rfl rfl dX11_isAtom_34 ?_
              refine J.iload_n g dX11_isAtom_37 rfl rfl ?_
              refine J.iconstN g 1 dX11_isAtom_38 ?_
              refine J.iload_n g dX11_isAtom_39 rfl rfl ?_
              refine J.ishl' g dX11_isAtom_40 (j_pow (by omega)) ?_
              refine J.iconst (v := -1) g dX11_isAtom_41 (by decide) ?_
              refine J.ixor g dX11_isAtom_42 ?_
              refine J.iand' g dX11_isAtom_43 (j_andn _ _) ?_
              rw [and_pow c_30]
              refine J.zaldB g 3 rfl (by omega) (by decide) dX11_isAtom_44 ?_
              refine J.if_eqB g dX11_isAtom_45 (tgt := 50) (by decide) (fun c_45 => ?_) (fun c_45 => ?_)
              · have hn1 : ∀ j, j < k + 1 → s.testBit j = true → ¬ zB cd f n (s ^^^ 2 ^ j) := lt_s (p := fun j => s.testBit j = true → ¬ zB cd f n (s ^^^ 2 ^ j)) hh (fun _ => jD_not.mp ((hbe _ (by omega)).symm.trans c_45))
                refine J.iincN g 1 dX11_isAtom_50 rfl rfl ?_
                try dsimp only [List.set_cons_zero, List.set_cons_succ]
                refine J.goto g dX11_isAtom_53 (tgt := 17) (by decide) ?_
                exact J.lvle (jle_s (jle_s (jle_s jle_0))) (ih_lp (k + 1) (by omega) (by omega) hn1)
              · refine J.iconstN g 0 dX11_isAtom_48 ?_
                exact J.zret (by first | rfl | exact j_nz _) g hE () (jB_f (by first | exact jD_f (fun z => z.1 c_1) | exact jD_f (fun z => c_10 (hsv.trans z.2.1)) | exact jD_f (fun z => ((aT_rec hs).mp z).2.2 k (by omega) c_30 (jD_is.mp ((hbe _ (by omega)).symm.trans c_45))) | exact jD_t ((aT_rec hs).mpr ⟨c_1, hsv.symm.trans c_10, fun j hj => hh j (by omega)⟩))) trivial rfl ⟨Nat.le_of_ble_eq_true rfl, Nat.le_of_ble_eq_true rfl⟩ dX11_isAtom_49
      exact J.lvle (jle_s (jle_s (jle_s jle_0))) (lp _ 0 (Nat.lt_succ_self _) (by omega) (fun j h => absurd h (Nat.not_lt_zero _)))
    · refine J.iconstN g 0 dX11_isAtom_13 ?_
      exact J.zret (by first | rfl | exact j_nz _) g hE () (jB_f (by first | exact jD_f (fun z => z.1 c_1) | exact jD_f (fun z => c_10 (hsv.trans z.2.1)) | exact jD_f (fun z => ((aT_rec hs).mp z).2.2 k (by omega) c_30 (jD_is.mp ((hbe _ (by omega)).symm.trans c_45))) | exact jD_t ((aT_rec hs).mpr ⟨c_1, hsv.symm.trans c_10, fun j hj => hh j (by omega)⟩))) trivial rfl ⟨Nat.le_of_ble_eq_true rfl, Nat.le_of_ble_eq_true rfl⟩ dX11_isAtom_14
set_option maxHeartbeats 4000000 in
set_option maxRecDepth 100000 in
theorem c_X11_mayCome (l : Launch) (γ : jγ) (mo mta mtd msz mto mfr mso mnu mfa mpl mro mnw mrd mkp msn mbf mlv mik msm msu mbe mfe mmy mof msf mlr mty mfm mrn mrb mln mtb : Nat) (mth mfw mse : Int32) (mwd : Int64) (cd n : Nat) (f w : Nat → Nat) (su : Nat → Nat) (be : Nat → Bool) (hw : mIs cd n f w) (hsu : ∀ s, s < 2 ^ n → su s = gS cd f n s) (hbe : ∀ s, s < 2 ^ n → be s = jD (zB cd f n s)) : jM (S := Unit) l γ yX11_mayCome cX11_mayCome 4 (some .int) ({ frames := 3, cells := 0, slots := 0, locals := 74 } : Room) [.ref mo] [(mo, .inr (11, [.int mth, .ref mta, .int (nI mtd), .int (nI msz), .int (nI mto), .int (nI mfr), .int (nI mso), .int (nI mnu), .int (nI mfa), .int mfw, .int (nI mpl), .int (nI mro), .long mwd, .ref mnw, .ref mrd, .ref mkp, .ref msn, .ref mbf, .ref mlv, .ref mik, .int (nI msm), .ref msu, .ref mbe, .ref mfe, .ref mmy, .ref mof, .ref msf, .ref mlr, .ref mty, .ref mfm, .ref mrn, .ref mrb, .int (nI mln), .ref mtb, .int mse])), (mnw, .inl (γ.2 0, 17, .inl (fun j => nI (w j)))), (msu, .inl (γ.2 0, 4096, .inl (fun j => nI (su j)))), (mbe, .inl (γ.2 2, 4096, .inl (fun j => jB (be j))))] (fun w0 => some (.int (nI (mmay cd f n)))) (fun w0 => [(mo, .inr (11, [.int mth, .ref mta, .int (nI mtd), .int (nI msz), .int (nI mto), .int (nI mfr), .int (nI mso), .int (nI mnu), .int (nI mfa), .int mfw, .int (nI mpl), .int (nI mro), .long mwd, .ref mnw, .ref mrd, .ref mkp, .ref msn, .ref mbf, .ref mlv, .ref mik, .int (nI msm), .ref msu, .ref mbe, .ref mfe, .ref mmy, .ref mof, .ref msf, .ref mlr, .ref mty, .ref mfm, .ref mrn, .ref mrb, .int (nI mln), .ref mtb, .int mse])), (mnw, .inl (γ.2 0, 17, .inl (fun j => nI (w j)))), (msu, .inl (γ.2 0, 4096, .inl (fun j => nI (su j)))), (mbe, .inl (γ.2 2, 4096, .inl (fun j => jB (be j))))]) (fun w0 => True) := by
  refine jM.of [some (.ref mo), none, none, none] rfl (Nat.le_of_ble_eq_true rfl) (by decide) ?_
  intro x g hE hin
  have hwg := hw.g
  have hw5 := hw.2.2.2.2.2.1
  have hwf := hw.2.2.2.2.2.2
  have hw3 := hw.2.2.1
  have hpw : 2 ^ n ≤ 2 ^ 12 := Nat.pow_le_pow_right (by omega) hwg.2.2.2.2.1
  have hpp := Nat.two_pow_pos n
  refine J.aload_n g dX11_mayCome_0 rfl rfl ?_
  refine J.get g jX11 22 (by decide) lf_X11_110 0 rfl rfl dX11_mayCome_1 ?_
  refine J.aload_n g dX11_mayCome_4 rfl rfl ?_
  refine J.callV0 g (c_X11_all l γ _ _ _ _ _ _ _ _ _ _ _ _ _ _ _ _ _ _ _ _ _ _ _ _ _ _ _ _ _ _ _ _ _ _ _ _ _ _ _ _ hw) jy_X11_all lm_X11_204 (q0 := 0) rfl jX11.1 ⟨⟨Nat.le_of_ble_eq_true rfl, Nat.le_of_ble_eq_true rfl⟩, Nat.le_of_ble_eq_true rfl, Nat.le_of_ble_eq_true rfl⟩ (Nat.le_of_ble_eq_true rfl) rfl [0, 1] rfl rfl dX11_mayCome_5 ?_
  intro _ _
  dsimp only [jpush]
  have hbv := hbe (2 ^ n - 1) (by omega)
  refine J.zaldB g 3 rfl (by omega) (by decide) dX11_mayCome_8 ?_
  refine J.if_eqB g dX11_mayCome_9 (tgt := 14) (by decide) (fun c_9 => ?_) (fun c_9 => ?_)
  · refine J.iconstN g 1 dX11_mayCome_14 ?_
    refine J.istore_n g dX11_mayCome_15 rfl rfl rfl ?_
    try dsimp only [List.set_cons_zero, List.set_cons_succ]
    refine J.iconstN g 1 dX11_mayCome_16 ?_
    refine J.istore_n g dX11_mayCome_17 rfl rfl rfl ?_
    try dsimp only [List.set_cons_zero, List.set_cons_succ]
    have lp : ∀ (d : Nat) (s : Nat), 2 ^ n - s < d → (1 ≤ s ∧ s ≤ 2 ^ n) → J γ l x [(mo, .inr (11, [.int mth, .ref mta, .int (nI mtd), .int (nI msz), .int (nI mto), .int (nI mfr), .int (nI mso), .int (nI mnu), .int (nI mfa), .int mfw, .int (nI mpl), .int (nI mro), .long mwd, .ref mnw, .ref mrd, .ref mkp, .ref msn, .ref mbf, .ref mlv, .ref mik, .int (nI msm), .ref msu, .ref mbe, .ref mfe, .ref mmy, .ref mof, .ref msf, .ref mlr, .ref mty, .ref mfm, .ref mrn, .ref mrb, .int (nI mln), .ref mtb, .int mse])), (mnw, .inl (γ.2 0, 17, .inl (fun j => nI (w j)))), (msu, .inl (γ.2 0, 4096, .inl (fun j => nI (su j)))), (mbe, .inl (γ.2 2, 4096, .inl (fun j => jB (be j))))] [some (.ref mo), some (.int (nI (mor1 (gS cd f n) (s - 1)))), some (.int (nI s)), none] [] 0 0 18 := by
      intro d
      induction d with
      | zero => intro s hm; exact absurd hm (Nat.not_lt_zero _)
      | succ d ih_lp =>
        intro s hm hs
        refine J.iload_n g dX11_mayCome_18 rfl rfl ?_
        refine J.aload_n g dX11_mayCome_19 rfl rfl ?_
        refine J.callV0 g (c_X11_all l γ _ _ _ _ _ _ _ _ _ _ _ _ _ _ _ _ _ _ _ _ _ _ _ _ _ _ _ _ _ _ _ _ _ _ _ _ _ _ _ _ hw) jy_X11_all lm_X11_204 (q0 := 0) rfl jX11.1 ⟨⟨Nat.le_of_ble_eq_true rfl, Nat.le_of_ble_eq_true rfl⟩, Nat.le_of_ble_eq_true rfl, Nat.le_of_ble_eq_true rfl⟩ (Nat.le_of_ble_eq_true rfl) rfl [0, 1] rfl rfl dX11_mayCome_20 ?_
        intro _ _
        dsimp only [jpush]
        refine J.icmp_gtN g dX11_mayCome_23 (tgt := 43) (by decide) (by omega) (by omega) (fun c_23 => ?_) (fun c_23 => ?_)
        · have hml : mor1 (gS cd f n) (s - 1) < 2 ^ 24 := mor1_lt _ (fun t ht => by have := gS_lt1 (cd := cd) (f := f) (s := t) hw.1 n hwf; omega)
          refine J.iconstN g 0 dX11_mayCome_43 ?_
          refine J.istore_n g dX11_mayCome_44 rfl rfl rfl ?_
          try dsimp only [List.set_cons_zero, List.set_cons_succ]
          refine J.iconstN g 0 dX11_mayCome_45 ?_
          refine J.istore_n g dX11_mayCome_46 rfl rfl rfl ?_
          try dsimp only [List.set_cons_zero, List.set_cons_succ]
          have lq : ∀ (d : Nat) (g2 : Nat), god cd - g2 < d → (g2 ≤ god cd) → J γ l x [(mo, .inr (11, [.int mth, .ref mta, .int (nI mtd), .int (nI msz), .int (nI mto), .int (nI mfr), .int (nI mso), .int (nI mnu), .int (nI mfa), .int mfw, .int (nI mpl), .int (nI mro), .long mwd, .ref mnw, .ref mrd, .ref mkp, .ref msn, .ref mbf, .ref mlv, .ref mik, .int (nI msm), .ref msu, .ref mbe, .ref mfe, .ref mmy, .ref mof, .ref msf, .ref mlr, .ref mty, .ref mfm, .ref mrn, .ref mrb, .int (nI mln), .ref mtb, .int mse])), (mnw, .inl (γ.2 0, 17, .inl (fun j => nI (w j)))), (msu, .inl (γ.2 0, 4096, .inl (fun j => nI (su j)))), (mbe, .inl (γ.2 2, 4096, .inl (fun j => jB (be j))))] [some (.ref mo), some (.int (nI (mor1 (gS cd f n) (s - 1)))), some (.int (nI (mwo cd (mor1 (gS cd f n) (s - 1)) g2))), some (.int (nI g2))] [] 0 0 47 := by
            intro d
            induction d with
            | zero => intro g2 hm; exact absurd hm (Nat.not_lt_zero _)
            | succ d ih_lq =>
              intro g2 hm hg2
              refine J.iload_n g dX11_mayCome_47 rfl rfl ?_
              refine J.aload_n g dX11_mayCome_48 rfl rfl ?_
              refine J.callV0 g (c_X11_order l γ _ _ _ _ _ _ _ _ _ _ _ _ _ _ _ _ _ _ _ _ _ _ _ _ _ _ _ _ _ _ _ _ _ _ _ _ _ _ _ _ hw) jy_X11_order lm_X11_186 (q0 := 0) rfl jX11.1 ⟨⟨Nat.le_of_ble_eq_true rfl, Nat.le_of_ble_eq_true rfl⟩, Nat.le_of_ble_eq_true rfl, Nat.le_of_ble_eq_true rfl⟩ (Nat.le_of_ble_eq_true rfl) rfl [0, 1] rfl rfl dX11_mayCome_49 ?_
              intro _ _
              dsimp only [jpush]
              refine J.icmp_geN g dX11_mayCome_52 (tgt := 79) (by decide) (by omega) (by omega) (fun c_52 => ?_) (fun c_52 => ?_)
              · refine J.iload_n g dX11_mayCome_79 rfl rfl ?_
                exact J.iret g hE () (by rw [mmay, if_neg (by rw [← hbv, c_9]; decide), show 2 ^ n - 1 = s - 1 by omega, show god cd = g2 by omega]) trivial rfl ⟨Nat.le_of_ble_eq_true rfl, Nat.le_of_ble_eq_true rfl⟩ dX11_mayCome_80
              · refine J.iload_n g dX11_mayCome_55 rfl rfl ?_
                refine J.aload_n g dX11_mayCome_56 rfl rfl ?_
                refine J.iload_n g dX11_mayCome_57 rfl rfl ?_
                refine J.callV0 g (c_X11_opposite l γ _ _ _ _ _ _ _ _ _ _ _ _ _ _ _ _ _ _ _ _ _ _ _ _ _ _ _ _ _ _ _ _ _ _ _ _ _ _ _ _ _ hw (by omega)) jy_X11_opposite lm_X11_231 (q0 := 0) rfl jX11.1 ⟨⟨Nat.le_of_ble_eq_true rfl, Nat.le_of_ble_eq_true rfl⟩, Nat.le_of_ble_eq_true rfl, Nat.le_of_ble_eq_true rfl⟩ (Nat.le_of_ble_eq_true rfl) rfl [0, 1] rfl rfl dX11_mayCome_58 ?_
                intro _ _
                dsimp only [jpush]
                have hgn := (gN_in hw.1 (show g2 < god cd by omega)).1
                refine J.callS0 g (c_X11_has l γ _ _ (by omega) (by omega)) jy_X11_has lm_X11_7 ⟨⟨Nat.le_of_ble_eq_true rfl, Nat.le_of_ble_eq_true rfl⟩, Nat.le_of_ble_eq_true rfl, Nat.le_of_ble_eq_true rfl⟩ (Nat.le_of_ble_eq_true rfl) rfl [] rfl rfl dX11_mayCome_61 ?_
                intro _ _
                dsimp only [jpush]
                refine J.if_neB g dX11_mayCome_64 (tgt := 73) (by decide) (fun c_64 => ?_) (fun c_64 => ?_)
                · have hq : mwo cd (mor1 (gS cd f n) (s - 1)) (g2 + 1) = mwo cd (mor1 (gS cd f n) (s - 1)) g2 := by rw [mwo, if_pos c_64]
                  refine J.iincN g 1 dX11_mayCome_73 rfl rfl ?_
                  try dsimp only [List.set_cons_zero, List.set_cons_succ]
                  refine J.goto g dX11_mayCome_76 (tgt := 47) (by decide) ?_
                  have ih2 := ih_lq (g2 + 1) (by omega) (by omega)
                  rw [hq] at ih2
                  exact J.lvle (jle_s (jle_s (jle_s (jle_s jle_0)))) ih2
                · have hq : mwo cd (mor1 (gS cd f n) (s - 1)) (g2 + 1) = mwo cd (mor1 (gS cd f n) (s - 1)) g2 ||| 1 <<< g2 := by rw [mwo, if_neg (by rw [c_64]; decide)]
                  refine J.iload_n g dX11_mayCome_67 rfl rfl ?_
                  refine J.iconstN g 1 dX11_mayCome_68 ?_
                  refine J.iload_n g dX11_mayCome_69 rfl rfl ?_
                  refine J.ishl' g dX11_mayCome_70 (j_shl1 (by omega)) ?_
                  refine J.ior' g dX11_mayCome_71 (j_or _ _) ?_
                  refine J.istore_n g dX11_mayCome_72 rfl rfl rfl ?_
                  try dsimp only [List.set_cons_zero, List.set_cons_succ]
                  refine J.iincN g 1 dX11_mayCome_73 rfl rfl ?_
                  try dsimp only [List.set_cons_zero, List.set_cons_succ]
                  refine J.goto g dX11_mayCome_76 (tgt := 47) (by decide) ?_
                  have ih2 := ih_lq (g2 + 1) (by omega) (by omega)
                  rw [hq] at ih2
                  exact J.lvle (jle_s (jle_s (jle_s (jle_s jle_0)))) ih2
          exact J.lvle (jle_s (jle_s (jle_s (jle_s jle_0)))) (lq _ 0 (Nat.lt_succ_self _) (Nat.zero_le _))
        · have hsv := hsu s (by omega)
          have hsl : gS cd f n s < 24 := by have := gS_lt1 (cd := cd) (f := f) (s := s) hw.1 n hwf; omega
          have hq : mor1 (gS cd f n) (s + 1 - 1) = mor1 (gS cd f n) (s - 1) ||| 1 <<< su s := by obtain ⟨z, rfl⟩ : ∃ z, s = z + 1 := ⟨s - 1, by omega⟩; rw [hsv]; rfl
          refine J.iload_n g dX11_mayCome_26 rfl rfl ?_
          refine J.iconstN g 1 dX11_mayCome_27 ?_
          refine J.aload_n g dX11_mayCome_28 rfl rfl ?_
          refine J.get g jX11 21 (by decide) lf_X11_107 0 rfl rfl dX11_mayCome_29 ?_
          refine J.iload_n g dX11_mayCome_32 rfl rfl ?_
          refine J.ialdN g 2 rfl (by omega) (by decide) dX11_mayCome_33 ?_
          refine J.ishl' g dX11_mayCome_34 (j_shl1 (by omega)) ?_
          refine J.ior' g dX11_mayCome_35 (j_or _ _) ?_
          refine J.istore_n g dX11_mayCome_36 rfl rfl rfl ?_
          try dsimp only [List.set_cons_zero, List.set_cons_succ]
          refine J.iincN g 1 dX11_mayCome_37 rfl rfl ?_
          try dsimp only [List.set_cons_zero, List.set_cons_succ]
          refine J.goto g dX11_mayCome_40 (tgt := 18) (by decide) ?_
          have ih2 := ih_lp (s + 1) (by omega) (by omega)
          rw [hq] at ih2
          exact J.lvle (jle_s (jle_s (jle_s (jle_n jle_0)))) ih2
    exact J.lvle (jle_s (jle_s (jle_s (jle_n jle_0)))) (lp _ 1 (Nat.lt_succ_self _) (by omega))
  · refine J.iconstN g 0 dX11_mayCome_12 ?_
    exact J.iret g hE () (by rw [mmay, if_pos (hbv.symm.trans c_9)]) trivial rfl ⟨Nat.le_of_ble_eq_true rfl, Nat.le_of_ble_eq_true rfl⟩ dX11_mayCome_13
set_option maxHeartbeats 4000000 in
set_option maxRecDepth 100000 in
theorem c_X11_free (l : Launch) (γ : jγ) (mo mta mtd msz mto mfr mso mnu mfa mpl mro mnw mrd mkp msn mbf mlv mik msm msu mbe mfe mmy mof msf mlr mty mfm mrn mrb mln mtb : Nat) (mth mfw mse : Int32) (mwd : Int64) (cd n : Nat) (f w : Nat → Nat) (su : Nat → Nat) (be : Nat → Bool) (i : Int32) (hw : mIs cd n f w) : jM (S := (Nat → Nat) × (Nat → Bool)) l γ yX11_free cX11_free 2 (some .int) ({ frames := 4, cells := 0, slots := 0, locals := 97 } : Room) [.ref mo, .int i] [(mo, .inr (11, [.int mth, .ref mta, .int (nI mtd), .int (nI msz), .int (nI mto), .int (nI mfr), .int (nI mso), .int (nI mnu), .int (nI mfa), .int mfw, .int (nI mpl), .int (nI mro), .long mwd, .ref mnw, .ref mrd, .ref mkp, .ref msn, .ref mbf, .ref mlv, .ref mik, .int (nI msm), .ref msu, .ref mbe, .ref mfe, .ref mmy, .ref mof, .ref msf, .ref mlr, .ref mty, .ref mfm, .ref mrn, .ref mrb, .int (nI mln), .ref mtb, .int mse])), (mnw, .inl (γ.2 0, 17, .inl (fun j => nI (w j)))), (msu, .inl (γ.2 0, 4096, .inl (fun j => nI (su j)))), (mbe, .inl (γ.2 2, 4096, .inl (fun j => jB (be j))))] (fun u => some (.int (jsel i [jB (!jD (zB cd f n (2 ^ n - 1))), jB (jD (aT cd f n (2 ^ n - 1))), nI (mmay cd f n)]))) (fun u => [(mo, .inr (11, [.int (nI 0), .ref mta, .int (nI mtd), .int (nI msz), .int (nI mto), .int (nI mfr), .int (nI mso), .int (nI mnu), .int (nI mfa), .int mfw, .int (nI mpl), .int (nI mro), .long mwd, .ref mnw, .ref mrd, .ref mkp, .ref msn, .ref mbf, .ref mlv, .ref mik, .int (nI msm), .ref msu, .ref mbe, .ref mfe, .ref mmy, .ref mof, .ref msf, .ref mlr, .ref mty, .ref mfm, .ref mrn, .ref mrb, .int (nI mln), .ref mtb, .int mse])), (mnw, .inl (γ.2 0, 17, .inl (fun j => nI (w j)))), (msu, .inl (γ.2 0, 4096, .inl (fun j => nI (u.1 j)))), (mbe, .inl (γ.2 2, 4096, .inl (fun j => jB (u.2 j))))]) (fun u => True) := by
  refine jM.of [some (.ref mo), some (.int i)] rfl (Nat.le_of_ble_eq_true rfl) (by decide) ?_
  intro x g hE hin
  have hwg := hw.g
  have hw5 := hw.2.2.2.2.2.1
  have hwf := hw.2.2.2.2.2.2
  have hw3 := hw.2.2.1
  have hpw : 2 ^ n ≤ 2 ^ 12 := Nat.pow_le_pow_right (by omega) hwg.2.2.2.2.1
  have hpp := Nat.two_pow_pos n
  refine J.aload_n g dX11_free_0 rfl rfl ?_
  refine J.iconstN g 0 dX11_free_1 ?_
  refine J.put g jX11 0 (by decide) lf_X11_1 0 rfl rfl (Nat.le_of_ble_eq_true rfl) rfl rfl dX11_free_2 ?_
  try dsimp only [List.set_cons_zero, List.set_cons_succ]
  refine J.aload_n g dX11_free_5 rfl rfl ?_
  refine J.callV g (c_X11_laysBears l γ _ _ _ _ _ _ _ _ _ _ _ _ _ _ _ _ _ _ _ _ _ _ _ _ _ _ _ _ _ _ _ _ _ _ _ _ _ _ _ _ _ _ hw) jy_X11_laysBears lm_X11_234 (q0 := 0) rfl jX11.1 ⟨⟨Nat.le_of_ble_eq_true rfl, Nat.le_of_ble_eq_true rfl⟩, Nat.le_of_ble_eq_true rfl, Nat.le_of_ble_eq_true rfl⟩ (Nat.le_of_ble_eq_true rfl) rfl [0, 1, 2, 3] rfl (fun _ => rfl) rfl dX11_free_6 ?_
  intro u_6 h_6
  dsimp only [jput, List.set_cons_zero, List.set_cons_succ, Option.toList, List.append, List.cons_append, List.nil_append, List.append_nil]
  refine J.iload_n g dX11_free_9 rfl rfl ?_
  refine J.ts g (N := 3) (dt := 76) [36, 54, 71] dX11_free_10 rfl (by decide) (by decide +kernel) (by decide) (fun k_10 hk_10 hx_10 => ?_) (fun c_10 => ?_)
  · subst hx_10
    rcases (show k_10 = 0 ∨ k_10 = 1 ∨ k_10 = 2 by omega) with rfl | rfl | rfl
    · show J γ l x _ _ _ _ _ 36
      refine J.aload_n g dX11_free_36 rfl rfl ?_
      refine J.get g jX11 22 (by decide) lf_X11_110 0 rfl rfl dX11_free_37 ?_
      refine J.aload_n g dX11_free_40 rfl rfl ?_
      refine J.callV0 g (c_X11_all l γ _ _ _ _ _ _ _ _ _ _ _ _ _ _ _ _ _ _ _ _ _ _ _ _ _ _ _ _ _ _ _ _ _ _ _ _ _ _ _ _ hw) jy_X11_all lm_X11_204 (q0 := 0) rfl jX11.1 ⟨⟨Nat.le_of_ble_eq_true rfl, Nat.le_of_ble_eq_true rfl⟩, Nat.le_of_ble_eq_true rfl, Nat.le_of_ble_eq_true rfl⟩ (Nat.le_of_ble_eq_true rfl) rfl [0, 1] rfl rfl dX11_free_41 ?_
      intro _ _
      dsimp only [jpush]
      have hbv := h_6.2 (2 ^ n - 1) (by omega)
      refine J.zaldB g 3 rfl (by omega) (by decide) dX11_free_44 ?_
      refine J.if_eqB g dX11_free_45 (tgt := 52) (by decide) (fun c_45 => ?_) (fun c_45 => ?_)
      · refine J.iconstN g 1 dX11_free_52 ?_
        exact J.iret g hE u_6 (by rw [jsel_t (N := 3) rfl (by decide) (by decide)]; show some (Value.int (jB _)) = _; rw [← hbv, c_45]; rfl) trivial rfl ⟨Nat.le_of_ble_eq_true rfl, Nat.le_of_ble_eq_true rfl⟩ dX11_free_53
      · refine J.iconstN g 0 dX11_free_48 ?_
        refine J.goto g dX11_free_49 (tgt := 53) (by decide) ?_
        exact J.iret g hE u_6 (by rw [jsel_t (N := 3) rfl (by decide) (by decide)]; show some (Value.int (jB _)) = _; rw [← hbv, c_45]; rfl) trivial rfl ⟨Nat.le_of_ble_eq_true rfl, Nat.le_of_ble_eq_true rfl⟩ dX11_free_53
    · show J γ l x _ _ _ _ _ 54
      refine J.aload_n g dX11_free_54 rfl rfl ?_
      refine J.aload_n g dX11_free_55 rfl rfl ?_
      refine J.callV0 g (c_X11_all l γ _ _ _ _ _ _ _ _ _ _ _ _ _ _ _ _ _ _ _ _ _ _ _ _ _ _ _ _ _ _ _ _ _ _ _ _ _ _ _ _ hw) jy_X11_all lm_X11_204 (q0 := 0) rfl jX11.1 ⟨⟨Nat.le_of_ble_eq_true rfl, Nat.le_of_ble_eq_true rfl⟩, Nat.le_of_ble_eq_true rfl, Nat.le_of_ble_eq_true rfl⟩ (Nat.le_of_ble_eq_true rfl) rfl [0, 1] rfl rfl dX11_free_56 ?_
      intro _ _
      dsimp only [jpush]
      refine J.callV0 g (c_X11_isAtom l γ _ _ _ _ _ _ _ _ _ _ _ _ _ _ _ _ _ _ _ _ _ _ _ _ _ _ _ _ _ _ _ _ _ _ _ _ _ _ _ _ _ _ _ hw h_6.1 h_6.2 (by omega)) jy_X11_isAtom lm_X11_237 (q0 := 0) rfl jX11.1 ⟨⟨Nat.le_of_ble_eq_true rfl, Nat.le_of_ble_eq_true rfl⟩, Nat.le_of_ble_eq_true rfl, Nat.le_of_ble_eq_true rfl⟩ (Nat.le_of_ble_eq_true rfl) rfl [0, 1, 2, 3] rfl rfl dX11_free_59 ?_
      intro _ _
      dsimp only [jpush]
      refine J.if_eqB g dX11_free_62 (tgt := 69) (by decide) (fun c_62 => ?_) (fun c_62 => ?_)
      · refine J.iconstN g 0 dX11_free_69 ?_
        exact J.iret g hE u_6 (by rw [jsel_t (N := 3) rfl (by decide) (by decide)]; show some (Value.int (jB _)) = _; rw [c_62]; rfl) trivial rfl ⟨Nat.le_of_ble_eq_true rfl, Nat.le_of_ble_eq_true rfl⟩ dX11_free_70
      · refine J.iconstN g 1 dX11_free_65 ?_
        refine J.goto g dX11_free_66 (tgt := 70) (by decide) ?_
        exact J.iret g hE u_6 (by rw [jsel_t (N := 3) rfl (by decide) (by decide)]; show some (Value.int (jB _)) = _; rw [c_62]; rfl) trivial rfl ⟨Nat.le_of_ble_eq_true rfl, Nat.le_of_ble_eq_true rfl⟩ dX11_free_70
    · show J γ l x _ _ _ _ _ 71
      refine J.aload_n g dX11_free_71 rfl rfl ?_
      refine J.callV0 g (c_X11_mayCome l γ _ _ _ _ _ _ _ _ _ _ _ _ _ _ _ _ _ _ _ _ _ _ _ _ _ _ _ _ _ _ _ _ _ _ _ _ _ _ _ _ _ _ hw h_6.1 h_6.2) jy_X11_mayCome lm_X11_240 (q0 := 0) rfl jX11.1 ⟨⟨Nat.le_of_ble_eq_true rfl, Nat.le_of_ble_eq_true rfl⟩, Nat.le_of_ble_eq_true rfl, Nat.le_of_ble_eq_true rfl⟩ (Nat.le_of_ble_eq_true rfl) rfl [0, 1, 2, 3] rfl rfl dX11_free_72 ?_
      intro _ _
      dsimp only [jpush]
      exact J.iret g hE u_6 (by rw [jsel_t (N := 3) rfl (by decide) (by decide)]; rfl) trivial rfl ⟨Nat.le_of_ble_eq_true rfl, Nat.le_of_ble_eq_true rfl⟩ dX11_free_75
  · show J γ l x _ _ _ _ _ 76
    refine J.iconst (v := -1) g dX11_free_76 (by decide) ?_
    exact J.iret g hE u_6 (by rw [jsel_f c_10]) trivial rfl ⟨Nat.le_of_ble_eq_true rfl, Nat.le_of_ble_eq_true rfl⟩ dX11_free_77
set_option maxHeartbeats 4000000 in
set_option maxRecDepth 100000 in
theorem c_X11_laysAtoms (l : Launch) (γ : jγ) (mo mta mtd msz mto mfr mso mnu mfa mpl mro mnw mrd mkp msn mbf mlv mik msm msu mbe mfe mmy mof msf mlr mty mfm mrn mrb mln mtb : Nat) (mth mfw mse : Int32) (mwd : Int64) (cd n : Nat) (f w : Nat → Nat) (su : Nat → Nat) (be : Nat → Bool) (fe my : Nat → Int32) (hw : mIs cd n f w) : jM (S := (Nat → Nat) × (Nat → Bool) × (Nat → Int32) × (Nat → Int32)) l γ yX11_laysAtoms cX11_laysAtoms 6 none ({ frames := 4, cells := 0, slots := 0, locals := 95 } : Room) [.ref mo] [(mo, .inr (11, [.int mth, .ref mta, .int (nI mtd), .int (nI msz), .int (nI mto), .int (nI mfr), .int (nI mso), .int (nI mnu), .int (nI mfa), .int mfw, .int (nI mpl), .int (nI mro), .long mwd, .ref mnw, .ref mrd, .ref mkp, .ref msn, .ref mbf, .ref mlv, .ref mik, .int (nI msm), .ref msu, .ref mbe, .ref mfe, .ref mmy, .ref mof, .ref msf, .ref mlr, .ref mty, .ref mfm, .ref mrn, .ref mrb, .int (nI mln), .ref mtb, .int mse])), (mnw, .inl (γ.2 0, 17, .inl (fun j => nI (w j)))), (msu, .inl (γ.2 0, 4096, .inl (fun j => nI (su j)))), (mbe, .inl (γ.2 2, 4096, .inl (fun j => jB (be j)))), (mfe, .inl (γ.2 0, 4096, .inl fe)), (mmy, .inl (γ.2 0, 4096, .inl my))] (fun u => none) (fun u => [(mo, .inr (11, [.int mth, .ref mta, .int (nI mtd), .int (nI msz), .int (nI mto), .int (nI mfr), .int (nI mso), .int (nI mnu), .int (nI mfa), .int mfw, .int (nI mpl), .int (nI mro), .long mwd, .ref mnw, .ref mrd, .ref mkp, .ref msn, .ref mbf, .ref mlv, .ref mik, .int (nI msm), .ref msu, .ref mbe, .ref mfe, .ref mmy, .ref mof, .ref msf, .ref mlr, .ref mty, .ref mfm, .ref mrn, .ref mrb, .int (nI mln), .ref mtb, .int mse])), (mnw, .inl (γ.2 0, 17, .inl (fun j => nI (w j)))), (msu, .inl (γ.2 0, 4096, .inl (fun j => nI (u.1 j)))), (mbe, .inl (γ.2 2, 4096, .inl (fun j => jB (u.2.1 j)))), (mfe, .inl (γ.2 0, 4096, .inl u.2.2.1)), (mmy, .inl (γ.2 0, 4096, .inl u.2.2.2))]) (fun u => ((∀ s, s < 2 ^ n → u.1 s = gS cd f n s) ∧ ∀ s, s < 2 ^ n → u.2.1 s = jD (zB cd f n s)) ∧ ∀ s, s < 2 ^ n → u.2.2.1 s = mNo cd f n s (mMn cd f n s) ∧ u.2.2.2 s = mNo cd f n s (mMx cd f n s)) := by
  refine jM.of [some (.ref mo), none, none, none, none, none] rfl (Nat.le_of_ble_eq_true rfl) (by decide) ?_
  intro x g hE hin
  have hwg := hw.g
  have hw5 := hw.2.2.2.2.2.1
  have hwf := hw.2.2.2.2.2.2
  have hw3 := hw.2.2.1
  have hpw : 2 ^ n ≤ 2 ^ 12 := Nat.pow_le_pow_right (by omega) hwg.2.2.2.2.1
  have hpp := Nat.two_pow_pos n
  refine J.aload_n g dX11_laysAtoms_0 rfl rfl ?_
  refine J.callV g (c_X11_laysBears l γ _ _ _ _ _ _ _ _ _ _ _ _ _ _ _ _ _ _ _ _ _ _ _ _ _ _ _ _ _ _ _ _ _ _ _ _ _ _ _ _ _ _ hw) jy_X11_laysBears lm_X11_234 (q0 := 0) rfl jX11.1 ⟨⟨Nat.le_of_ble_eq_true rfl, Nat.le_of_ble_eq_true rfl⟩, Nat.le_of_ble_eq_true rfl, Nat.le_of_ble_eq_true rfl⟩ (Nat.le_of_ble_eq_true rfl) rfl [0, 1, 2, 3] rfl (fun _ => rfl) rfl dX11_laysAtoms_1 ?_
  intro u_1 h_1
  dsimp only [jput, List.set_cons_zero, List.set_cons_succ, Option.toList, List.append, List.cons_append, List.nil_append, List.append_nil]
  refine J.aload_n g dX11_laysAtoms_4 rfl rfl ?_
  refine J.get g jX11 23 (by decide) lf_X11_113 0 rfl rfl dX11_laysAtoms_5 ?_
  refine J.iconstN g 0 dX11_laysAtoms_8 ?_
  refine J.iconstN g 0 dX11_laysAtoms_9 ?_
  refine J.iastK g 4 rfl (by omega) (by decide) dX11_laysAtoms_10 ?_
  try dsimp only [List.set_cons_zero, List.set_cons_succ]
  refine J.aload_n g dX11_laysAtoms_11 rfl rfl ?_
  refine J.get g jX11 24 (by decide) lf_X11_116 0 rfl rfl dX11_laysAtoms_12 ?_
  refine J.iconstN g 0 dX11_laysAtoms_15 ?_
  refine J.iconstN g 0 dX11_laysAtoms_16 ?_
  refine J.iastK g 5 rfl (by omega) (by decide) dX11_laysAtoms_17 ?_
  try dsimp only [List.set_cons_zero, List.set_cons_succ]
  refine J.iconstN g 1 dX11_laysAtoms_18 ?_
  refine J.istore_n g dX11_laysAtoms_19 rfl rfl rfl ?_
  try dsimp only [List.set_cons_zero, List.set_cons_succ]
  have lp : ∀ (d : Nat) (s : Nat) (F G : Nat → Int32), 2 ^ n - s < d → (1 ≤ s ∧ s ≤ 2 ^ n) → (∀ t, t < s → F t = mNo cd f n t (mMn cd f n t) ∧ G t = mNo cd f n t (mMx cd f n t)) → J γ l x [(mo, .inr (11, [.int mth, .ref mta, .int (nI mtd), .int (nI msz), .int (nI mto), .int (nI mfr), .int (nI mso), .int (nI mnu), .int (nI mfa), .int mfw, .int (nI mpl), .int (nI mro), .long mwd, .ref mnw, .ref mrd, .ref mkp, .ref msn, .ref mbf, .ref mlv, .ref mik, .int (nI msm), .ref msu, .ref mbe, .ref mfe, .ref mmy, .ref mof, .ref msf, .ref mlr, .ref mty, .ref mfm, .ref mrn, .ref mrb, .int (nI mln), .ref mtb, .int mse])), (mnw, .inl (γ.2 0, 17, .inl (fun j => nI (w j)))), (msu, .inl (γ.2 0, 4096, .inl (fun j => nI (u_1.1 j)))), (mbe, .inl (γ.2 2, 4096, .inl (fun j => jB (u_1.2 j)))), (mfe, .inl (γ.2 0, 4096, .inl F)), (mmy, .inl (γ.2 0, 4096, .inl G))] [some (.ref mo), some (.int (nI s)), none, none, none, none] [] 0 0 20 := by
    intro d
    induction d with
    | zero => intro s F G hm; exact absurd hm (Nat.not_lt_zero _)
    | succ d ih_lp =>
      intro s F G hm hs hh
      refine J.iload_n g dX11_laysAtoms_20 rfl rfl ?_
      refine J.aload_n g dX11_laysAtoms_21 rfl rfl ?_
      refine J.callV0 g (c_X11_all l γ _ _ _ _ _ _ _ _ _ _ _ _ _ _ _ _ _ _ _ _ _ _ _ _ _ _ _ _ _ _ _ _ _ _ _ _ _ _ _ _ hw) jy_X11_all lm_X11_204 (q0 := 0) rfl jX11.1 ⟨⟨Nat.le_of_ble_eq_true rfl, Nat.le_of_ble_eq_true rfl⟩, Nat.le_of_ble_eq_true rfl, Nat.le_of_ble_eq_true rfl⟩ (Nat.le_of_ble_eq_true rfl) rfl [0, 1] rfl rfl dX11_laysAtoms_22 ?_
      intro _ _
      dsimp only [jpush]
      refine J.icmp_gtN g dX11_laysAtoms_25 (tgt := 199) (by decide) (by omega) (by omega) (fun c_25 => ?_) (fun c_25 => ?_)
      · exact J.vret g hE (u_1.1, u_1.2, F, G) rfl ⟨h_1, fun t ht => hh t (by omega)⟩ rfl ⟨Nat.le_of_ble_eq_true rfl, Nat.le_of_ble_eq_true rfl⟩ dX11_laysAtoms_199
      · have hsv := h_1.1 s (by omega)
        have hsl : gS cd f n s < 24 := by have := gS_lt1 (cd := cd) (f := f) (s := s) hw.1 n hwf; omega
        refine J.aload_n g dX11_laysAtoms_28 rfl rfl ?_
        refine J.get g jX11 23 (by decide) lf_X11_113 0 rfl rfl dX11_laysAtoms_29 ?_
        refine J.iload_n g dX11_laysAtoms_32 rfl rfl ?_
        refine J.iconst (v := -1) g dX11_laysAtoms_33 (by decide) ?_
        refine J.iastK g 4 rfl (by omega) (by decide) dX11_laysAtoms_34 ?_
        try dsimp only [List.set_cons_zero, List.set_cons_succ]
        refine J.aload_n g dX11_laysAtoms_35 rfl rfl ?_
        refine J.get g jX11 24 (by decide) lf_X11_116 0 rfl rfl dX11_laysAtoms_36 ?_
        refine J.iload_n g dX11_laysAtoms_39 rfl rfl ?_
        refine J.iconst (v := -1) g dX11_laysAtoms_40 (by decide) ?_
        refine J.iastK g 5 rfl (by omega) (by decide) dX11_laysAtoms_41 ?_
        try dsimp only [List.set_cons_zero, List.set_cons_succ]
        refine J.aload_n g dX11_laysAtoms_42 rfl rfl ?_
        refine J.get g jX11 21 (by decide) lf_X11_107 0 rfl rfl dX11_laysAtoms_43 ?_
        refine J.iload_n g dX11_laysAtoms_46 rfl rfl ?_
        refine J.ialdN g 2 rfl (by omega) (by decide) dX11_laysAtoms_47 ?_
        refine J.if_eqN g dX11_laysAtoms_48 (tgt := 54) (by decide) (by omega) (fun c_48 => ?_) (fun c_48 => ?_)
        · have hlw := mlw_ok (s := s) (by omega) (by omega)
          have hpk := pow12 hlw.1 (Nat.le_refl 12)
          have hrs : (s ^^^ 2 ^ mlw s 12 0) < s := jxor_lt hlw.2.1
          refine J.iload_n g dX11_laysAtoms_54 rfl rfl ?_
          refine J.iload_n g dX11_laysAtoms_55 rfl rfl ?_
          refine J.ineg g dX11_laysAtoms_56 ?_
          refine J.iand' g dX11_laysAtoms_57 (j_low (by omega)) ?_
          rw [jlow_pow (by omega) (by omega)]
          refine J.istore_n g dX11_laysAtoms_58 rfl rfl rfl ?_
          try dsimp only [List.set_cons_zero, List.set_cons_succ]
          refine J.iload_n g dX11_laysAtoms_59 rfl rfl ?_
          refine J.iload_n g dX11_laysAtoms_60 rfl rfl ?_
          refine J.iconst (v := -1) g dX11_laysAtoms_61 (by decide) ?_
          refine J.ixor g dX11_laysAtoms_62 ?_
          refine J.iand' g dX11_laysAtoms_63 (j_andn _ _) ?_
          rw [and_pow hlw.2.1]
          refine J.istore_n g dX11_laysAtoms_64 rfl rfl rfl ?_
          try dsimp only [List.set_cons_zero, List.set_cons_succ]
          refine J.iload_n g dX11_laysAtoms_65 rfl rfl ?_
          refine J.istore g dX11_laysAtoms_66 rfl rfl ?_
          try dsimp only [List.set_cons_zero, List.set_cons_succ]
          have lq : ∀ (d : Nat) (p : Nat) (F2 G2 : Nat → Int32), p < d → (p &&& (s ^^^ 2 ^ mlw s 12 0) = p) → (∀ t, t < s → F2 t = mNo cd f n t (mMn cd f n t) ∧ G2 t = mNo cd f n t (mMx cd f n t)) → (mRg (pC cd f n s p) (F2 s) (G2 s)) → J γ l x [(mo, .inr (11, [.int mth, .ref mta, .int (nI mtd), .int (nI msz), .int (nI mto), .int (nI mfr), .int (nI mso), .int (nI mnu), .int (nI mfa), .int mfw, .int (nI mpl), .int (nI mro), .long mwd, .ref mnw, .ref mrd, .ref mkp, .ref msn, .ref mbf, .ref mlv, .ref mik, .int (nI msm), .ref msu, .ref mbe, .ref mfe, .ref mmy, .ref mof, .ref msf, .ref mlr, .ref mty, .ref mfm, .ref mrn, .ref mrb, .int (nI mln), .ref mtb, .int mse])), (mnw, .inl (γ.2 0, 17, .inl (fun j => nI (w j)))), (msu, .inl (γ.2 0, 4096, .inl (fun j => nI (u_1.1 j)))), (mbe, .inl (γ.2 2, 4096, .inl (fun j => jB (u_1.2 j)))), (mfe, .inl (γ.2 0, 4096, .inl F2)), (mmy, .inl (γ.2 0, 4096, .inl G2))] [some (.ref mo), some (.int (nI s)), some (.int (nI (2 ^ mlw s 12 0))), some (.int (nI (s ^^^ 2 ^ mlw s 12 0))), some (.int (nI p)), none] [] 0 0 68 := by
            intro d
            induction d with
            | zero => intro p F2 G2 hm; exact absurd hm (Nat.not_lt_zero _)
            | succ d ih_lq =>
              intro p F2 G2 hm hp h2 h3
              refine J.iload_n g dX11_laysAtoms_68 rfl rfl ?_
              refine J.iload g dX11_laysAtoms_69 rfl ?_
              refine J.iconst (v := -1) g dX11_laysAtoms_71 (by decide) ?_
              refine J.ixor g dX11_laysAtoms_72 ?_
              refine J.iand' g dX11_laysAtoms_73 (j_andn _ _) ?_
              rw [Nat.and_comm (s ^^^ 2 ^ mlw s 12 0) p, hp]
              obtain ⟨lf, hlf⟩ : ∃ z, z = (s ^^^ 2 ^ mlw s 12 0) ^^^ p := ⟨_, rfl⟩
              rw [← hlf]
              have hpl := sub_le hp
              have hlf2 : lf < s := by rw [hlf]; exact Nat.lt_of_le_of_lt (sub_le (xs_sub hp)) hrs
              have hpo := por_le hlw.2.1 hp
              refine J.istore g dX11_laysAtoms_74 rfl rfl ?_
              try dsimp only [List.set_cons_zero, List.set_cons_succ]
              refine J.aload_n g dX11_laysAtoms_76 rfl rfl ?_
              refine J.iload g dX11_laysAtoms_77 rfl ?_
              refine J.iload_n g dX11_laysAtoms_79 rfl rfl ?_
              refine J.ior' g dX11_laysAtoms_80 (j_or _ _) ?_
              refine J.callV0 g (c_X11_isAtom l γ _ _ _ _ _ _ _ _ _ _ _ _ _ _ _ _ _ _ _ _ _ _ _ _ _ _ _ _ _ _ _ _ _ _ _ _ _ _ _ _ _ _ _ hw h_1.1 h_1.2 (by omega)) jy_X11_isAtom lm_X11_237 (q0 := 0) rfl jX11.1 ⟨⟨Nat.le_of_ble_eq_true rfl, Nat.le_of_ble_eq_true rfl⟩, Nat.le_of_ble_eq_true rfl, Nat.le_of_ble_eq_true rfl⟩ (Nat.le_of_ble_eq_true rfl) rfl [0, 1, 2, 3] rfl rfl dX11_laysAtoms_81 ?_
              intro _ _
              dsimp only [jpush]
              refine J.if_eqB g dX11_laysAtoms_84 (tgt := 174) (by decide) (fun c_84 => ?_) (fun c_84 => ?_)
              · obtain ⟨F3, hF3⟩ : ∃ z, z = F2 := ⟨_, rfl⟩
                obtain ⟨G3, hG3⟩ : ∃ z, z = G2 := ⟨_, rfl⟩
                have hn2 : ∀ t, t < s → F3 t = mNo cd f n t (mMn cd f n t) ∧ G3 t = mNo cd f n t (mMx cd f n t) := by rw [hF3, hG3]; exact h2
                have hn3 : mRg (pD cd f n s p) (F3 s) (G3 s) := by rw [hF3, hG3]; exact pD_n (jD_not.mp c_84) h3
                rw [← hF3, ← hG3]
                refine J.iload g dX11_laysAtoms_174 rfl ?_
                refine J.if_neN g dX11_laysAtoms_176 (tgt := 182) (by decide) (by omega) (fun c_176 => ?_) (fun c_176 => ?_)
                · have hn4 : mRg (pC cd f n s ((p - 1) &&& (s ^^^ 2 ^ mlw s 12 0))) (F3 s) (G3 s) := pD_c c_176 hp hn3
                  have hpv := prev_lt (m := (s ^^^ 2 ^ mlw s 12 0)) c_176
                  refine J.iload g dX11_laysAtoms_182 rfl ?_
                  refine J.iconstN g 1 dX11_laysAtoms_184 ?_
                  refine J.isubN g dX11_laysAtoms_185 (by omega) ?_
                  refine J.iload_n g dX11_laysAtoms_186 rfl rfl ?_
                  refine J.iand' g dX11_laysAtoms_187 (j_and _ _) ?_
                  refine J.istore g dX11_laysAtoms_188 rfl rfl ?_
                  try dsimp only [List.set_cons_zero, List.set_cons_succ]
                  refine J.goto g dX11_laysAtoms_190 (tgt := 68) (by decide) ?_
                  exact J.lvle (jle_s (jle_s (jle_s (jle_s (jle_s (jle_n jle_0)))))) (ih_lq ((p - 1) &&& (s ^^^ 2 ^ mlw s 12 0)) F3 G3 (by omega) (prev_sub) hn2 hn4)
                · have hnn : ∀ t, t < s + 1 → F3 t = mNo cd f n t (mMn cd f n t) ∧ G3 t = mNo cd f n t (mMx cd f n t) := lt_s hn2 (pD_e hw.1 hwg.2.2.2.2.1 hwf (by omega) (by omega) (hsv.symm.trans c_48) c_176 hn3)
                  refine J.goto g dX11_laysAtoms_179 (tgt := 193) (by decide) ?_
                  refine J.iincN g 1 dX11_laysAtoms_193 rfl rfl ?_
                  try dsimp only [List.set_cons_zero, List.set_cons_succ]
                  refine J.goto g dX11_laysAtoms_196 (tgt := 20) (by decide) ?_
                  exact J.lvle (jle_s (jle_s (jle_n (jle_n (jle_n (jle_n jle_0)))))) (ih_lp (s + 1) _ _ (by omega) (by omega) hnn)
              · have hst := pT_st hw.1 hwg.2.2.2.2.1 hwf (s := s) (by omega) (by omega) (hsv.symm.trans c_48) hp (jD_is.mp c_84)
                rw [← hlf] at hst
                have hFG := h2 lf hlf2
                have hFl : F2 lf = nI (mMn cd f n lf) := by rw [hFG.1, mNo, if_pos hst.1]
                have hGl : G2 lf = nI (mMx cd f n lf) := by rw [hFG.2, mNo, if_pos hst.1]
                have hmn := mMn_ok hw.1 hwg.2.2.2.2.1 hwf (s := lf) (by omega) hst.1
                have hmx := mMx_ok hw.1 hwg.2.2.2.2.1 hwf (s := lf) (by omega) hst.1
                refine J.aload_n g dX11_laysAtoms_87 rfl rfl ?_
                refine J.get g jX11 24 (by decide) lf_X11_116 0 rfl rfl dX11_laysAtoms_88 ?_
                refine J.iload g dX11_laysAtoms_91 rfl ?_
                refine J.ialdK g 5 rfl (by omega) (by decide) dX11_laysAtoms_93 ?_
                refine J.iconst (v := -1) g dX11_laysAtoms_94 (by decide) ?_
                refine J.icmp_eq g dX11_laysAtoms_95 (tgt := 174) (by decide) (fun c_95 => absurd c_95 (by rw [hGl]; exact nI_ne_neg (by omega))) (fun c_95 => ?_)
                refine J.aload_n g dX11_laysAtoms_98 rfl rfl ?_
                refine J.get g jX11 23 (by decide) lf_X11_113 0 rfl rfl dX11_laysAtoms_99 ?_
                refine J.iload_n g dX11_laysAtoms_102 rfl rfl ?_
                refine J.ialdK g 4 rfl (by omega) (by decide) dX11_laysAtoms_103 ?_
                refine J.iconst (v := -1) g dX11_laysAtoms_104 (by decide) ?_
                refine J.icmp_eq g dX11_laysAtoms_105 (tgt := 126) (by decide) (fun c_105 => ?_) (fun c_105 => ?_)
                · refine J.aload_n g dX11_laysAtoms_126 rfl rfl ?_
                  refine J.get g jX11 23 (by decide) lf_X11_113 0 rfl rfl dX11_laysAtoms_127 ?_
                  refine J.iload_n g dX11_laysAtoms_130 rfl rfl ?_
                  refine J.aload_n g dX11_laysAtoms_131 rfl rfl ?_
                  refine J.get g jX11 23 (by decide) lf_X11_113 0 rfl rfl dX11_laysAtoms_132 ?_
                  refine J.iload g dX11_laysAtoms_135 rfl ?_
                  refine J.ialdK g 4 rfl (by omega) (by decide) dX11_laysAtoms_137 ?_
                  refine J.iconstN g 1 dX11_laysAtoms_138 ?_
                  refine J.iadd g dX11_laysAtoms_139 ?_
                  refine J.iastK g 4 rfl (by omega) (by decide) dX11_laysAtoms_140 ?_
                  try dsimp only [List.set_cons_zero, List.set_cons_succ]
                  refine J.aload_n g dX11_laysAtoms_141 rfl rfl ?_
                  refine J.get g jX11 24 (by decide) lf_X11_116 0 rfl rfl dX11_laysAtoms_142 ?_
                  refine J.iload g dX11_laysAtoms_145 rfl ?_
                  refine J.ialdK g 5 rfl (by omega) (by decide) dX11_laysAtoms_147 ?_
                  refine J.iconstN g 1 dX11_laysAtoms_148 ?_
                  refine J.iadd g dX11_laysAtoms_149 ?_
                  refine J.aload_n g dX11_laysAtoms_150 rfl rfl ?_
                  refine J.get g jX11 24 (by decide) lf_X11_116 0 rfl rfl dX11_laysAtoms_151 ?_
                  refine J.iload_n g dX11_laysAtoms_154 rfl rfl ?_
                  refine J.ialdK g 5 rfl (by omega) (by decide) dX11_laysAtoms_155 ?_
                  refine J.icmp_le g dX11_laysAtoms_156 (tgt := 174) (by decide) (fun c_156 => ?_) (fun c_156 => ?_)
                  · obtain ⟨F3, hF3⟩ : ∃ z, z = va_up F2 s (F2 lf + nI 1) := ⟨_, rfl⟩
                    obtain ⟨G3, hG3⟩ : ∃ z, z = G2 := ⟨_, rfl⟩
                    have hn2 : ∀ t, t < s → F3 t = mNo cd f n t (mMn cd f n t) ∧ G3 t = mNo cd f n t (mMx cd f n t) := fun t ht => by rw [hF3, hG3]; rw [uq_ne (by omega)]; exact h2 t ht
                    have hn3 : mRg (pD cd f n s p) (F3 s) (G3 s) := by rw [hF3, hG3]; exact pD_t hst.2 (mRg_s h3 ⟨hmn.1, hmn.2.1⟩ ⟨hmx.1, hmx.2.1⟩ hmx.2.2 (Or.inl ⟨uq_at.trans (by rw [hFl, nI_add]), Or.inl c_105⟩) (Or.inr ⟨rfl, by rw [hGl, nI_add] at c_156; exact c_156⟩))
                    rw [← hF3, ← hG3]
                    refine J.iload g dX11_laysAtoms_174 rfl ?_
                    refine J.if_neN g dX11_laysAtoms_176 (tgt := 182) (by decide) (by omega) (fun c_176 => ?_) (fun c_176 => ?_)
                    · have hn4 : mRg (pC cd f n s ((p - 1) &&& (s ^^^ 2 ^ mlw s 12 0))) (F3 s) (G3 s) := pD_c c_176 hp hn3
                      have hpv := prev_lt (m := (s ^^^ 2 ^ mlw s 12 0)) c_176
                      refine J.iload g dX11_laysAtoms_182 rfl ?_
                      refine J.iconstN g 1 dX11_laysAtoms_184 ?_
                      refine J.isubN g dX11_laysAtoms_185 (by omega) ?_
                      refine J.iload_n g dX11_laysAtoms_186 rfl rfl ?_
                      refine J.iand' g dX11_laysAtoms_187 (j_and _ _) ?_
                      refine J.istore g dX11_laysAtoms_188 rfl rfl ?_
                      try dsimp only [List.set_cons_zero, List.set_cons_succ]
                      refine J.goto g dX11_laysAtoms_190 (tgt := 68) (by decide) ?_
                      exact J.lvle (jle_s (jle_s (jle_s (jle_s (jle_s (jle_n jle_0)))))) (ih_lq ((p - 1) &&& (s ^^^ 2 ^ mlw s 12 0)) F3 G3 (by omega) (prev_sub) hn2 hn4)
                    · have hnn : ∀ t, t < s + 1 → F3 t = mNo cd f n t (mMn cd f n t) ∧ G3 t = mNo cd f n t (mMx cd f n t) := lt_s hn2 (pD_e hw.1 hwg.2.2.2.2.1 hwf (by omega) (by omega) (hsv.symm.trans c_48) c_176 hn3)
                      refine J.goto g dX11_laysAtoms_179 (tgt := 193) (by decide) ?_
                      refine J.iincN g 1 dX11_laysAtoms_193 rfl rfl ?_
                      try dsimp only [List.set_cons_zero, List.set_cons_succ]
                      refine J.goto g dX11_laysAtoms_196 (tgt := 20) (by decide) ?_
                      exact J.lvle (jle_s (jle_s (jle_n (jle_n (jle_n (jle_n jle_0)))))) (ih_lp (s + 1) _ _ (by omega) (by omega) hnn)
                  · refine J.aload_n g dX11_laysAtoms_159 rfl rfl ?_
                    refine J.get g jX11 24 (by decide) lf_X11_116 0 rfl rfl dX11_laysAtoms_160 ?_
                    refine J.iload_n g dX11_laysAtoms_163 rfl rfl ?_
                    refine J.aload_n g dX11_laysAtoms_164 rfl rfl ?_
                    refine J.get g jX11 24 (by decide) lf_X11_116 0 rfl rfl dX11_laysAtoms_165 ?_
                    refine J.iload g dX11_laysAtoms_168 rfl ?_
                    refine J.ialdK g 5 rfl (by omega) (by decide) dX11_laysAtoms_170 ?_
                    refine J.iconstN g 1 dX11_laysAtoms_171 ?_
                    refine J.iadd g dX11_laysAtoms_172 ?_
                    refine J.iastK g 5 rfl (by omega) (by decide) dX11_laysAtoms_173 ?_
                    try dsimp only [List.set_cons_zero, List.set_cons_succ]
                    obtain ⟨F3, hF3⟩ : ∃ z, z = va_up F2 s (F2 lf + nI 1) := ⟨_, rfl⟩
                    obtain ⟨G3, hG3⟩ : ∃ z, z = va_up G2 s (G2 lf + nI 1) := ⟨_, rfl⟩
                    have hn2 : ∀ t, t < s → F3 t = mNo cd f n t (mMn cd f n t) ∧ G3 t = mNo cd f n t (mMx cd f n t) := fun t ht => by rw [hF3, hG3]; rw [uq_ne (by omega)]; rw [uq_ne (by omega)]; exact h2 t ht
                    have hn3 : mRg (pD cd f n s p) (F3 s) (G3 s) := by rw [hF3, hG3]; exact pD_t hst.2 (mRg_s h3 ⟨hmn.1, hmn.2.1⟩ ⟨hmx.1, hmx.2.1⟩ hmx.2.2 (Or.inl ⟨uq_at.trans (by rw [hFl, nI_add]), Or.inl c_105⟩) (Or.inl ⟨uq_at.trans (by rw [hGl, nI_add]), by rw [hGl, nI_add] at c_156; exact c_156⟩))
                    rw [← hF3, ← hG3]
                    refine J.iload g dX11_laysAtoms_174 rfl ?_
                    refine J.if_neN g dX11_laysAtoms_176 (tgt := 182) (by decide) (by omega) (fun c_176 => ?_) (fun c_176 => ?_)
                    · have hn4 : mRg (pC cd f n s ((p - 1) &&& (s ^^^ 2 ^ mlw s 12 0))) (F3 s) (G3 s) := pD_c c_176 hp hn3
                      have hpv := prev_lt (m := (s ^^^ 2 ^ mlw s 12 0)) c_176
                      refine J.iload g dX11_laysAtoms_182 rfl ?_
                      refine J.iconstN g 1 dX11_laysAtoms_184 ?_
                      refine J.isubN g dX11_laysAtoms_185 (by omega) ?_
                      refine J.iload_n g dX11_laysAtoms_186 rfl rfl ?_
                      refine J.iand' g dX11_laysAtoms_187 (j_and _ _) ?_
                      refine J.istore g dX11_laysAtoms_188 rfl rfl ?_
                      try dsimp only [List.set_cons_zero, List.set_cons_succ]
                      refine J.goto g dX11_laysAtoms_190 (tgt := 68) (by decide) ?_
                      exact J.lvle (jle_s (jle_s (jle_s (jle_s (jle_s (jle_n jle_0)))))) (ih_lq ((p - 1) &&& (s ^^^ 2 ^ mlw s 12 0)) F3 G3 (by omega) (prev_sub) hn2 hn4)
                    · have hnn : ∀ t, t < s + 1 → F3 t = mNo cd f n t (mMn cd f n t) ∧ G3 t = mNo cd f n t (mMx cd f n t) := lt_s hn2 (pD_e hw.1 hwg.2.2.2.2.1 hwf (by omega) (by omega) (hsv.symm.trans c_48) c_176 hn3)
                      refine J.goto g dX11_laysAtoms_179 (tgt := 193) (by decide) ?_
                      refine J.iincN g 1 dX11_laysAtoms_193 rfl rfl ?_
                      try dsimp only [List.set_cons_zero, List.set_cons_succ]
                      refine J.goto g dX11_laysAtoms_196 (tgt := 20) (by decide) ?_
                      exact J.lvle (jle_s (jle_s (jle_n (jle_n (jle_n (jle_n jle_0)))))) (ih_lp (s + 1) _ _ (by omega) (by omega) hnn)
                · refine J.aload_n g dX11_laysAtoms_108 rfl rfl ?_
                  refine J.get g jX11 23 (by decide) lf_X11_113 0 rfl rfl dX11_laysAtoms_109 ?_
                  refine J.iload g dX11_laysAtoms_112 rfl ?_
                  refine J.ialdK g 4 rfl (by omega) (by decide) dX11_laysAtoms_114 ?_
                  refine J.iconstN g 1 dX11_laysAtoms_115 ?_
                  refine J.iadd g dX11_laysAtoms_116 ?_
                  refine J.aload_n g dX11_laysAtoms_117 rfl rfl ?_
                  refine J.get g jX11 23 (by decide) lf_X11_113 0 rfl rfl dX11_laysAtoms_118 ?_
                  refine J.iload_n g dX11_laysAtoms_121 rfl rfl ?_
                  refine J.ialdK g 4 rfl (by omega) (by decide) dX11_laysAtoms_122 ?_
                  refine J.icmp_ge g dX11_laysAtoms_123 (tgt := 141) (by decide) (fun c_123 => ?_) (fun c_123 => ?_)
                  · refine J.aload_n g dX11_laysAtoms_141 rfl rfl ?_
                    refine J.get g jX11 24 (by decide) lf_X11_116 0 rfl rfl dX11_laysAtoms_142 ?_
                    refine J.iload g dX11_laysAtoms_145 rfl ?_
                    refine J.ialdK g 5 rfl (by omega) (by decide) dX11_laysAtoms_147 ?_
                    refine J.iconstN g 1 dX11_laysAtoms_148 ?_
                    refine J.iadd g dX11_laysAtoms_149 ?_
                    refine J.aload_n g dX11_laysAtoms_150 rfl rfl ?_
                    refine J.get g jX11 24 (by decide) lf_X11_116 0 rfl rfl dX11_laysAtoms_151 ?_
                    refine J.iload_n g dX11_laysAtoms_154 rfl rfl ?_
                    refine J.ialdK g 5 rfl (by omega) (by decide) dX11_laysAtoms_155 ?_
                    refine J.icmp_le g dX11_laysAtoms_156 (tgt := 174) (by decide) (fun c_156 => ?_) (fun c_156 => ?_)
                    · obtain ⟨F3, hF3⟩ : ∃ z, z = F2 := ⟨_, rfl⟩
                      obtain ⟨G3, hG3⟩ : ∃ z, z = G2 := ⟨_, rfl⟩
                      have hn2 : ∀ t, t < s → F3 t = mNo cd f n t (mMn cd f n t) ∧ G3 t = mNo cd f n t (mMx cd f n t) := fun t ht => by rw [hF3, hG3]; exact h2 t ht
                      have hn3 : mRg (pD cd f n s p) (F3 s) (G3 s) := by rw [hF3, hG3]; exact pD_t hst.2 (mRg_s h3 ⟨hmn.1, hmn.2.1⟩ ⟨hmx.1, hmx.2.1⟩ hmx.2.2 (Or.inr ⟨rfl, c_105, by rw [hFl, nI_add] at c_123; exact c_123⟩) (Or.inr ⟨rfl, by rw [hGl, nI_add] at c_156; exact c_156⟩))
                      rw [← hF3, ← hG3]
                      refine J.iload g dX11_laysAtoms_174 rfl ?_
                      refine J.if_neN g dX11_laysAtoms_176 (tgt := 182) (by decide) (by omega) (fun c_176 => ?_) (fun c_176 => ?_)
                      · have hn4 : mRg (pC cd f n s ((p - 1) &&& (s ^^^ 2 ^ mlw s 12 0))) (F3 s) (G3 s) := pD_c c_176 hp hn3
                        have hpv := prev_lt (m := (s ^^^ 2 ^ mlw s 12 0)) c_176
                        refine J.iload g dX11_laysAtoms_182 rfl ?_
                        refine J.iconstN g 1 dX11_laysAtoms_184 ?_
                        refine J.isubN g dX11_laysAtoms_185 (by omega) ?_
                        refine J.iload_n g dX11_laysAtoms_186 rfl rfl ?_
                        refine J.iand' g dX11_laysAtoms_187 (j_and _ _) ?_
                        refine J.istore g dX11_laysAtoms_188 rfl rfl ?_
                        try dsimp only [List.set_cons_zero, List.set_cons_succ]
                        refine J.goto g dX11_laysAtoms_190 (tgt := 68) (by decide) ?_
                        exact J.lvle (jle_s (jle_s (jle_s (jle_s (jle_s (jle_n jle_0)))))) (ih_lq ((p - 1) &&& (s ^^^ 2 ^ mlw s 12 0)) F3 G3 (by omega) (prev_sub) hn2 hn4)
                      · have hnn : ∀ t, t < s + 1 → F3 t = mNo cd f n t (mMn cd f n t) ∧ G3 t = mNo cd f n t (mMx cd f n t) := lt_s hn2 (pD_e hw.1 hwg.2.2.2.2.1 hwf (by omega) (by omega) (hsv.symm.trans c_48) c_176 hn3)
                        refine J.goto g dX11_laysAtoms_179 (tgt := 193) (by decide) ?_
                        refine J.iincN g 1 dX11_laysAtoms_193 rfl rfl ?_
                        try dsimp only [List.set_cons_zero, List.set_cons_succ]
                        refine J.goto g dX11_laysAtoms_196 (tgt := 20) (by decide) ?_
                        exact J.lvle (jle_s (jle_s (jle_n (jle_n (jle_n (jle_n jle_0)))))) (ih_lp (s + 1) _ _ (by omega) (by omega) hnn)
                    · refine J.aload_n g dX11_laysAtoms_159 rfl rfl ?_
                      refine J.get g jX11 24 (by decide) lf_X11_116 0 rfl rfl dX11_laysAtoms_160 ?_
                      refine J.iload_n g dX11_laysAtoms_163 rfl rfl ?_
                      refine J.aload_n g dX11_laysAtoms_164 rfl rfl ?_
                      refine J.get g jX11 24 (by decide) lf_X11_116 0 rfl rfl dX11_laysAtoms_165 ?_
                      refine J.iload g dX11_laysAtoms_168 rfl ?_
                      refine J.ialdK g 5 rfl (by omega) (by decide) dX11_laysAtoms_170 ?_
                      refine J.iconstN g 1 dX11_laysAtoms_171 ?_
                      refine J.iadd g dX11_laysAtoms_172 ?_
                      refine J.iastK g 5 rfl (by omega) (by decide) dX11_laysAtoms_173 ?_
                      try dsimp only [List.set_cons_zero, List.set_cons_succ]
                      obtain ⟨F3, hF3⟩ : ∃ z, z = F2 := ⟨_, rfl⟩
                      obtain ⟨G3, hG3⟩ : ∃ z, z = va_up G2 s (G2 lf + nI 1) := ⟨_, rfl⟩
                      have hn2 : ∀ t, t < s → F3 t = mNo cd f n t (mMn cd f n t) ∧ G3 t = mNo cd f n t (mMx cd f n t) := fun t ht => by rw [hF3, hG3]; rw [uq_ne (by omega)]; exact h2 t ht
                      have hn3 : mRg (pD cd f n s p) (F3 s) (G3 s) := by rw [hF3, hG3]; exact pD_t hst.2 (mRg_s h3 ⟨hmn.1, hmn.2.1⟩ ⟨hmx.1, hmx.2.1⟩ hmx.2.2 (Or.inr ⟨rfl, c_105, by rw [hFl, nI_add] at c_123; exact c_123⟩) (Or.inl ⟨uq_at.trans (by rw [hGl, nI_add]), by rw [hGl, nI_add] at c_156; exact c_156⟩))
                      rw [← hF3, ← hG3]
                      refine J.iload g dX11_laysAtoms_174 rfl ?_
                      refine J.if_neN g dX11_laysAtoms_176 (tgt := 182) (by decide) (by omega) (fun c_176 => ?_) (fun c_176 => ?_)
                      · have hn4 : mRg (pC cd f n s ((p - 1) &&& (s ^^^ 2 ^ mlw s 12 0))) (F3 s) (G3 s) := pD_c c_176 hp hn3
                        have hpv := prev_lt (m := (s ^^^ 2 ^ mlw s 12 0)) c_176
                        refine J.iload g dX11_laysAtoms_182 rfl ?_
                        refine J.iconstN g 1 dX11_laysAtoms_184 ?_
                        refine J.isubN g dX11_laysAtoms_185 (by omega) ?_
                        refine J.iload_n g dX11_laysAtoms_186 rfl rfl ?_
                        refine J.iand' g dX11_laysAtoms_187 (j_and _ _) ?_
                        refine J.istore g dX11_laysAtoms_188 rfl rfl ?_
                        try dsimp only [List.set_cons_zero, List.set_cons_succ]
                        refine J.goto g dX11_laysAtoms_190 (tgt := 68) (by decide) ?_
                        exact J.lvle (jle_s (jle_s (jle_s (jle_s (jle_s (jle_n jle_0)))))) (ih_lq ((p - 1) &&& (s ^^^ 2 ^ mlw s 12 0)) F3 G3 (by omega) (prev_sub) hn2 hn4)
                      · have hnn : ∀ t, t < s + 1 → F3 t = mNo cd f n t (mMn cd f n t) ∧ G3 t = mNo cd f n t (mMx cd f n t) := lt_s hn2 (pD_e hw.1 hwg.2.2.2.2.1 hwf (by omega) (by omega) (hsv.symm.trans c_48) c_176 hn3)
                        refine J.goto g dX11_laysAtoms_179 (tgt := 193) (by decide) ?_
                        refine J.iincN g 1 dX11_laysAtoms_193 rfl rfl ?_
                        try dsimp only [List.set_cons_zero, List.set_cons_succ]
                        refine J.goto g dX11_laysAtoms_196 (tgt := 20) (by decide) ?_
                        exact J.lvle (jle_s (jle_s (jle_n (jle_n (jle_n (jle_n jle_0)))))) (ih_lp (s + 1) _ _ (by omega) (by omega) hnn)
                  · refine J.aload_n g dX11_laysAtoms_126 rfl rfl ?_
                    refine J.get g jX11 23 (by decide) lf_X11_113 0 rfl rfl dX11_laysAtoms_127 ?_
                    refine J.iload_n g dX11_laysAtoms_130 rfl rfl ?_
                    refine J.aload_n g dX11_laysAtoms_131 rfl rfl ?_
                    refine J.get g jX11 23 (by decide) lf_X11_113 0 rfl rfl dX11_laysAtoms_132 ?_
                    refine J.iload g dX11_laysAtoms_135 rfl ?_
                    refine J.ialdK g 4 rfl (by omega) (by decide) dX11_laysAtoms_137 ?_
                    refine J.iconstN g 1 dX11_laysAtoms_138 ?_
                    refine J.iadd g dX11_laysAtoms_139 ?_
                    refine J.iastK g 4 rfl (by omega) (by decide) dX11_laysAtoms_140 ?_
                    try dsimp only [List.set_cons_zero, List.set_cons_succ]
                    refine J.aload_n g dX11_laysAtoms_141 rfl rfl ?_
                    refine J.get g jX11 24 (by decide) lf_X11_116 0 rfl rfl dX11_laysAtoms_142 ?_
                    refine J.iload g dX11_laysAtoms_145 rfl ?_
                    refine J.ialdK g 5 rfl (by omega) (by decide) dX11_laysAtoms_147 ?_
                    refine J.iconstN g 1 dX11_laysAtoms_148 ?_
                    refine J.iadd g dX11_laysAtoms_149 ?_
                    refine J.aload_n g dX11_laysAtoms_150 rfl rfl ?_
                    refine J.get g jX11 24 (by decide) lf_X11_116 0 rfl rfl dX11_laysAtoms_151 ?_
                    refine J.iload_n g dX11_laysAtoms_154 rfl rfl ?_
                    refine J.ialdK g 5 rfl (by omega) (by decide) dX11_laysAtoms_155 ?_
                    refine J.icmp_le g dX11_laysAtoms_156 (tgt := 174) (by decide) (fun c_156 => ?_) (fun c_156 => ?_)
                    · obtain ⟨F3, hF3⟩ : ∃ z, z = va_up F2 s (F2 lf + nI 1) := ⟨_, rfl⟩
                      obtain ⟨G3, hG3⟩ : ∃ z, z = G2 := ⟨_, rfl⟩
                      have hn2 : ∀ t, t < s → F3 t = mNo cd f n t (mMn cd f n t) ∧ G3 t = mNo cd f n t (mMx cd f n t) := fun t ht => by rw [hF3, hG3]; rw [uq_ne (by omega)]; exact h2 t ht
                      have hn3 : mRg (pD cd f n s p) (F3 s) (G3 s) := by rw [hF3, hG3]; exact pD_t hst.2 (mRg_s h3 ⟨hmn.1, hmn.2.1⟩ ⟨hmx.1, hmx.2.1⟩ hmx.2.2 (Or.inl ⟨uq_at.trans (by rw [hFl, nI_add]), Or.inr (by rw [hFl, nI_add] at c_123; exact c_123)⟩) (Or.inr ⟨rfl, by rw [hGl, nI_add] at c_156; exact c_156⟩))
                      rw [← hF3, ← hG3]
                      refine J.iload g dX11_laysAtoms_174 rfl ?_
                      refine J.if_neN g dX11_laysAtoms_176 (tgt := 182) (by decide) (by omega) (fun c_176 => ?_) (fun c_176 => ?_)
                      · have hn4 : mRg (pC cd f n s ((p - 1) &&& (s ^^^ 2 ^ mlw s 12 0))) (F3 s) (G3 s) := pD_c c_176 hp hn3
                        have hpv := prev_lt (m := (s ^^^ 2 ^ mlw s 12 0)) c_176
                        refine J.iload g dX11_laysAtoms_182 rfl ?_
                        refine J.iconstN g 1 dX11_laysAtoms_184 ?_
                        refine J.isubN g dX11_laysAtoms_185 (by omega) ?_
                        refine J.iload_n g dX11_laysAtoms_186 rfl rfl ?_
                        refine J.iand' g dX11_laysAtoms_187 (j_and _ _) ?_
                        refine J.istore g dX11_laysAtoms_188 rfl rfl ?_
                        try dsimp only [List.set_cons_zero, List.set_cons_succ]
                        refine J.goto g dX11_laysAtoms_190 (tgt := 68) (by decide) ?_
                        exact J.lvle (jle_s (jle_s (jle_s (jle_s (jle_s (jle_n jle_0)))))) (ih_lq ((p - 1) &&& (s ^^^ 2 ^ mlw s 12 0)) F3 G3 (by omega) (prev_sub) hn2 hn4)
                      · have hnn : ∀ t, t < s + 1 → F3 t = mNo cd f n t (mMn cd f n t) ∧ G3 t = mNo cd f n t (mMx cd f n t) := lt_s hn2 (pD_e hw.1 hwg.2.2.2.2.1 hwf (by omega) (by omega) (hsv.symm.trans c_48) c_176 hn3)
                        refine J.goto g dX11_laysAtoms_179 (tgt := 193) (by decide) ?_
                        refine J.iincN g 1 dX11_laysAtoms_193 rfl rfl ?_
                        try dsimp only [List.set_cons_zero, List.set_cons_succ]
                        refine J.goto g dX11_laysAtoms_196 (tgt := 20) (by decide) ?_
                        exact J.lvle (jle_s (jle_s (jle_n (jle_n (jle_n (jle_n jle_0)))))) (ih_lp (s + 1) _ _ (by omega) (by omega) hnn)
                    · refine J.aload_n g dX11_laysAtoms_159 rfl rfl ?_
                      refine J.get g jX11 24 (by decide) lf_X11_116 0 rfl rfl dX11_laysAtoms_160 ?_
                      refine J.iload_n g dX11_laysAtoms_163 rfl rfl ?_
                      refine J.aload_n g dX11_laysAtoms_164 rfl rfl ?_
                      refine J.get g jX11 24 (by decide) lf_X11_116 0 rfl rfl dX11_laysAtoms_165 ?_
                      refine J.iload g dX11_laysAtoms_168 rfl ?_
                      refine J.ialdK g 5 rfl (by omega) (by decide) dX11_laysAtoms_170 ?_
                      refine J.iconstN g 1 dX11_laysAtoms_171 ?_
                      refine J.iadd g dX11_laysAtoms_172 ?_
                      refine J.iastK g 5 rfl (by omega) (by decide) dX11_laysAtoms_173 ?_
                      try dsimp only [List.set_cons_zero, List.set_cons_succ]
                      obtain ⟨F3, hF3⟩ : ∃ z, z = va_up F2 s (F2 lf + nI 1) := ⟨_, rfl⟩
                      obtain ⟨G3, hG3⟩ : ∃ z, z = va_up G2 s (G2 lf + nI 1) := ⟨_, rfl⟩
                      have hn2 : ∀ t, t < s → F3 t = mNo cd f n t (mMn cd f n t) ∧ G3 t = mNo cd f n t (mMx cd f n t) := fun t ht => by rw [hF3, hG3]; rw [uq_ne (by omega)]; rw [uq_ne (by omega)]; exact h2 t ht
                      have hn3 : mRg (pD cd f n s p) (F3 s) (G3 s) := by rw [hF3, hG3]; exact pD_t hst.2 (mRg_s h3 ⟨hmn.1, hmn.2.1⟩ ⟨hmx.1, hmx.2.1⟩ hmx.2.2 (Or.inl ⟨uq_at.trans (by rw [hFl, nI_add]), Or.inr (by rw [hFl, nI_add] at c_123; exact c_123)⟩) (Or.inl ⟨uq_at.trans (by rw [hGl, nI_add]), by rw [hGl, nI_add] at c_156; exact c_156⟩))
                      rw [← hF3, ← hG3]
                      refine J.iload g dX11_laysAtoms_174 rfl ?_
                      refine J.if_neN g dX11_laysAtoms_176 (tgt := 182) (by decide) (by omega) (fun c_176 => ?_) (fun c_176 => ?_)
                      · have hn4 : mRg (pC cd f n s ((p - 1) &&& (s ^^^ 2 ^ mlw s 12 0))) (F3 s) (G3 s) := pD_c c_176 hp hn3
                        have hpv := prev_lt (m := (s ^^^ 2 ^ mlw s 12 0)) c_176
                        refine J.iload g dX11_laysAtoms_182 rfl ?_
                        refine J.iconstN g 1 dX11_laysAtoms_184 ?_
                        refine J.isubN g dX11_laysAtoms_185 (by omega) ?_
                        refine J.iload_n g dX11_laysAtoms_186 rfl rfl ?_
                        refine J.iand' g dX11_laysAtoms_187 (j_and _ _) ?_
                        refine J.istore g dX11_laysAtoms_188 rfl rfl ?_
                        try dsimp only [List.set_cons_zero, List.set_cons_succ]
                        refine J.goto g dX11_laysAtoms_190 (tgt := 68) (by decide) ?_
                        exact J.lvle (jle_s (jle_s (jle_s (jle_s (jle_s (jle_n jle_0)))))) (ih_lq ((p - 1) &&& (s ^^^ 2 ^ mlw s 12 0)) F3 G3 (by omega) (prev_sub) hn2 hn4)
                      · have hnn : ∀ t, t < s + 1 → F3 t = mNo cd f n t (mMn cd f n t) ∧ G3 t = mNo cd f n t (mMx cd f n t) := lt_s hn2 (pD_e hw.1 hwg.2.2.2.2.1 hwf (by omega) (by omega) (hsv.symm.trans c_48) c_176 hn3)
                        refine J.goto g dX11_laysAtoms_179 (tgt := 193) (by decide) ?_
                        refine J.iincN g 1 dX11_laysAtoms_193 rfl rfl ?_
                        try dsimp only [List.set_cons_zero, List.set_cons_succ]
                        refine J.goto g dX11_laysAtoms_196 (tgt := 20) (by decide) ?_
                        exact J.lvle (jle_s (jle_s (jle_n (jle_n (jle_n (jle_n jle_0)))))) (ih_lp (s + 1) _ _ (by omega) (by omega) hnn)
          exact J.lvle (jle_s (jle_s (jle_s (jle_s (jle_s (jle_n jle_0)))))) (lq _ (s ^^^ 2 ^ mlw s 12 0) _ _ (Nat.lt_succ_self _) (Nat.and_self _) (fun t ht => by rw [uq_ne (by omega), uq_ne (by omega)]; exact hh t ht) (pC_0 uq_at uq_at))
        · have hnn : ∀ t, t < s + 1 → va_up F s (-1) t = mNo cd f n t (mMn cd f n t) ∧ va_up G s (-1) t = mNo cd f n t (mMx cd f n t) := lt_s (fun t ht => by rw [uq_ne (by omega), uq_ne (by omega)]; exact hh t ht) (mNo_n (fun z => c_48 (hsv.trans z)) uq_at uq_at)
          refine J.goto g dX11_laysAtoms_51 (tgt := 193) (by decide) ?_
          refine J.iincN g 1 dX11_laysAtoms_193 rfl rfl ?_
          try dsimp only [List.set_cons_zero, List.set_cons_succ]
          refine J.goto g dX11_laysAtoms_196 (tgt := 20) (by decide) ?_
          exact J.lvle (jle_s (jle_s (jle_n (jle_n (jle_n (jle_n jle_0)))))) (ih_lp (s + 1) _ _ (by omega) (by omega) hnn)
  exact J.lvle (jle_s (jle_s (jle_n (jle_n (jle_n (jle_n jle_0)))))) (lp _ 1 _ _ (Nat.lt_succ_self _) (by omega) (fun t ht => by obtain rfl : t = 0 := (by omega); exact mNo_0 uq_at uq_at))
