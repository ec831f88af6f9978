set_option maxHeartbeats 8000000 in
set_option maxRecDepth 100000 in
theorem c_X11_grows (l : Launch) (γ : jγ) : ∀ (dd : Nat) (mo mta mtd msz mto mfr mso mnu mfa mpl mro mnw mrd mkp msn mbf mlv mik msm msu mbe mfe mmy mof msf mlr mty mfm mrn mrb mtb : Nat) (mth mfw mse : Int32) (mwd : Int64) (cd n : Nat) (f w : Nat → Nat) (rn rb : Nat → Nat) (L : List Nat) (T : mST) (fr sm : Nat), (mIs cd n f w) → (god cd ≤ 12) → (L.length + dd = 12) → (mrow L rn) → (mrow T.2 rb) → (T.2.length ≤ 12) → (sm < 2 ^ 24) → (fr ≤ 24) → (L.length + 1 ≤ jpc (sm ||| 1) (god cd)) → jM (S := (Nat → Nat) × (Nat → Nat)) l γ yX11_grows cX11_grows 5 none ({ frames := dd + 8, cells := 0, slots := 0, locals := 25 * dd + 200 } : Room) [.ref mo, .int (nI L.length), .int (nI fr), .int (nI sm)] [(mo, .inr (11, [.int mth, .ref mta, .int (nI mtd), .int (nI msz), .int (nI mto), .int (nI mfr), .int (nI mso), .int (nI mnu), .int (nI mfa), .int mfw, .int (nI mpl), .int (nI mro), .long mwd, .ref mnw, .ref mrd, .ref mkp, .ref msn, .ref mbf, .ref mlv, .ref mik, .int (nI msm), .ref msu, .ref mbe, .ref mfe, .ref mmy, .ref mof, .ref msf, .ref mlr, .ref mty, .ref mfm, .ref mrn, .ref mrb, .int (nI T.2.length), .ref mtb, .int mse])), (mnw, .inl (γ.2 0, 17, .inl (fun j => nI (w j)))), (mfm, .inl (γ.2 0, 13, .inl (fun j => nI (T.1 j)))), (mrn, .inl (γ.2 0, 13, .inl (fun j => nI (rn j)))), (mrb, .inl (γ.2 0, 13, .inl (fun j => nI (rb j))))] (fun u => none) (fun u => [(mo, .inr (11, [.int mth, .ref mta, .int (nI mtd), .int (nI msz), .int (nI mto), .int (nI mfr), .int (nI mso), .int (nI mnu), .int (nI mfa), .int mfw, .int (nI mpl), .int (nI mro), .long mwd, .ref mnw, .ref mrd, .ref mkp, .ref msn, .ref mbf, .ref mlv, .ref mik, .int (nI msm), .ref msu, .ref mbe, .ref mfe, .ref mmy, .ref mof, .ref msf, .ref mlr, .ref mty, .ref mfm, .ref mrn, .ref mrb, .int (nI ((mgr (god cd) (jmf cd) (jaf cd) dd L (max fr 1) sm T).2.length)), .ref mtb, .int mse])), (mnw, .inl (γ.2 0, 17, .inl (fun j => nI (w j)))), (mfm, .inl (γ.2 0, 13, .inl (fun j => nI ((mgr (god cd) (jmf cd) (jaf cd) dd L (max fr 1) sm T).1 j)))), (mrn, .inl (γ.2 0, 13, .inl (fun j => nI (u.1 j)))), (mrb, .inl (γ.2 0, 13, .inl (fun j => nI (u.2 j))))]) (fun u => mrow L u.1 ∧ mrow (mgr (god cd) (jmf cd) (jaf cd) dd L (max fr 1) sm T).2 u.2 ∧ (mgr (god cd) (jmf cd) (jaf cd) dd L (max fr 1) sm T).2.length ≤ 12) := by
  intro dd
  induction dd with
  | zero =>
    intro mo mta mtd msz mto mfr mso mnu mfa mpl mro mnw mrd mkp msn mbf mlv mik msm msu mbe mfe mmy mof msf mlr mty mfm mrn mrb mtb mth mfw mse mwd cd n f w rn rb L T fr sm hw h12 hd hg hf hfl hsm hfr hcard
    have hj := jpc_le (sm ||| 1) (god cd)
    omega
  | succ dd ih =>
    intro mo mta mtd msz mto mfr mso mnu mfa mpl mro mnw mrd mkp msn mbf mlv mik msm msu mbe mfe mmy mof msf mlr mty mfm mrn mrb mtb mth mfw mse mwd cd n f w rn rb L T fr sm hw h12 hd hg hf hfl hsm hfr hcard
    refine jM.of [some (.ref mo), some (.int (nI L.length)), some (.int (nI fr)), some (.int (nI sm)), none] rfl (Nat.le_of_ble_eq_true rfl) (by decide) ?_
    intro x g hE hin
    have hwg := hw.g
    have hw5 := hw.2.2.2.2.2.1
    have hwf := hw.2.2.2.2.2.2
    have hw3 := hw.2.2.1
    have hL : L.length < 12 := by omega
    have hT := jtab_cd hw.1
    refine J.aload_n g dX11_grows_0 rfl rfl ?_
    refine J.get g jX11 29 (by decide) lf_X11_131 0 rfl rfl dX11_grows_1 ?_
    refine J.iload_n g dX11_grows_4 rfl rfl ?_
    refine J.dup2 g dX11_grows_5 rfl rfl ?_
    refine J.ialdN g 2 rfl (by omega) (by decide) dX11_grows_6 ?_
    refine J.iconstN g 1 dX11_grows_7 ?_
    refine J.iaddN g dX11_grows_8 ?_
    refine J.iastN g 2 rfl (by omega) (by decide) dX11_grows_9 ?_
    try dsimp only [List.set_cons_zero, List.set_cons_succ]
    refine J.iload_n g dX11_grows_10 rfl rfl ?_
    refine J.aload_n g dX11_grows_11 rfl rfl ?_
    refine J.get g jX11 32 (by decide) lf_X11_259 0 rfl rfl dX11_grows_12 ?_
    refine J.icmp_leN g dX11_grows_15 (tgt := 52) (by decide) (by omega) (by omega) (fun c_15 => ?_) (fun c_15 => ?_)
    · have hms : (mstep L T).2 = T.2 := if_neg (by omega)
      obtain ⟨ff0, hff⟩ : ∃ z, z = rb := ⟨_, rfl⟩
      rw [← hff]
      have hs2 : mrow (mstep L T).2 ff0 := by rw [hms, hff]; exact hf
      have hs3 : (mstep L T).2.length ≤ 12 := by rw [hms]; exact hfl
      refine J.iload_n g dX11_grows_52 rfl rfl ?_
      refine J.istore g dX11_grows_53 rfl rfl ?_
      try dsimp only [List.set_cons_zero, List.set_cons_succ]
      have lp1 : ∀ (d : Nat) (i : Nat) (T1 : mST) (g1 f1 : Nat → Nat), god cd - i < d → (i ≤ 25) → (mrow L g1) → (mrow T1.2 f1) → (T1.2.length ≤ 12) → (mgr (god cd) (jmf cd) (jaf cd) (dd + 1) L (max fr 1) sm T = mgl (fun g T => if sm.testBit (jop (god cd) (jaf cd) g) then T else mgr (god cd) (jmf cd) (jaf cd) dd (L ++ [g]) g ((sm ||| 1 <<< g) ||| jmoved (god cd) (jmf cd) sm g (god cd)) T) (god cd - max i 1) (max i 1) T1) → J γ l x [(mo, .inr (11, [.int mth, .ref mta, .int (nI mtd), .int (nI msz), .int (nI mto), .int (nI mfr), .int (nI mso), .int (nI mnu), .int (nI mfa), .int mfw, .int (nI mpl), .int (nI mro), .long mwd, .ref mnw, .ref mrd, .ref mkp, .ref msn, .ref mbf, .ref mlv, .ref mik, .int (nI msm), .ref msu, .ref mbe, .ref mfe, .ref mmy, .ref mof, .ref msf, .ref mlr, .ref mty, .ref mfm, .ref mrn, .ref mrb, .int (nI T1.2.length), .ref mtb, .int mse])), (mnw, .inl (γ.2 0, 17, .inl (fun j => nI (w j)))), (mfm, .inl (γ.2 0, 13, .inl (fun j => nI (T1.1 j)))), (mrn, .inl (γ.2 0, 13, .inl (fun j => nI (g1 j)))), (mrb, .inl (γ.2 0, 13, .inl (fun j => nI (f1 j))))] [some (.ref mo), some (.int (nI L.length)), some (.int (nI fr)), some (.int (nI sm)), some (.int (nI i))] [] 0 0 55 := by
        intro d
        induction d with
        | zero => intro i T1 g1 f1 hm; exact absurd hm (Nat.not_lt_zero _)
        | succ d ih_lp1 =>
          intro i T1 g1 f1 hm hi h1 h2 h3 hr
          refine J.iload g dX11_grows_55 rfl ?_
          refine J.aload_n g dX11_grows_57 rfl rfl ?_
          refine J.callV0 g (c_X11_order l γ _ _ _ _ _ _ _ _ _ _ _ _ _ _ _ _ _ _ _ _ _ _ _ _ _ _ _ _ _ _ _ _ _ _ _ _ _ _ _ _ hw) jy_X11_order lm_X11_186 (q0 := 0) rfl jX11.1 ⟨⟨(by dsimp only; omega), (by dsimp only; omega)⟩, (by dsimp only; omega), (by dsimp only; omega)⟩ (Nat.le_of_ble_eq_true rfl) rfl [0, 1] rfl rfl dX11_grows_58 ?_
          intro _ _
          dsimp only [jpush]
          refine J.icmp_geN g dX11_grows_61 (tgt := 122) (by decide) (by omega) (by omega) (fun c_61 => ?_) (fun c_61 => ?_)
          · exact J.vret g hE (g1, f1) rfl (by rw [hr, mgl_0 (by have := Nat.le_max_left i 1; omega)]; exact ⟨h1, h2, h3⟩) (by rw [hr, mgl_0 (by have := Nat.le_max_left i 1; omega)]) ⟨Nat.le_of_ble_eq_true rfl, Nat.le_of_ble_eq_true rfl⟩ dX11_grows_122
          · refine J.iload g dX11_grows_64 rfl ?_
            refine J.if_eqN g dX11_grows_66 (tgt := 116) (by decide) (by omega) (fun c_66 => ?_) (fun c_66 => ?_)
            · obtain ⟨T2, hT2⟩ : ∃ z, z = T1 := ⟨_, rfl⟩
              obtain ⟨g2, hg2⟩ : ∃ z, z = g1 := ⟨_, rfl⟩
              obtain ⟨f2, hf2⟩ : ∃ z, z = f1 := ⟨_, rfl⟩
              have hn1 : mrow L g2 := hg2 ▸ h1
              have hn2 : mrow T2.2 f2 := by rw [hT2, hf2]; exact h2
              have hn3 : T2.2.length ≤ 12 := hT2 ▸ h3
              have hn4 : mgr (god cd) (jmf cd) (jaf cd) (dd + 1) L (max fr 1) sm T = mgl (fun g T => if sm.testBit (jop (god cd) (jaf cd) g) then T else mgr (god cd) (jmf cd) (jaf cd) dd (L ++ [g]) g ((sm ||| 1 <<< g) ||| jmoved (god cd) (jmf cd) sm g (god cd)) T) (god cd - max (i + 1) 1) (max (i + 1) 1) T2 := by rw [hr, hT2, c_66]; rfl
              rw [← hT2, ← hg2, ← hf2]
              refine J.iincN g 1 dX11_grows_116 rfl rfl ?_
              try dsimp only [List.set_cons_zero, List.set_cons_succ]
              refine J.goto g dX11_grows_119 (tgt := 55) (by decide) ?_
              exact J.lvle (jle_s (jle_s (jle_s (jle_s (jle_s jle_0))))) (ih_lp1 (i + 1) T2 g2 f2 (by omega) (by omega) hn1 hn2 hn3 hn4)
            · refine J.iload_n g dX11_grows_69 rfl rfl ?_
              refine J.aload_n g dX11_grows_70 rfl rfl ?_
              refine J.iload g dX11_grows_71 rfl ?_
              refine J.callV0 g (c_X11_opposite l γ _ _ _ _ _ _ _ _ _ _ _ _ _ _ _ _ _ _ _ _ _ _ _ _ _ _ _ _ _ _ _ _ _ _ _ _ _ _ _ _ _ hw (by omega)) jy_X11_opposite lm_X11_231 (q0 := 0) rfl jX11.1 ⟨⟨(by dsimp only; omega), (by dsimp only; omega)⟩, (by dsimp only; omega), (by dsimp only; omega)⟩ (Nat.le_of_ble_eq_true rfl) rfl [0, 1] rfl rfl dX11_grows_73 ?_
              intro _ _
              dsimp only [jpush]
              have hgn := (gN_in hw.1 (show i < god cd by omega)).1
              refine J.callS0 g (c_X11_has l γ _ _ (by omega) (by omega)) jy_X11_has lm_X11_7 ⟨⟨(by dsimp only; omega), (by dsimp only; omega)⟩, (by dsimp only; omega), (by dsimp only; omega)⟩ (Nat.le_of_ble_eq_true rfl) rfl [] rfl rfl dX11_grows_76 ?_
              intro _ _
              dsimp only [jpush]
              refine J.if_eqB g dX11_grows_79 (tgt := 85) (by decide) (fun c_79 => ?_) (fun c_79 => ?_)
              · have hcd := grow_card hw.1 (show i < god cd by omega) c_66 c_79
                refine J.aload_n g dX11_grows_85 rfl rfl ?_
                refine J.get g jX11 30 (by decide) lf_X11_134 0 rfl rfl dX11_grows_86 ?_
                refine J.iload_n g dX11_grows_89 rfl rfl ?_
                refine J.iload g dX11_grows_90 rfl ?_
                refine J.iastN g 3 rfl (by omega) (by decide) dX11_grows_92 ?_
                try dsimp only [List.set_cons_zero, List.set_cons_succ]
                refine J.aload_n g dX11_grows_93 rfl rfl ?_
                refine J.iload_n g dX11_grows_94 rfl rfl ?_
                refine J.iconstN g 1 dX11_grows_95 ?_
                refine J.iaddN g dX11_grows_96 ?_
                refine J.iload g dX11_grows_97 rfl ?_
                refine J.iload_n g dX11_grows_99 rfl rfl ?_
                refine J.aload_n g dX11_grows_100 rfl rfl ?_
                refine J.iload_n g dX11_grows_101 rfl rfl ?_
                refine J.iload g dX11_grows_102 rfl ?_
                refine J.callV0 g (c_X11_shifted l γ _ _ _ _ _ _ _ _ _ _ _ _ _ _ _ _ _ _ _ _ _ _ _ _ _ _ _ _ _ _ _ _ _ _ _ _ _ _ _ _ _ _ hw (by omega) (by omega)) jy_X11_shifted lm_X11_262 (q0 := 0) rfl jX11.1 ⟨⟨(by dsimp only; omega), (by dsimp only; omega)⟩, (by dsimp only; omega), (by dsimp only; omega)⟩ (Nat.le_of_ble_eq_true rfl) rfl [0, 1] rfl rfl dX11_grows_104 ?_
                intro _ _
                dsimp only [jpush]
                refine J.ior' g dX11_grows_107 (j_or _ _) ?_
                refine J.iconstN g 1 dX11_grows_108 ?_
                refine J.iload g dX11_grows_109 rfl ?_
                refine J.ishl' g dX11_grows_111 (j_shl1 (by omega)) ?_
                refine J.ior' g dX11_grows_112 (j_or _ _) ?_
                rw [mgr_or (a := sm)]
                rw [mgr_or (a := sm)] at hcd
                have hlen : (L ++ [i]).length = L.length + 1 := by rw [List.length_append]; rfl
                refine J.callV g (hlen ▸ ih mo mta mtd msz mto mfr mso mnu mfa mpl mro mnw mrd mkp msn mbf mlv mik msm msu mbe mfe mmy mof msf mlr mty mfm mrn mrb mtb mth mfw mse mwd cd n f w _ _ (L ++ [i]) T1 i _ hw h12 (by rw [hlen]; omega) (mrow_app h1) h2 h3 (Nat.or_lt_two_pow (Nat.or_lt_two_pow hsm (jbit_lt (by omega))) (jmoved_lt hT _ _ _)) (by omega) (by rw [hlen]; omega)) jy_X11_grows lm_X11_265 (q0 := 0) rfl jX11.1 ⟨⟨(by dsimp only; omega), (by dsimp only; omega)⟩, (by dsimp only; omega), (by dsimp only; omega)⟩ (Nat.le_of_ble_eq_true rfl) rfl [0, 1, 2, 3, 4] rfl (fun _ => rfl) rfl dX11_grows_113 ?_
                intro u_113 h_113
                dsimp only [jput, List.set_cons_zero, List.set_cons_succ, Option.toList, List.append, List.cons_append, List.nil_append, List.append_nil]
                have hmi : max i 1 = i := Nat.max_eq_left (by omega)
                rw [hmi] at h_113 ⊢
                obtain ⟨T2, hT2⟩ : ∃ z, z = mgr (god cd) (jmf cd) (jaf cd) dd (L ++ [i]) i ((sm ||| 1 <<< i) ||| jmoved (god cd) (jmf cd) sm i (god cd)) T1 := ⟨_, rfl⟩
                obtain ⟨g2, hg2⟩ : ∃ z, z = u_113.1 := ⟨_, rfl⟩
                obtain ⟨f2, hf2⟩ : ∃ z, z = u_113.2 := ⟨_, rfl⟩
                rw [← hT2] at h_113 ⊢
                have hn1 : mrow L g2 := by rw [hg2]; exact mrow_pre h_113.1
                have hn2 : mrow T2.2 f2 := by rw [hf2]; exact h_113.2.1
                have hn3 : T2.2.length ≤ 12 := h_113.2.2
                have hn4 : mgr (god cd) (jmf cd) (jaf cd) (dd + 1) L (max fr 1) sm T = mgl (fun g T => if sm.testBit (jop (god cd) (jaf cd) g) then T else mgr (god cd) (jmf cd) (jaf cd) dd (L ++ [g]) g ((sm ||| 1 <<< g) ||| jmoved (god cd) (jmf cd) sm g (god cd)) T) (god cd - max (i + 1) 1) (max (i + 1) 1) T2 := by rw [hr, hmi, show max (i + 1) 1 = i + 1 from Nat.max_eq_left (by omega), mgl_s (by omega), hT2]; show mgl _ _ _ (if sm.testBit (gN cd i) then T1 else _) = _; rw [if_neg (by rw [c_79]; decide)]
                rw [← hg2, ← hf2]
                refine J.iincN g 1 dX11_grows_116 rfl rfl ?_
                try dsimp only [List.set_cons_zero, List.set_cons_succ]
                refine J.goto g dX11_grows_119 (tgt := 55) (by decide) ?_
                exact J.lvle (jle_s (jle_s (jle_s (jle_s (jle_s jle_0))))) (ih_lp1 (i + 1) T2 g2 f2 (by omega) (by omega) hn1 hn2 hn3 hn4)
              · obtain ⟨T2, hT2⟩ : ∃ z, z = T1 := ⟨_, rfl⟩
                obtain ⟨g2, hg2⟩ : ∃ z, z = g1 := ⟨_, rfl⟩
                obtain ⟨f2, hf2⟩ : ∃ z, z = f1 := ⟨_, rfl⟩
                have hn1 : mrow L g2 := hg2 ▸ h1
                have hn2 : mrow T2.2 f2 := by rw [hT2, hf2]; exact h2
                have hn3 : T2.2.length ≤ 12 := hT2 ▸ h3
                have hn4 : mgr (god cd) (jmf cd) (jaf cd) (dd + 1) L (max fr 1) sm T = mgl (fun g T => if sm.testBit (jop (god cd) (jaf cd) g) then T else mgr (god cd) (jmf cd) (jaf cd) dd (L ++ [g]) g ((sm ||| 1 <<< g) ||| jmoved (god cd) (jmf cd) sm g (god cd)) T) (god cd - max (i + 1) 1) (max (i + 1) 1) T2 := by rw [hr, show max i 1 = i from Nat.max_eq_left (by omega), show max (i + 1) 1 = i + 1 from Nat.max_eq_left (by omega), mgl_s (by omega), hT2]; show mgl _ _ _ (if sm.testBit (gN cd i) then T1 else _) = _; rw [if_pos c_79]
                rw [← hT2, ← hg2, ← hf2]
                refine J.goto g dX11_grows_82 (tgt := 116) (by decide) ?_
                refine J.iincN g 1 dX11_grows_116 rfl rfl ?_
                try dsimp only [List.set_cons_zero, List.set_cons_succ]
                refine J.goto g dX11_grows_119 (tgt := 55) (by decide) ?_
                exact J.lvle (jle_s (jle_s (jle_s (jle_s (jle_s jle_0))))) (ih_lp1 (i + 1) T2 g2 f2 (by omega) (by omega) hn1 hn2 hn3 hn4)
      have ih2 := lp1 _ fr (mstep L T) rn ff0 (Nat.lt_succ_self _) (by omega) hg hs2 hs3 rfl
      rw [hms] at ih2
      exact J.lvle (jle_s (jle_s (jle_s (jle_s (jle_s jle_0))))) ih2
    · refine J.aload_n g dX11_grows_18 rfl rfl ?_
      refine J.iload_n g dX11_grows_19 rfl rfl ?_
      refine J.put g jX11 32 (by decide) lf_X11_259 0 rfl rfl (Nat.le_of_ble_eq_true rfl) rfl rfl dX11_grows_20 ?_
      try dsimp only [List.set_cons_zero, List.set_cons_succ]
      refine J.iconstN g 0 dX11_grows_23 ?_
      refine J.istore g dX11_grows_24 rfl rfl ?_
      try dsimp only [List.set_cons_zero, List.set_cons_succ]
      have lc : ∀ (d : Nat) (k : Nat) (R1 : Nat → Nat), L.length - k < d → (k ≤ L.length) → (∀ j, j < k → R1 j = rn j) → J γ l x [(mo, .inr (11, [.int mth, .ref mta, .int (nI mtd), .int (nI msz), .int (nI mto), .int (nI mfr), .int (nI mso), .int (nI mnu), .int (nI mfa), .int mfw, .int (nI mpl), .int (nI mro), .long mwd, .ref mnw, .ref mrd, .ref mkp, .ref msn, .ref mbf, .ref mlv, .ref mik, .int (nI msm), .ref msu, .ref mbe, .ref mfe, .ref mmy, .ref mof, .ref msf, .ref mlr, .ref mty, .ref mfm, .ref mrn, .ref mrb, .int (nI L.length), .ref mtb, .int mse])), (mnw, .inl (γ.2 0, 17, .inl (fun j => nI (w j)))), (mfm, .inl (γ.2 0, 13, .inl (fun j => nI ((va_up T.1 L.length (T.1 L.length + 1)) j)))), (mrn, .inl (γ.2 0, 13, .inl (fun j => nI (rn j)))), (mrb, .inl (γ.2 0, 13, .inl (fun j => nI (R1 j))))] [some (.ref mo), some (.int (nI L.length)), some (.int (nI fr)), some (.int (nI sm)), some (.int (nI k))] [] 0 0 26 := by
        intro d
        induction d with
        | zero => intro k R1 hm; exact absurd hm (Nat.not_lt_zero _)
        | succ d ih_lc =>
          intro k R1 hm hk hR
          refine J.iload g dX11_grows_26 rfl ?_
          refine J.iload_n g dX11_grows_28 rfl rfl ?_
          refine J.icmp_geN g dX11_grows_29 (tgt := 52) (by decide) (by omega) (by omega) (fun c_29 => ?_) (fun c_29 => ?_)
          · have hms : (mstep L T).2 = L := if_pos (by omega)
            obtain ⟨ff0, hff⟩ : ∃ z, z = R1 := ⟨_, rfl⟩
            rw [← hff]
            have hs2 : mrow (mstep L T).2 ff0 := by rw [hms, hff]; exact mrow_eq hg (fun k hk => hR k (by omega))
            have hs3 : (mstep L T).2.length ≤ 12 := by rw [hms]; omega
            refine J.iload_n g dX11_grows_52 rfl rfl ?_
            refine J.istore g dX11_grows_53 rfl rfl ?_
            try dsimp only [List.set_cons_zero, List.set_cons_succ]
            have lp2 : ∀ (d : Nat) (i : Nat) (T1 : mST) (g1 f1 : Nat → Nat), god cd - i < d → (i ≤ 25) → (mrow L g1) → (mrow T1.2 f1) → (T1.2.length ≤ 12) → (mgr (god cd) (jmf cd) (jaf cd) (dd + 1) L (max fr 1) sm T = mgl (fun g T => if sm.testBit (jop (god cd) (jaf cd) g) then T else mgr (god cd) (jmf cd) (jaf cd) dd (L ++ [g]) g ((sm ||| 1 <<< g) ||| jmoved (god cd) (jmf cd) sm g (god cd)) T) (god cd - max i 1) (max i 1) T1) → J γ l x [(mo, .inr (11, [.int mth, .ref mta, .int (nI mtd), .int (nI msz), .int (nI mto), .int (nI mfr), .int (nI mso), .int (nI mnu), .int (nI mfa), .int mfw, .int (nI mpl), .int (nI mro), .long mwd, .ref mnw, .ref mrd, .ref mkp, .ref msn, .ref mbf, .ref mlv, .ref mik, .int (nI msm), .ref msu, .ref mbe, .ref mfe, .ref mmy, .ref mof, .ref msf, .ref mlr, .ref mty, .ref mfm, .ref mrn, .ref mrb, .int (nI T1.2.length), .ref mtb, .int mse])), (mnw, .inl (γ.2 0, 17, .inl (fun j => nI (w j)))), (mfm, .inl (γ.2 0, 13, .inl (fun j => nI (T1.1 j)))), (mrn, .inl (γ.2 0, 13, .inl (fun j => nI (g1 j)))), (mrb, .inl (γ.2 0, 13, .inl (fun j => nI (f1 j))))] [some (.ref mo), some (.int (nI L.length)), some (.int (nI fr)), some (.int (nI sm)), some (.int (nI i))] [] 0 0 55 := by
              intro d
              induction d with
              | zero => intro i T1 g1 f1 hm; exact absurd hm (Nat.not_lt_zero _)
              | succ d ih_lp2 =>
                intro i T1 g1 f1 hm hi h1 h2 h3 hr
                refine J.iload g dX11_grows_55 rfl ?_
                refine J.aload_n g dX11_grows_57 rfl rfl ?_
                refine J.callV0 g (c_X11_order l γ _ _ _ _ _ _ _ _ _ _ _ _ _ _ _ _ _ _ _ _ _ _ _ _ _ _ _ _ _ _ _ _ _ _ _ _ _ _ _ _ hw) jy_X11_order lm_X11_186 (q0 := 0) rfl jX11.1 ⟨⟨(by dsimp only; omega), (by dsimp only; omega)⟩, (by dsimp only; omega), (by dsimp only; omega)⟩ (Nat.le_of_ble_eq_true rfl) rfl [0, 1] rfl rfl dX11_grows_58 ?_
                intro _ _
                dsimp only [jpush]
                refine J.icmp_geN g dX11_grows_61 (tgt := 122) (by decide) (by omega) (by omega) (fun c_61 => ?_) (fun c_61 => ?_)
                · exact J.vret g hE (g1, f1) rfl (by rw [hr, mgl_0 (by have := Nat.le_max_left i 1; omega)]; exact ⟨h1, h2, h3⟩) (by rw [hr, mgl_0 (by have := Nat.le_max_left i 1; omega)]) ⟨Nat.le_of_ble_eq_true rfl, Nat.le_of_ble_eq_true rfl⟩ dX11_grows_122
                · refine J.iload g dX11_grows_64 rfl ?_
                  refine J.if_eqN g dX11_grows_66 (tgt := 116) (by decide) (by omega) (fun c_66 => ?_) (fun c_66 => ?_)
                  · obtain ⟨T2, hT2⟩ : ∃ z, z = T1 := ⟨_, rfl⟩
                    obtain ⟨g2, hg2⟩ : ∃ z, z = g1 := ⟨_, rfl⟩
                    obtain ⟨f2, hf2⟩ : ∃ z, z = f1 := ⟨_, rfl⟩
                    have hn1 : mrow L g2 := hg2 ▸ h1
                    have hn2 : mrow T2.2 f2 := by rw [hT2, hf2]; exact h2
                    have hn3 : T2.2.length ≤ 12 := hT2 ▸ h3
                    have hn4 : mgr (god cd) (jmf cd) (jaf cd) (dd + 1) L (max fr 1) sm T = mgl (fun g T => if sm.testBit (jop (god cd) (jaf cd) g) then T else mgr (god cd) (jmf cd) (jaf cd) dd (L ++ [g]) g ((sm ||| 1 <<< g) ||| jmoved (god cd) (jmf cd) sm g (god cd)) T) (god cd - max (i + 1) 1) (max (i + 1) 1) T2 := by rw [hr, hT2, c_66]; rfl
                    rw [← hT2, ← hg2, ← hf2]
                    refine J.iincN g 1 dX11_grows_116 rfl rfl ?_
                    try dsimp only [List.set_cons_zero, List.set_cons_succ]
                    refine J.goto g dX11_grows_119 (tgt := 55) (by decide) ?_
                    exact J.lvle (jle_s (jle_s (jle_s (jle_s (jle_s jle_0))))) (ih_lp2 (i + 1) T2 g2 f2 (by omega) (by omega) hn1 hn2 hn3 hn4)
                  · refine J.iload_n g dX11_grows_69 rfl rfl ?_
                    refine J.aload_n g dX11_grows_70 rfl rfl ?_
                    refine J.iload g dX11_grows_71 rfl ?_
                    refine J.callV0 g (c_X11_opposite l γ _ _ _ _ _ _ _ _ _ _ _ _ _ _ _ _ _ _ _ _ _ _ _ _ _ _ _ _ _ _ _ _ _ _ _ _ _ _ _ _ _ hw (by omega)) jy_X11_opposite lm_X11_231 (q0 := 0) rfl jX11.1 ⟨⟨(by dsimp only; omega), (by dsimp only; omega)⟩, (by dsimp only; omega), (by dsimp only; omega)⟩ (Nat.le_of_ble_eq_true rfl) rfl [0, 1] rfl rfl dX11_grows_73 ?_
                    intro _ _
                    dsimp only [jpush]
                    have hgn := (gN_in hw.1 (show i < god cd by omega)).1
                    refine J.callS0 g (c_X11_has l γ _ _ (by omega) (by omega)) jy_X11_has lm_X11_7 ⟨⟨(by dsimp only; omega), (by dsimp only; omega)⟩, (by dsimp only; omega), (by dsimp only; omega)⟩ (Nat.le_of_ble_eq_true rfl) rfl [] rfl rfl dX11_grows_76 ?_
                    intro _ _
                    dsimp only [jpush]
                    refine J.if_eqB g dX11_grows_79 (tgt := 85) (by decide) (fun c_79 => ?_) (fun c_79 => ?_)
                    · have hcd := grow_card hw.1 (show i < god cd by omega) c_66 c_79
                      refine J.aload_n g dX11_grows_85 rfl rfl ?_
                      refine J.get g jX11 30 (by decide) lf_X11_134 0 rfl rfl dX11_grows_86 ?_
                      refine J.iload_n g dX11_grows_89 rfl rfl ?_
                      refine J.iload g dX11_grows_90 rfl ?_
                      refine J.iastN g 3 rfl (by omega) (by decide) dX11_grows_92 ?_
                      try dsimp only [List.set_cons_zero, List.set_cons_succ]
                      refine J.aload_n g dX11_grows_93 rfl rfl ?_
                      refine J.iload_n g dX11_grows_94 rfl rfl ?_
                      refine J.iconstN g 1 dX11_grows_95 ?_
                      refine J.iaddN g dX11_grows_96 ?_
                      refine J.iload g dX11_grows_97 rfl ?_
                      refine J.iload_n g dX11_grows_99 rfl rfl ?_
                      refine J.aload_n g dX11_grows_100 rfl rfl ?_
                      refine J.iload_n g dX11_grows_101 rfl rfl ?_
                      refine J.iload g dX11_grows_102 rfl ?_
                      refine J.callV0 g (c_X11_shifted l γ _ _ _ _ _ _ _ _ _ _ _ _ _ _ _ _ _ _ _ _ _ _ _ _ _ _ _ _ _ _ _ _ _ _ _ _ _ _ _ _ _ _ hw (by omega) (by omega)) jy_X11_shifted lm_X11_262 (q0 := 0) rfl jX11.1 ⟨⟨(by dsimp only; omega), (by dsimp only; omega)⟩, (by dsimp only; omega), (by dsimp only; omega)⟩ (Nat.le_of_ble_eq_true rfl) rfl [0, 1] rfl rfl dX11_grows_104 ?_
                      intro _ _
                      dsimp only [jpush]
                      refine J.ior' g dX11_grows_107 (j_or _ _) ?_
                      refine J.iconstN g 1 dX11_grows_108 ?_
                      refine J.iload g dX11_grows_109 rfl ?_
                      refine J.ishl' g dX11_grows_111 (j_shl1 (by omega)) ?_
                      refine J.ior' g dX11_grows_112 (j_or _ _) ?_
                      rw [mgr_or (a := sm)]
                      rw [mgr_or (a := sm)] at hcd
                      have hlen : (L ++ [i]).length = L.length + 1 := by rw [List.length_append]; rfl
                      refine J.callV g (hlen ▸ ih mo mta mtd msz mto mfr mso mnu mfa mpl mro mnw mrd mkp msn mbf mlv mik msm msu mbe mfe mmy mof msf mlr mty mfm mrn mrb mtb mth mfw mse mwd cd n f w _ _ (L ++ [i]) T1 i _ hw h12 (by rw [hlen]; omega) (mrow_app h1) h2 h3 (Nat.or_lt_two_pow (Nat.or_lt_two_pow hsm (jbit_lt (by omega))) (jmoved_lt hT _ _ _)) (by omega) (by rw [hlen]; omega)) jy_X11_grows lm_X11_265 (q0 := 0) rfl jX11.1 ⟨⟨(by dsimp only; omega), (by dsimp only; omega)⟩, (by dsimp only; omega), (by dsimp only; omega)⟩ (Nat.le_of_ble_eq_true rfl) rfl [0, 1, 2, 3, 4] rfl (fun _ => rfl) rfl dX11_grows_113 ?_
                      intro u_113 h_113
                      dsimp only [jput, List.set_cons_zero, List.set_cons_succ, Option.toList, List.append, List.cons_append, List.nil_append, List.append_nil]
                      have hmi : max i 1 = i := Nat.max_eq_left (by omega)
                      rw [hmi] at h_113 ⊢
                      obtain ⟨T2, hT2⟩ : ∃ z, z = mgr (god cd) (jmf cd) (jaf cd) dd (L ++ [i]) i ((sm ||| 1 <<< i) ||| jmoved (god cd) (jmf cd) sm i (god cd)) T1 := ⟨_, rfl⟩
                      obtain ⟨g2, hg2⟩ : ∃ z, z = u_113.1 := ⟨_, rfl⟩
                      obtain ⟨f2, hf2⟩ : ∃ z, z = u_113.2 := ⟨_, rfl⟩
                      rw [← hT2] at h_113 ⊢
                      have hn1 : mrow L g2 := by rw [hg2]; exact mrow_pre h_113.1
                      have hn2 : mrow T2.2 f2 := by rw [hf2]; exact h_113.2.1
                      have hn3 : T2.2.length ≤ 12 := h_113.2.2
                      have hn4 : mgr (god cd) (jmf cd) (jaf cd) (dd + 1) L (max fr 1) sm T = mgl (fun g T => if sm.testBit (jop (god cd) (jaf cd) g) then T else mgr (god cd) (jmf cd) (jaf cd) dd (L ++ [g]) g ((sm ||| 1 <<< g) ||| jmoved (god cd) (jmf cd) sm g (god cd)) T) (god cd - max (i + 1) 1) (max (i + 1) 1) T2 := by rw [hr, hmi, show max (i + 1) 1 = i + 1 from Nat.max_eq_left (by omega), mgl_s (by omega), hT2]; show mgl _ _ _ (if sm.testBit (gN cd i) then T1 else _) = _; rw [if_neg (by rw [c_79]; decide)]
                      rw [← hg2, ← hf2]
                      refine J.iincN g 1 dX11_grows_116 rfl rfl ?_
                      try dsimp only [List.set_cons_zero, List.set_cons_succ]
                      refine J.goto g dX11_grows_119 (tgt := 55) (by decide) ?_
                      exact J.lvle (jle_s (jle_s (jle_s (jle_s (jle_s jle_0))))) (ih_lp2 (i + 1) T2 g2 f2 (by omega) (by omega) hn1 hn2 hn3 hn4)
                    · obtain ⟨T2, hT2⟩ : ∃ z, z = T1 := ⟨_, rfl⟩
                      obtain ⟨g2, hg2⟩ : ∃ z, z = g1 := ⟨_, rfl⟩
                      obtain ⟨f2, hf2⟩ : ∃ z, z = f1 := ⟨_, rfl⟩
                      have hn1 : mrow L g2 := hg2 ▸ h1
                      have hn2 : mrow T2.2 f2 := by rw [hT2, hf2]; exact h2
                      have hn3 : T2.2.length ≤ 12 := hT2 ▸ h3
                      have hn4 : mgr (god cd) (jmf cd) (jaf cd) (dd + 1) L (max fr 1) sm T = mgl (fun g T => if sm.testBit (jop (god cd) (jaf cd) g) then T else mgr (god cd) (jmf cd) (jaf cd) dd (L ++ [g]) g ((sm ||| 1 <<< g) ||| jmoved (god cd) (jmf cd) sm g (god cd)) T) (god cd - max (i + 1) 1) (max (i + 1) 1) T2 := by rw [hr, show max i 1 = i from Nat.max_eq_left (by omega), show max (i + 1) 1 = i + 1 from Nat.max_eq_left (by omega), mgl_s (by omega), hT2]; show mgl _ _ _ (if sm.testBit (gN cd i) then T1 else _) = _; rw [if_pos c_79]
                      rw [← hT2, ← hg2, ← hf2]
                      refine J.goto g dX11_grows_82 (tgt := 116) (by decide) ?_
                      refine J.iincN g 1 dX11_grows_116 rfl rfl ?_
                      try dsimp only [List.set_cons_zero, List.set_cons_succ]
                      refine J.goto g dX11_grows_119 (tgt := 55) (by decide) ?_
                      exact J.lvle (jle_s (jle_s (jle_s (jle_s (jle_s jle_0))))) (ih_lp2 (i + 1) T2 g2 f2 (by omega) (by omega) hn1 hn2 hn3 hn4)
            have ih2 := lp2 _ fr (mstep L T) rn ff0 (Nat.lt_succ_self _) (by omega) hg hs2 hs3 rfl
            rw [hms] at ih2
            exact J.lvle (jle_s (jle_s (jle_s (jle_s (jle_s jle_0))))) ih2
          · refine J.aload_n g dX11_grows_32 rfl rfl ?_
            refine J.get g jX11 31 (by decide) lf_X11_137 0 rfl rfl dX11_grows_33 ?_
            refine J.iload g dX11_grows_36 rfl ?_
            refine J.aload_n g dX11_grows_38 rfl rfl ?_
            refine J.get g jX11 30 (by decide) lf_X11_134 0 rfl rfl dX11_grows_39 ?_
            refine J.iload g dX11_grows_42 rfl ?_
            refine J.ialdN g 3 rfl (by omega) (by decide) dX11_grows_44 ?_
            refine J.iastN g 4 rfl (by omega) (by decide) dX11_grows_45 ?_
            try dsimp only [List.set_cons_zero, List.set_cons_succ]
            refine J.iincN g 1 dX11_grows_46 rfl rfl ?_
            try dsimp only [List.set_cons_zero, List.set_cons_succ]
            refine J.goto g dX11_grows_49 (tgt := 26) (by decide) ?_
            exact J.lvle (jle_s (jle_s (jle_s (jle_s (jle_s jle_0))))) (ih_lc (k + 1) _ (by omega) (by omega) (lt_s (fun j hj => (up_ne (by omega)).trans (hR j hj)) up_at))
      exact J.lvle (jle_s (jle_s (jle_s (jle_s (jle_s jle_0))))) (lc _ 0 rb (Nat.lt_succ_self _) (Nat.zero_le _) (fun j h => absurd h (Nat.not_lt_zero _)))
set_option maxHeartbeats 4000000 in
set_option maxRecDepth 100000 in
theorem c_X11_laysFree_yes (l : Launch) (γ : jγ) (mo mta mtd msz mto mfr mso mnu mfa mpl mro mnw mrd mkp msn mbf mlv mik msm msu mbe mfe mmy mof msf mlr mty mfm mrn mrb mln mtb : Nat) (mth mfw mse : Int32) (mwd : Int64) (cd n : Nat) (f w : Nat → Nat) (C rn rb : Nat → Nat) (hw : mIs cd n f w) (ho : 1 ≤ god cd ∧ god cd ≤ 12) : jM (S := (Nat → Nat) × (Nat → Nat) × (Nat → Nat)) l γ yX11_laysFree cX11_laysFree 2 (some .boolean) ({ frames := 40, cells := 0, slots := 0, locals := 1000 } : Room) [.ref mo] [(mo, .inr (11, [.int mth, .ref mta, .int (nI mtd), .int (nI msz), .int (nI mto), .int (nI mfr), .int (nI mso), .int (nI mnu), .int (nI mfa), .int mfw, .int (nI mpl), .int (nI mro), .long mwd, .ref mnw, .ref mrd, .ref mkp, .ref msn, .ref mbf, .ref mlv, .ref mik, .int (nI msm), .ref msu, .ref mbe, .ref mfe, .ref mmy, .ref mof, .ref msf, .ref mlr, .ref mty, .ref mfm, .ref mrn, .ref mrb, .int (nI mln), .ref mtb, .int mse])), (mnw, .inl (γ.2 0, 17, .inl (fun j => nI (w j)))), (mfm, .inl (γ.2 0, 13, .inl (fun j => nI (C j)))), (mrn, .inl (γ.2 0, 13, .inl (fun j => nI (rn j)))), (mrb, .inl (γ.2 0, 13, .inl (fun j => nI (rb j))))] (fun u => some (.int (jB true))) (fun u => [(mo, .inr (11, [.int mth, .ref mta, .int (nI mtd), .int (nI msz), .int (nI mto), .int (nI mfr), .int (nI mso), .int (nI mnu), .int (nI mfa), .int mfw, .int (nI mpl), .int (nI mro), .long mwd, .ref mnw, .ref mrd, .ref mkp, .ref msn, .ref mbf, .ref mlv, .ref mik, .int (nI msm), .ref msu, .ref mbe, .ref mfe, .ref mmy, .ref mof, .ref msf, .ref mlr, .ref mty, .ref mfm, .ref mrn, .ref mrb, .int (nI ((mT cd).2.length)), .ref mtb, .int mse])), (mnw, .inl (γ.2 0, 17, .inl (fun j => nI (w j)))), (mfm, .inl (γ.2 0, 13, .inl (fun j => nI (u.1 j)))), (mrn, .inl (γ.2 0, 13, .inl (fun j => nI (u.2.1 j)))), (mrb, .inl (γ.2 0, 13, .inl (fun j => nI (u.2.2 j))))]) (fun u => (∀ k, k < 13 → u.1 k = (mT cd).1 k) ∧ mrow (mT cd).2 u.2.2 ∧ (mT cd).2.length ≤ 12) := by
  refine jM.of [some (.ref mo), none] rfl (Nat.le_of_ble_eq_true rfl) (by decide) ?_
  intro x g hE hin
  have hwg := hw.g
  have hw5 := hw.2.2.2.2.2.1
  have hwf := hw.2.2.2.2.2.2
  have hw3 := hw.2.2.1
  refine J.aload_n g dX11_laysFree_0 rfl rfl ?_
  refine J.callV0 g (c_X11_order l γ _ _ _ _ _ _ _ _ _ _ _ _ _ _ _ _ _ _ _ _ _ _ _ _ _ _ _ _ _ _ _ _ _ _ _ _ _ _ _ _ hw) jy_X11_order lm_X11_186 (q0 := 0) rfl jX11.1 ⟨⟨Nat.le_of_ble_eq_true rfl, Nat.le_of_ble_eq_true rfl⟩, Nat.le_of_ble_eq_true rfl, Nat.le_of_ble_eq_true rfl⟩ (Nat.le_of_ble_eq_true rfl) rfl [0, 1] rfl rfl dX11_laysFree_1 ?_
  intro _ _
  dsimp only [jpush]
  refine J.iconstN g 1 dX11_laysFree_4 ?_
  refine J.bipush (v := nI 12) g dX11_laysFree_5 (by decide +kernel) ?_
  refine J.callS0 g (c_X11_isIn l γ _ _ _ ) jy_X11_isIn lm_X11_157 ⟨⟨Nat.le_of_ble_eq_true rfl, Nat.le_of_ble_eq_true rfl⟩, Nat.le_of_ble_eq_true rfl, Nat.le_of_ble_eq_true rfl⟩ (Nat.le_of_ble_eq_true rfl) rfl [] rfl rfl dX11_laysFree_7 ?_
  intro _ _
  dsimp only [jpush]
  refine J.if_neB g dX11_laysFree_10 (tgt := 15) (by decide) (fun c_10 => ?_) (fun c_10 => absurd c_10 (by rw [mIn_nn (by omega) (by omega) (by omega), decide_eq_true (by omega)] at c_10; cases c_10))
  refine J.iconstN g 0 dX11_laysFree_15 ?_
  refine J.istore_n g dX11_laysFree_16 rfl rfl rfl ?_
  try dsimp only [List.set_cons_zero, List.set_cons_succ]
  have lp : ∀ (d : Nat) (k : Nat) (C1 : Nat → Nat), 13 - k < d → (k ≤ 13) → (∀ j, j < k → C1 j = 0) → J γ l x [(mo, .inr (11, [.int mth, .ref mta, .int (nI mtd), .int (nI msz), .int (nI mto), .int (nI mfr), .int (nI mso), .int (nI mnu), .int (nI mfa), .int mfw, .int (nI mpl), .int (nI mro), .long mwd, .ref mnw, .ref mrd, .ref mkp, .ref msn, .ref mbf, .ref mlv, .ref mik, .int (nI msm), .ref msu, .ref mbe, .ref mfe, .ref mmy, .ref mof, .ref msf, .ref mlr, .ref mty, .ref mfm, .ref mrn, .ref mrb, .int (nI mln), .ref mtb, .int mse])), (mnw, .inl (γ.2 0, 17, .inl (fun j => nI (w j)))), (mfm, .inl (γ.2 0, 13, .inl (fun j => nI (C1 j)))), (mrn, .inl (γ.2 0, 13, .inl (fun j => nI (rn j)))), (mrb, .inl (γ.2 0, 13, .inl (fun j => nI (rb j))))] [some (.ref mo), some (.int (nI k))] [] 0 0 17 := by
    intro d
    induction d with
    | zero => intro k C1 hm; exact absurd hm (Nat.not_lt_zero _)
    | succ d ih_lp =>
      intro k C1 hm hk hC
      refine J.iload_n g dX11_laysFree_17 rfl rfl ?_
      refine J.bipush (v := nI 13) g dX11_laysFree_18 (by decide +kernel) ?_
      refine J.icmp_geN g dX11_laysFree_20 (tgt := 36) (by decide) (by omega) (by omega) (fun c_20 => ?_) (fun c_20 => ?_)
      · refine J.aload_n g dX11_laysFree_36 rfl rfl ?_
        refine J.iconstN g 0 dX11_laysFree_37 ?_
        refine J.put g jX11 32 (by decide) lf_X11_259 0 rfl rfl (Nat.le_of_ble_eq_true rfl) rfl rfl dX11_laysFree_38 ?_
        try dsimp only [List.set_cons_zero, List.set_cons_succ]
        refine J.aload_n g dX11_laysFree_41 rfl rfl ?_
        refine J.iconstN g 0 dX11_laysFree_42 ?_
        refine J.iconstN g 0 dX11_laysFree_43 ?_
        refine J.iconstN g 0 dX11_laysFree_44 ?_
        refine J.callV g (c_X11_grows l γ 12 mo mta mtd msz mto mfr mso mnu mfa mpl mro mnw mrd mkp msn mbf mlv mik msm msu mbe mfe mmy mof msf mlr mty mfm mrn mrb mtb mth mfw mse mwd cd n f w rn rb [] (C1, []) 0 0 hw ho.2 rfl (fun k hk => absurd hk (Nat.not_lt_zero _)) (fun k hk => absurd hk (Nat.not_lt_zero _)) (Nat.zero_le _) (by decide) (by decide) (jpc_pos (k := 0) (by decide) (god cd) (by omega))) jy_X11_grows lm_X11_265 (q0 := 0) rfl jX11.1 ⟨⟨Nat.le_of_ble_eq_true rfl, Nat.le_of_ble_eq_true rfl⟩, Nat.le_of_ble_eq_true rfl, Nat.le_of_ble_eq_true rfl⟩ (Nat.le_of_ble_eq_true rfl) rfl [0, 1, 2, 3, 4] rfl (fun _ => rfl) rfl dX11_laysFree_45 ?_
        intro u_45 h_45
        dsimp only [jput, List.set_cons_zero, List.set_cons_succ, Option.toList, List.append, List.cons_append, List.nil_append, List.append_nil]
        have hag := mT_ag (cd := cd) (C := C1) (fun k hk => hC k (by omega))
        have hl2 : (mgr (god cd) (jmf cd) (jaf cd) 12 [] (max 0 1) 0 (C1, [])).2 = (mT cd).2 := hag.2
        rw [hl2] at h_45 ⊢
        refine J.iconstN g 1 dX11_laysFree_48 ?_
        exact J.zret (by first | rfl | exact j_nz _) g hE (_, u_45.1, u_45.2) (jB_t (by rfl)) ⟨hag.1, h_45.2.1, h_45.2.2⟩ rfl ⟨Nat.le_of_ble_eq_true rfl, Nat.le_of_ble_eq_true rfl⟩ dX11_laysFree_49
      · refine J.aload_n g dX11_laysFree_23 rfl rfl ?_
        refine J.get g jX11 29 (by decide) lf_X11_131 0 rfl rfl dX11_laysFree_24 ?_
        refine J.iload_n g dX11_laysFree_27 rfl rfl ?_
        refine J.iconstN g 0 dX11_laysFree_28 ?_
        refine J.iastN g 2 rfl (by omega) (by decide) dX11_laysFree_29 ?_
        try dsimp only [List.set_cons_zero, List.set_cons_succ]
        refine J.iincN g 1 dX11_laysFree_30 rfl rfl ?_
        try dsimp only [List.set_cons_zero, List.set_cons_succ]
        refine J.goto g dX11_laysFree_33 (tgt := 17) (by decide) ?_
        exact J.lvle (jle_s (jle_s jle_0)) (ih_lp (k + 1) _ (by omega) (by omega) (up_lt (P := fun _ v => v = 0) hC rfl))
  exact J.lvle (jle_s (jle_s jle_0)) (lp _ 0 C (Nat.lt_succ_self _) (Nat.zero_le _) (fun j h => absurd h (Nat.not_lt_zero _)))
set_option maxHeartbeats 4000000 in
set_option maxRecDepth 100000 in
theorem c_X11_laysFree_no (l : Launch) (γ : jγ) (mo mta mtd msz mto mfr mso mnu mfa mpl mro mnw mrd mkp msn mbf mlv mik msm msu mbe mfe mmy mof msf mlr mty mfm mrn mrb mln mtb : Nat) (mth mfw mse : Int32) (mwd : Int64) (cd n : Nat) (f w : Nat → Nat) (hw : mIs cd n f w) (ho : ¬ (1 ≤ god cd ∧ god cd ≤ 12)) : jM (S := Unit) l γ yX11_laysFree cX11_laysFree 2 (some .boolean) ({ frames := 31, cells := 0, slots := 0, locals := 724 } : Room) [.ref mo] [(mo, .inr (11, [.int mth, .ref mta, .int (nI mtd), .int (nI msz), .int (nI mto), .int (nI mfr), .int (nI mso), .int (nI mnu), .int (nI mfa), .int mfw, .int (nI mpl), .int (nI mro), .long mwd, .ref mnw, .ref mrd, .ref mkp, .ref msn, .ref mbf, .ref mlv, .ref mik, .int (nI msm), .ref msu, .ref mbe, .ref mfe, .ref mmy, .ref mof, .ref msf, .ref mlr, .ref mty, .ref mfm, .ref mrn, .ref mrb, .int (nI mln), .ref mtb, .int mse])), (mnw, .inl (γ.2 0, 17, .inl (fun j => nI (w j))))] (fun w0 => some (.int (jB false))) (fun w0 => [(mo, .inr (11, [.int mth, .ref mta, .int (nI mtd), .int (nI msz), .int (nI mto), .int (nI mfr), .int (nI mso), .int (nI mnu), .int (nI mfa), .int mfw, .int (nI mpl), .int (nI mro), .long mwd, .ref mnw, .ref mrd, .ref mkp, .ref msn, .ref mbf, .ref mlv, .ref mik, .int (nI msm), .ref msu, .ref mbe, .ref mfe, .ref mmy, .ref mof, .ref msf, .ref mlr, .ref mty, .ref mfm, .ref mrn, .ref mrb, .int (nI mln), .ref mtb, .int mse])), (mnw, .inl (γ.2 0, 17, .inl (fun j => nI (w j))))]) (fun w0 => True) := by
  refine jM.of [some (.ref mo), none] rfl (Nat.le_of_ble_eq_true rfl) (by decide) ?_
  intro x g hE hin
  have hwg := hw.g
  have hw5 := hw.2.2.2.2.2.1
  have hwf := hw.2.2.2.2.2.2
  have hw3 := hw.2.2.1
  refine J.aload_n g dX11_laysFree_0 rfl rfl ?_
  refine J.callV0 g (c_X11_order l γ _ _ _ _ _ _ _ _ _ _ _ _ _ _ _ _ _ _ _ _ _ _ _ _ _ _ _ _ _ _ _ _ _ _ _ _ _ _ _ _ hw) jy_X11_order lm_X11_186 (q0 := 0) rfl jX11.1 ⟨⟨Nat.le_of_ble_eq_true rfl, Nat.le_of_ble_eq_true rfl⟩, Nat.le_of_ble_eq_true rfl, Nat.le_of_ble_eq_true rfl⟩ (Nat.le_of_ble_eq_true rfl) rfl [0, 1] rfl rfl dX11_laysFree_1 ?_
  intro _ _
  dsimp only [jpush]
  refine J.iconstN g 1 dX11_laysFree_4 ?_
  refine J.bipush (v := nI 12) g dX11_laysFree_5 (by decide +kernel) ?_
  refine J.callS0 g (c_X11_isIn l γ _ _ _ ) jy_X11_isIn lm_X11_157 ⟨⟨Nat.le_of_ble_eq_true rfl, Nat.le_of_ble_eq_true rfl⟩, Nat.le_of_ble_eq_true rfl, Nat.le_of_ble_eq_true rfl⟩ (Nat.le_of_ble_eq_true rfl) rfl [] rfl rfl dX11_laysFree_7 ?_
  intro _ _
  dsimp only [jpush]
  refine J.if_neB g dX11_laysFree_10 (tgt := 15) (by decide) (fun c_10 => absurd c_10 (by rw [mIn_nn (by omega) (by omega) (by omega), decide_eq_false ho] at c_10; cases c_10)) (fun c_10 => ?_)
  refine J.iconstN g 0 dX11_laysFree_13 ?_
  exact J.zret (by first | rfl | exact j_nz _) g hE () (jB_f (by rfl)) trivial rfl ⟨Nat.le_of_ble_eq_true rfl, Nat.le_of_ble_eq_true rfl⟩ dX11_laysFree_14
set_option maxHeartbeats 4000000 in
set_option maxRecDepth 100000 in
theorem c_X11_frees_yes (l : Launch) (γ : jγ) (mo mta mtd msz mto mfr mso mnu mfa mpl mro mnw mrd mkp msn mbf mlv mik msm msu mbe mfe mmy mof msf mlr mty mfm mrn mrb mln mtb : Nat) (mth mfw mse : Int32) (mwd : Int64) (cd n : Nat) (f w : Nat → Nat) (C rn rb : Nat → Nat) (k : Nat) (hw : mIs cd n f w) (ho : 1 ≤ god cd ∧ god cd ≤ 12) (hk : k ≤ 12) : jM (S := (Nat → Nat) × (Nat → Nat) × (Nat → Nat)) l γ yX11_frees cX11_frees 2 (some .int) ({ frames := 41, cells := 0, slots := 0, locals := 1021 } : Room) [.ref mo, .int (nI k)] [(mo, .inr (11, [.int mth, .ref mta, .int (nI mtd), .int (nI msz), .int (nI mto), .int (nI mfr), .int (nI mso), .int (nI mnu), .int (nI mfa), .int mfw, .int (nI mpl), .int (nI mro), .long mwd, .ref mnw, .ref mrd, .ref mkp, .ref msn, .ref mbf, .ref mlv, .ref mik, .int (nI msm), .ref msu, .ref mbe, .ref mfe, .ref mmy, .ref mof, .ref msf, .ref mlr, .ref mty, .ref mfm, .ref mrn, .ref mrb, .int (nI mln), .ref mtb, .int mse])), (mnw, .inl (γ.2 0, 17, .inl (fun j => nI (w j)))), (mfm, .inl (γ.2 0, 13, .inl (fun j => nI (C j)))), (mrn, .inl (γ.2 0, 13, .inl (fun j => nI (rn j)))), (mrb, .inl (γ.2 0, 13, .inl (fun j => nI (rb j))))] (fun u => some (.int (nI ((mT cd).1 k)))) (fun u => [(mo, .inr (11, [.int (nI 0), .ref mta, .int (nI mtd), .int (nI msz), .int (nI mto), .int (nI mfr), .int (nI mso), .int (nI mnu), .int (nI mfa), .int mfw, .int (nI mpl), .int (nI mro), .long mwd, .ref mnw, .ref mrd, .ref mkp, .ref msn, .ref mbf, .ref mlv, .ref mik, .int (nI msm), .ref msu, .ref mbe, .ref mfe, .ref mmy, .ref mof, .ref msf, .ref mlr, .ref mty, .ref mfm, .ref mrn, .ref mrb, .int (nI ((mT cd).2.length)), .ref mtb, .int mse])), (mnw, .inl (γ.2 0, 17, .inl (fun j => nI (w j)))), (mfm, .inl (γ.2 0, 13, .inl (fun j => nI (u.1 j)))), (mrn, .inl (γ.2 0, 13, .inl (fun j => nI (u.2.1 j)))), (mrb, .inl (γ.2 0, 13, .inl (fun j => nI (u.2.2 j))))]) (fun u => True) := by
  refine jM.of [some (.ref mo), some (.int (nI k))] rfl (Nat.le_of_ble_eq_true rfl) (by decide) ?_
  intro x g hE hin
  have hwg := hw.g
  have hw5 := hw.2.2.2.2.2.1
  have hwf := hw.2.2.2.2.2.2
  have hw3 := hw.2.2.1
  refine J.aload_n g dX11_frees_0 rfl rfl ?_
  refine J.iconstN g 0 dX11_frees_1 ?_
  refine J.put g jX11 0 (by decide) lf_X11_1 0 rfl rfl (Nat.le_of_ble_eq_true rfl) rfl rfl dX11_frees_2 ?_
  try dsimp only [List.set_cons_zero, List.set_cons_succ]
  refine J.iload_n g dX11_frees_5 rfl rfl ?_
  refine J.iconstN g 0 dX11_frees_6 ?_
  refine J.bipush (v := nI 12) g dX11_frees_7 (by decide +kernel) ?_
  refine J.callS0 g (c_X11_isIn l γ _ _ _ ) jy_X11_isIn lm_X11_157 ⟨⟨Nat.le_of_ble_eq_true rfl, Nat.le_of_ble_eq_true rfl⟩, Nat.le_of_ble_eq_true rfl, Nat.le_of_ble_eq_true rfl⟩ (Nat.le_of_ble_eq_true rfl) rfl [] rfl rfl dX11_frees_9 ?_
  intro _ _
  dsimp only [jpush]
  refine J.if_eqB g dX11_frees_12 (tgt := 31) (by decide) (fun c_12 => absurd c_12 (by rw [mIn_nn (by omega) (by omega) (by omega), decide_eq_true (by omega)] at c_12; cases c_12)) (fun c_12 => ?_)
  refine J.aload_n g dX11_frees_15 rfl rfl ?_
  refine J.callV g (c_X11_laysFree_yes l γ _ _ _ _ _ _ _ _ _ _ _ _ _ _ _ _ _ _ _ _ _ _ _ _ _ _ _ _ _ _ _ _ _ _ _ _ _ _ _ _ _ _ _ hw ho) jy_X11_laysFree lm_X11_269 (q0 := 0) rfl jX11.1 ⟨⟨Nat.le_of_ble_eq_true rfl, Nat.le_of_ble_eq_true rfl⟩, Nat.le_of_ble_eq_true rfl, Nat.le_of_ble_eq_true rfl⟩ (Nat.le_of_ble_eq_true rfl) rfl [0, 1, 2, 3, 4] rfl (fun _ => rfl) rfl dX11_frees_16 ?_
  intro u_16 h_16
  dsimp only [jput, List.set_cons_zero, List.set_cons_succ, Option.toList, List.append, List.cons_append, List.nil_append, List.append_nil]
  refine J.if_eqB g dX11_frees_19 (tgt := 31) (by decide) (fun c_19 => absurd c_19 (by simp at c_19)) (fun c_19 => ?_)
  refine J.aload_n g dX11_frees_22 rfl rfl ?_
  refine J.get g jX11 29 (by decide) lf_X11_131 0 rfl rfl dX11_frees_23 ?_
  refine J.iload_n g dX11_frees_26 rfl rfl ?_
  refine J.ialdN g 2 rfl (by omega) (by decide) dX11_frees_27 ?_
  refine J.goto g dX11_frees_28 (tgt := 32) (by decide) ?_
  exact J.iret g hE u_16 (by rw [h_16.1 k (by omega)]) trivial rfl ⟨Nat.le_of_ble_eq_true rfl, Nat.le_of_ble_eq_true rfl⟩ dX11_frees_32
set_option maxHeartbeats 4000000 in
set_option maxRecDepth 100000 in
theorem c_X11_frees_no (l : Launch) (γ : jγ) (mo mta mtd msz mto mfr mso mnu mfa mpl mro mnw mrd mkp msn mbf mlv mik msm msu mbe mfe mmy mof msf mlr mty mfm mrn mrb mln mtb : Nat) (mth mfw mse : Int32) (mwd : Int64) (cd n : Nat) (f w : Nat → Nat) (a : Int32) (hw : mIs cd n f w) (hi : jhas a 13 = false ∨ ¬ (1 ≤ god cd ∧ god cd ≤ 12)) : jM (S := Unit) l γ yX11_frees cX11_frees 2 (some .int) ({ frames := 41, cells := 0, slots := 0, locals := 1021 } : Room) [.ref mo, .int a] [(mo, .inr (11, [.int mth, .ref mta, .int (nI mtd), .int (nI msz), .int (nI mto), .int (nI mfr), .int (nI mso), .int (nI mnu), .int (nI mfa), .int mfw, .int (nI mpl), .int (nI mro), .long mwd, .ref mnw, .ref mrd, .ref mkp, .ref msn, .ref mbf, .ref mlv, .ref mik, .int (nI msm), .ref msu, .ref mbe, .ref mfe, .ref mmy, .ref mof, .ref msf, .ref mlr, .ref mty, .ref mfm, .ref mrn, .ref mrb, .int (nI mln), .ref mtb, .int mse])), (mnw, .inl (γ.2 0, 17, .inl (fun j => nI (w j))))] (fun w0 => some (.int (-1))) (fun w0 => [(mo, .inr (11, [.int (nI 0), .ref mta, .int (nI mtd), .int (nI msz), .int (nI mto), .int (nI mfr), .int (nI mso), .int (nI mnu), .int (nI mfa), .int mfw, .int (nI mpl), .int (nI mro), .long mwd, .ref mnw, .ref mrd, .ref mkp, .ref msn, .ref mbf, .ref mlv, .ref mik, .int (nI msm), .ref msu, .ref mbe, .ref mfe, .ref mmy, .ref mof, .ref msf, .ref mlr, .ref mty, .ref mfm, .ref mrn, .ref mrb, .int (nI mln), .ref mtb, .int mse])), (mnw, .inl (γ.2 0, 17, .inl (fun j => nI (w j))))]) (fun w0 => True) := by
  refine jM.of [some (.ref mo), some (.int a)] rfl (Nat.le_of_ble_eq_true rfl) (by decide) ?_
  intro x g hE hin
  have hwg := hw.g
  have hw5 := hw.2.2.2.2.2.1
  have hwf := hw.2.2.2.2.2.2
  have hw3 := hw.2.2.1
  rw [← mIn_le (v := a) (k := 12) (by omega)] at hi
  refine J.aload_n g dX11_frees_0 rfl rfl ?_
  refine J.iconstN g 0 dX11_frees_1 ?_
  refine J.put g jX11 0 (by decide) lf_X11_1 0 rfl rfl (Nat.le_of_ble_eq_true rfl) rfl rfl dX11_frees_2 ?_
  try dsimp only [List.set_cons_zero, List.set_cons_succ]
  refine J.iload_n g dX11_frees_5 rfl rfl ?_
  refine J.iconstN g 0 dX11_frees_6 ?_
  refine J.bipush (v := nI 12) g dX11_frees_7 (by decide +kernel) ?_
  refine J.callS0 g (c_X11_isIn l γ _ _ _ ) jy_X11_isIn lm_X11_157 ⟨⟨Nat.le_of_ble_eq_true rfl, Nat.le_of_ble_eq_true rfl⟩, Nat.le_of_ble_eq_true rfl, Nat.le_of_ble_eq_true rfl⟩ (Nat.le_of_ble_eq_true rfl) rfl [] rfl rfl dX11_frees_9 ?_
  intro _ _
  dsimp only [jpush]
  refine J.if_eqB g dX11_frees_12 (tgt := 31) (by decide) (fun c_12 => ?_) (fun c_12 => ?_)
  · refine J.iconst (v := -1) g dX11_frees_31 (by decide) ?_
    exact J.iret g hE () rfl trivial rfl ⟨Nat.le_of_ble_eq_true rfl, Nat.le_of_ble_eq_true rfl⟩ dX11_frees_32
  · refine J.aload_n g dX11_frees_15 rfl rfl ?_
    refine J.callV0 g (c_X11_laysFree_no l γ _ _ _ _ _ _ _ _ _ _ _ _ _ _ _ _ _ _ _ _ _ _ _ _ _ _ _ _ _ _ _ _ _ _ _ _ _ _ _ _ hw (hi.elim (fun z => by rw [z] at c_12; cases c_12) id)) jy_X11_laysFree lm_X11_269 (q0 := 0) rfl jX11.1 ⟨⟨Nat.le_of_ble_eq_true rfl, Nat.le_of_ble_eq_true rfl⟩, Nat.le_of_ble_eq_true rfl, Nat.le_of_ble_eq_true rfl⟩ (Nat.le_of_ble_eq_true rfl) rfl [0, 1] rfl rfl dX11_frees_16 ?_
    intro _ _
    dsimp only [jpush]
    refine J.if_eqB g dX11_frees_19 (tgt := 31) (by decide) (fun c_19 => ?_) (fun c_19 => absurd c_19 (by simp at c_19))
    refine J.iconst (v := -1) g dX11_frees_31 (by decide) ?_
    exact J.iret g hE () rfl trivial rfl ⟨Nat.le_of_ble_eq_true rfl, Nat.le_of_ble_eq_true rfl⟩ dX11_frees_32
set_option maxHeartbeats 4000000 in
set_option maxRecDepth 100000 in
theorem c_X11_longest_yes (l : Launch) (γ : jγ) (mo mta mtd msz mto mfr mso mnu mfa mpl mro mnw mrd mkp msn mbf mlv mik msm msu mbe mfe mmy mof msf mlr mty mfm mrn mrb mln mtb : Nat) (mth mfw mse : Int32) (mwd : Int64) (cd n : Nat) (f w : Nat → Nat) (C rn rb : Nat → Nat) (hw : mIs cd n f w) (ho : 1 ≤ god cd ∧ god cd ≤ 12) : jM (S := (Nat → Nat) × (Nat → Nat) × (Nat → Nat)) l γ yX11_longest cX11_longest 1 (some .int) ({ frames := 41, cells := 0, slots := 0, locals := 1021 } : Room) [.ref mo] [(mo, .inr (11, [.int mth, .ref mta, .int (nI mtd), .int (nI msz), .int (nI mto), .int (nI mfr), .int (nI mso), .int (nI mnu), .int (nI mfa), .int mfw, .int (nI mpl), .int (nI mro), .long mwd, .ref mnw, .ref mrd, .ref mkp, .ref msn, .ref mbf, .ref mlv, .ref mik, .int (nI msm), .ref msu, .ref mbe, .ref mfe, .ref mmy, .ref mof, .ref msf, .ref mlr, .ref mty, .ref mfm, .ref mrn, .ref mrb, .int (nI mln), .ref mtb, .int mse])), (mnw, .inl (γ.2 0, 17, .inl (fun j => nI (w j)))), (mfm, .inl (γ.2 0, 13, .inl (fun j => nI (C j)))), (mrn, .inl (γ.2 0, 13, .inl (fun j => nI (rn j)))), (mrb, .inl (γ.2 0, 13, .inl (fun j => nI (rb j))))] (fun u => some (.int (nI ((mT cd).2.length)))) (fun u => [(mo, .inr (11, [.int (nI 0), .ref mta, .int (nI mtd), .int (nI msz), .int (nI mto), .int (nI mfr), .int (nI mso), .int (nI mnu), .int (nI mfa), .int mfw, .int (nI mpl), .int (nI mro), .long mwd, .ref mnw, .ref mrd, .ref mkp, .ref msn, .ref mbf, .ref mlv, .ref mik, .int (nI msm), .ref msu, .ref mbe, .ref mfe, .ref mmy, .ref mof, .ref msf, .ref mlr, .ref mty, .ref mfm, .ref mrn, .ref mrb, .int (nI ((mT cd).2.length)), .ref mtb, .int mse])), (mnw, .inl (γ.2 0, 17, .inl (fun j => nI (w j)))), (mfm, .inl (γ.2 0, 13, .inl (fun j => nI (u.1 j)))), (mrn, .inl (γ.2 0, 13, .inl (fun j => nI (u.2.1 j)))), (mrb, .inl (γ.2 0, 13, .inl (fun j => nI (u.2.2 j))))]) (fun u => True) := by
  refine jM.of [some (.ref mo)] rfl (Nat.le_of_ble_eq_true rfl) (by decide) ?_
  intro x g hE hin
  have hwg := hw.g
  have hw5 := hw.2.2.2.2.2.1
  have hwf := hw.2.2.2.2.2.2
  have hw3 := hw.2.2.1
  refine J.aload_n g dX11_longest_0 rfl rfl ?_
  refine J.iconstN g 0 dX11_longest_1 ?_
  refine J.put g jX11 0 (by decide) lf_X11_1 0 rfl rfl (Nat.le_of_ble_eq_true rfl) rfl rfl dX11_longest_2 ?_
  try dsimp only [List.set_cons_zero, List.set_cons_succ]
  refine J.aload_n g dX11_longest_5 rfl rfl ?_
  refine J.callV g (c_X11_laysFree_yes l γ _ _ _ _ _ _ _ _ _ _ _ _ _ _ _ _ _ _ _ _ _ _ _ _ _ _ _ _ _ _ _ _ _ _ _ _ _ _ _ _ _ _ _ hw ho) jy_X11_laysFree lm_X11_269 (q0 := 0) rfl jX11.1 ⟨⟨Nat.le_of_ble_eq_true rfl, Nat.le_of_ble_eq_true rfl⟩, Nat.le_of_ble_eq_true rfl, Nat.le_of_ble_eq_true rfl⟩ (Nat.le_of_ble_eq_true rfl) rfl [0, 1, 2, 3, 4] rfl (fun _ => rfl) rfl dX11_longest_6 ?_
  intro u_6 h_6
  dsimp only [jput, List.set_cons_zero, List.set_cons_succ, Option.toList, List.append, List.cons_append, List.nil_append, List.append_nil]
  refine J.if_eqB g dX11_longest_9 (tgt := 19) (by decide) (fun c_9 => absurd c_9 (by simp at c_9)) (fun c_9 => ?_)
  refine J.aload_n g dX11_longest_12 rfl rfl ?_
  refine J.get g jX11 32 (by decide) lf_X11_259 0 rfl rfl dX11_longest_13 ?_
  refine J.goto g dX11_longest_16 (tgt := 20) (by decide) ?_
  exact J.iret g hE u_6 rfl trivial rfl ⟨Nat.le_of_ble_eq_true rfl, Nat.le_of_ble_eq_true rfl⟩ dX11_longest_20
set_option maxHeartbeats 4000000 in
set_option maxRecDepth 100000 in
theorem c_X11_longest_no (l : Launch) (γ : jγ) (mo mta mtd msz mto mfr mso mnu mfa mpl mro mnw mrd mkp msn mbf mlv mik msm msu mbe mfe mmy mof msf mlr mty mfm mrn mrb mln mtb : Nat) (mth mfw mse : Int32) (mwd : Int64) (cd n : Nat) (f w : Nat → Nat) (hw : mIs cd n f w) (ho : ¬ (1 ≤ god cd ∧ god cd ≤ 12)) : jM (S := Unit) l γ yX11_longest cX11_longest 1 (some .int) ({ frames := 41, cells := 0, slots := 0, locals := 1021 } : Room) [.ref mo] [(mo, .inr (11, [.int mth, .ref mta, .int (nI mtd), .int (nI msz), .int (nI mto), .int (nI mfr), .int (nI mso), .int (nI mnu), .int (nI mfa), .int mfw, .int (nI mpl), .int (nI mro), .long mwd, .ref mnw, .ref mrd, .ref mkp, .ref msn, .ref mbf, .ref mlv, .ref mik, .int (nI msm), .ref msu, .ref mbe, .ref mfe, .ref mmy, .ref mof, .ref msf, .ref mlr, .ref mty, .ref mfm, .ref mrn, .ref mrb, .int (nI mln), .ref mtb, .int mse])), (mnw, .inl (γ.2 0, 17, .inl (fun j => nI (w j))))] (fun w0 => some (.int (-1))) (fun w0 => [(mo, .inr (11, [.int (nI 0), .ref mta, .int (nI mtd), .int (nI msz), .int (nI mto), .int (nI mfr), .int (nI mso), .int (nI mnu), .int (nI mfa), .int mfw, .int (nI mpl), .int (nI mro), .long mwd, .ref mnw, .ref mrd, .ref mkp, .ref msn, .ref mbf, .ref mlv, .ref mik, .int (nI msm), .ref msu, .ref mbe, .ref mfe, .ref mmy, .ref mof, .ref msf, .ref mlr, .ref mty, .ref mfm, .ref mrn, .ref mrb, .int (nI mln), .ref mtb, .int mse])), (mnw, .inl (γ.2 0, 17, .inl (fun j => nI (w j))))]) (fun w0 => True) := by
  refine jM.of [some (.ref mo)] rfl (Nat.le_of_ble_eq_true rfl) (by decide) ?_
  intro x g hE hin
  have hwg := hw.g
  have hw5 := hw.2.2.2.2.2.1
  have hwf := hw.2.2.2.2.2.2
  have hw3 := hw.2.2.1
  refine J.aload_n g dX11_longest_0 rfl rfl ?_
  refine J.iconstN g 0 dX11_longest_1 ?_
  refine J.put g jX11 0 (by decide) lf_X11_1 0 rfl rfl (Nat.le_of_ble_eq_true rfl) rfl rfl dX11_longest_2 ?_
  try dsimp only [List.set_cons_zero, List.set_cons_succ]
  refine J.aload_n g dX11_longest_5 rfl rfl ?_
  refine J.callV0 g (c_X11_laysFree_no l γ _ _ _ _ _ _ _ _ _ _ _ _ _ _ _ _ _ _ _ _ _ _ _ _ _ _ _ _ _ _ _ _ _ _ _ _ _ _ _ _ hw ho) jy_X11_laysFree lm_X11_269 (q0 := 0) rfl jX11.1 ⟨⟨Nat.le_of_ble_eq_true rfl, Nat.le_of_ble_eq_true rfl⟩, Nat.le_of_ble_eq_true rfl, Nat.le_of_ble_eq_true rfl⟩ (Nat.le_of_ble_eq_true rfl) rfl [0, 1] rfl rfl dX11_longest_6 ?_
  intro _ _
  dsimp only [jpush]
  refine J.if_eqB g dX11_longest_9 (tgt := 19) (by decide) (fun c_9 => ?_) (fun c_9 => absurd c_9 (by simp at c_9))
  refine J.iconst (v := -1) g dX11_longest_19 (by decide) ?_
  exact J.iret g hE () rfl trivial rfl ⟨Nat.le_of_ble_eq_true rfl, Nat.le_of_ble_eq_true rfl⟩ dX11_longest_20
set_option maxHeartbeats 4000000 in
set_option maxRecDepth 100000 in
theorem c_X11_longestAt_yes (l : Launch) (γ : jγ) (mo mta mtd msz mto mfr mso mnu mfa mpl mro mnw mrd mkp msn mbf mlv mik msm msu mbe mfe mmy mof msf mlr mty mfm mrn mrb mln mtb : Nat) (mth mfw mse : Int32) (mwd : Int64) (cd n : Nat) (f w : Nat → Nat) (C rn rb : Nat → Nat) (i : Int32) (hw : mIs cd n f w) (ho : 1 ≤ god cd ∧ god cd ≤ 12) : jM (S := (Nat → Nat) × (Nat → Nat) × (Nat → Nat)) l γ yX11_longestAt cX11_longestAt 2 (some .int) ({ frames := 41, cells := 0, slots := 0, locals := 1021 } : Room) [.ref mo, .int i] [(mo, .inr (11, [.int mth, .ref mta, .int (nI mtd), .int (nI msz), .int (nI mto), .int (nI mfr), .int (nI mso), .int (nI mnu), .int (nI mfa), .int mfw, .int (nI mpl), .int (nI mro), .long mwd, .ref mnw, .ref mrd, .ref mkp, .ref msn, .ref mbf, .ref mlv, .ref mik, .int (nI msm), .ref msu, .ref mbe, .ref mfe, .ref mmy, .ref mof, .ref msf, .ref mlr, .ref mty, .ref mfm, .ref mrn, .ref mrb, .int (nI mln), .ref mtb, .int mse])), (mnw, .inl (γ.2 0, 17, .inl (fun j => nI (w j)))), (mfm, .inl (γ.2 0, 13, .inl (fun j => nI (C j)))), (mrn, .inl (γ.2 0, 13, .inl (fun j => nI (rn j)))), (mrb, .inl (γ.2 0, 13, .inl (fun j => nI (rb j))))] (fun u => some (.int (jat (fun k => (mT cd).2.getD k 0) (mT cd).2.length i))) (fun u => [(mo, .inr (11, [.int (nI 0), .ref mta, .int (nI mtd), .int (nI msz), .int (nI mto), .int (nI mfr), .int (nI mso), .int (nI mnu), .int (nI mfa), .int mfw, .int (nI mpl), .int (nI mro), .long mwd, .ref mnw, .ref mrd, .ref mkp, .ref msn, .ref mbf, .ref mlv, .ref mik, .int (nI msm), .ref msu, .ref mbe, .ref mfe, .ref mmy, .ref mof, .ref msf, .ref mlr, .ref mty, .ref mfm, .ref mrn, .ref mrb, .int (nI ((mT cd).2.length)), .ref mtb, .int mse])), (mnw, .inl (γ.2 0, 17, .inl (fun j => nI (w j)))), (mfm, .inl (γ.2 0, 13, .inl (fun j => nI (u.1 j)))), (mrn, .inl (γ.2 0, 13, .inl (fun j => nI (u.2.1 j)))), (mrb, .inl (γ.2 0, 13, .inl (fun j => nI (u.2.2 j))))]) (fun u => True) := by
  refine jM.of [some (.ref mo), some (.int i)] rfl (Nat.le_of_ble_eq_true rfl) (by decide) ?_
  intro x g hE hin
  have hwg := hw.g
  have hw5 := hw.2.2.2.2.2.1
  have hwf := hw.2.2.2.2.2.2
  have hw3 := hw.2.2.1
  refine J.aload_n g dX11_longestAt_0 rfl rfl ?_
  refine J.iconstN g 0 dX11_longestAt_1 ?_
  refine J.put g jX11 0 (by decide) lf_X11_1 0 rfl rfl (Nat.le_of_ble_eq_true rfl) rfl rfl dX11_longestAt_2 ?_
  try dsimp only [List.set_cons_zero, List.set_cons_succ]
  refine J.aload_n g dX11_longestAt_5 rfl rfl ?_
  refine J.callV g (c_X11_laysFree_yes l γ _ _ _ _ _ _ _ _ _ _ _ _ _ _ _ _ _ _ _ _ _ _ _ _ _ _ _ _ _ _ _ _ _ _ _ _ _ _ _ _ _ _ _ hw ho) jy_X11_laysFree lm_X11_269 (q0 := 0) rfl jX11.1 ⟨⟨Nat.le_of_ble_eq_true rfl, Nat.le_of_ble_eq_true rfl⟩, Nat.le_of_ble_eq_true rfl, Nat.le_of_ble_eq_true rfl⟩ (Nat.le_of_ble_eq_true rfl) rfl [0, 1, 2, 3, 4] rfl (fun _ => rfl) rfl dX11_longestAt_6 ?_
  intro u_6 h_6
  dsimp only [jput, List.set_cons_zero, List.set_cons_succ, Option.toList, List.append, List.cons_append, List.nil_append, List.append_nil]
  refine J.if_eqB g dX11_longestAt_9 (tgt := 35) (by decide) (fun c_9 => absurd c_9 (by simp at c_9)) (fun c_9 => ?_)
  refine J.iload_n g dX11_longestAt_12 rfl rfl ?_
  refine J.iconstN g 0 dX11_longestAt_13 ?_
  refine J.aload_n g dX11_longestAt_14 rfl rfl ?_
  refine J.get g jX11 32 (by decide) lf_X11_259 0 rfl rfl dX11_longestAt_15 ?_
  refine J.iconstN g 1 dX11_longestAt_18 ?_
  refine J.isub' g dX11_longestAt_19 (j_subm _) ?_
  refine J.callS0 g (c_X11_isIn l γ _ _ _ ) jy_X11_isIn lm_X11_157 ⟨⟨Nat.le_of_ble_eq_true rfl, Nat.le_of_ble_eq_true rfl⟩, Nat.le_of_ble_eq_true rfl, Nat.le_of_ble_eq_true rfl⟩ (Nat.le_of_ble_eq_true rfl) rfl [] rfl rfl dX11_longestAt_20 ?_
  intro _ _
  dsimp only [jpush]
  have hmi := mIn_has (v := i) (k := (mT cd).2.length) (by have := h_6.2.2; omega)
  refine J.if_eqB g dX11_longestAt_23 (tgt := 35) (by decide) (fun c_23 => ?_) (fun c_23 => ?_)
  · refine J.iconst (v := -1) g dX11_longestAt_35 (by decide) ?_
    exact J.iret g hE u_6 (by first | rw [jat_f (hmi.symm.trans c_23)] | (rw [jat_t (by rw [jhas_n _ (by have := h_6.2.2; omega), decide_eq_true hk]), nI_clamp (by have := h_6.2.2; omega), h_6.2.1 k hk])) trivial rfl ⟨Nat.le_of_ble_eq_true rfl, Nat.le_of_ble_eq_true rfl⟩ dX11_longestAt_36
  · obtain ⟨k, hk, rfl⟩ := jhas_t (hmi.symm.trans c_23)
    have hl12 := h_6.2.2
    refine J.aload_n g dX11_longestAt_26 rfl rfl ?_
    refine J.get g jX11 31 (by decide) lf_X11_137 0 rfl rfl dX11_longestAt_27 ?_
    refine J.iload_n g dX11_longestAt_30 rfl rfl ?_
    refine J.ialdN g 4 rfl (by omega) (by decide) dX11_longestAt_31 ?_
    refine J.goto g dX11_longestAt_32 (tgt := 36) (by decide) ?_
    exact J.iret g hE u_6 (by first | rw [jat_f (hmi.symm.trans c_23)] | (rw [jat_t (by rw [jhas_n _ (by have := h_6.2.2; omega), decide_eq_true hk]), nI_clamp (by have := h_6.2.2; omega), h_6.2.1 k hk])) trivial rfl ⟨Nat.le_of_ble_eq_true rfl, Nat.le_of_ble_eq_true rfl⟩ dX11_longestAt_36
set_option maxHeartbeats 4000000 in
set_option maxRecDepth 100000 in
theorem c_X11_longestAt_no (l : Launch) (γ : jγ) (mo mta mtd msz mto mfr mso mnu mfa mpl mro mnw mrd mkp msn mbf mlv mik msm msu mbe mfe mmy mof msf mlr mty mfm mrn mrb mln mtb : Nat) (mth mfw mse : Int32) (mwd : Int64) (cd n : Nat) (f w : Nat → Nat) (i : Int32) (hw : mIs cd n f w) (ho : ¬ (1 ≤ god cd ∧ god cd ≤ 12)) : jM (S := Unit) l γ yX11_longestAt cX11_longestAt 2 (some .int) ({ frames := 41, cells := 0, slots := 0, locals := 1021 } : Room) [.ref mo, .int i] [(mo, .inr (11, [.int mth, .ref mta, .int (nI mtd), .int (nI msz), .int (nI mto), .int (nI mfr), .int (nI mso), .int (nI mnu), .int (nI mfa), .int mfw, .int (nI mpl), .int (nI mro), .long mwd, .ref mnw, .ref mrd, .ref mkp, .ref msn, .ref mbf, .ref mlv, .ref mik, .int (nI msm), .ref msu, .ref mbe, .ref mfe, .ref mmy, .ref mof, .ref msf, .ref mlr, .ref mty, .ref mfm, .ref mrn, .ref mrb, .int (nI mln), .ref mtb, .int mse])), (mnw, .inl (γ.2 0, 17, .inl (fun j => nI (w j))))] (fun w0 => some (.int (-1))) (fun w0 => [(mo, .inr (11, [.int (nI 0), .ref mta, .int (nI mtd), .int (nI msz), .int (nI mto), .int (nI mfr), .int (nI mso), .int (nI mnu), .int (nI mfa), .int mfw, .int (nI mpl), .int (nI mro), .long mwd, .ref mnw, .ref mrd, .ref mkp, .ref msn, .ref mbf, .ref mlv, .ref mik, .int (nI msm), .ref msu, .ref mbe, .ref mfe, .ref mmy, .ref mof, .ref msf, .ref mlr, .ref mty, .ref mfm, .ref mrn, .ref mrb, .int (nI mln), .ref mtb, .int mse])), (mnw, .inl (γ.2 0, 17, .inl (fun j => nI (w j))))]) (fun w0 => True) := by
  refine jM.of [some (.ref mo), some (.int i)] rfl (Nat.le_of_ble_eq_true rfl) (by decide) ?_
  intro x g hE hin
  have hwg := hw.g
  have hw5 := hw.2.2.2.2.2.1
  have hwf := hw.2.2.2.2.2.2
  have hw3 := hw.2.2.1
  refine J.aload_n g dX11_longestAt_0 rfl rfl ?_
  refine J.iconstN g 0 dX11_longestAt_1 ?_
  refine J.put g jX11 0 (by decide) lf_X11_1 0 rfl rfl (Nat.le_of_ble_eq_true rfl) rfl rfl dX11_longestAt_2 ?_
  try dsimp only [List.set_cons_zero, List.set_cons_succ]
  refine J.aload_n g dX11_longestAt_5 rfl rfl ?_
  refine J.callV0 g (c_X11_laysFree_no l γ _ _ _ _ _ _ _ _ _ _ _ _ _ _ _ _ _ _ _ _ _ _ _ _ _ _ _ _ _ _ _ _ _ _ _ _ _ _ _ _ hw ho) jy_X11_laysFree lm_X11_269 (q0 := 0) rfl jX11.1 ⟨⟨Nat.le_of_ble_eq_true rfl, Nat.le_of_ble_eq_true rfl⟩, Nat.le_of_ble_eq_true rfl, Nat.le_of_ble_eq_true rfl⟩ (Nat.le_of_ble_eq_true rfl) rfl [0, 1] rfl rfl dX11_longestAt_6 ?_
  intro _ _
  dsimp only [jpush]
  refine J.if_eqB g dX11_longestAt_9 (tgt := 35) (by decide) (fun c_9 => ?_) (fun c_9 => absurd c_9 (by simp at c_9))
  refine J.iconst (v := -1) g dX11_longestAt_35 (by decide) ?_
  exact J.iret g hE () rfl trivial rfl ⟨Nat.le_of_ble_eq_true rfl, Nat.le_of_ble_eq_true rfl⟩ dX11_longestAt_36
set_option maxHeartbeats 8000000 in
set_option maxRecDepth 100000 in
theorem c_X11_mostWithout (l : Launch) (γ : jγ) : ∀ (dd : Nat) (mo mta mtd msz mto mfr mso mnu mfa mpl mro mnw mrd mkp msn mbf mlv mik msm msu mbe mfe mmy mof msf mlr mty mfm mrn mrb mln mtb : Nat) (mth mfw mse : Int32) (mwd : Int64) (cd n : Nat) (f w : Nat → Nat) (TB A c : Nat → Nat) (nn la so : Nat), (mIs cd n f w) → (god cd ≤ 6) → (so = gex cd ∧ so ≤ 6) → (nn + dd = 30) → (la ≤ 24) → (∀ k, k ≤ so → TB (16 * nn + k) = A k) → (∀ k, k ≤ so → A k < 2 ^ 24) → (mCn cd so nn A c) → jM (S := Nat → Nat) l γ yX11_mostWithout cX11_mostWithout 7 (some .int) ({ frames := dd + 8, cells := 0, slots := 0, locals := 26 * dd + 200 } : Room) [.ref mo, .int (nI nn), .int (nI la), .int (nI so)] [(mo, .inr (11, [.int mth, .ref mta, .int (nI mtd), .int (nI msz), .int (nI mto), .int (nI mfr), .int (nI mso), .int (nI mnu), .int (nI mfa), .int mfw, .int (nI mpl), .int (nI mro), .long mwd, .ref mnw, .ref mrd, .ref mkp, .ref msn, .ref mbf, .ref mlv, .ref mik, .int (nI msm), .ref msu, .ref mbe, .ref mfe, .ref mmy, .ref mof, .ref msf, .ref mlr, .ref mty, .ref mfm, .ref mrn, .ref mrb, .int (nI mln), .ref mtb, .int mse])), (mnw, .inl (γ.2 0, 17, .inl (fun j => nI (w j)))), (mtb, .inl (γ.2 0, 512, .inl (fun j => nI (TB j))))] (fun u => some (.int (nI (mwt cd so (dd + 1) nn la A)))) (fun u => [(mo, .inr (11, [.int mth, .ref mta, .int (nI mtd), .int (nI msz), .int (nI mto), .int (nI mfr), .int (nI mso), .int (nI mnu), .int (nI mfa), .int mfw, .int (nI mpl), .int (nI mro), .long mwd, .ref mnw, .ref mrd, .ref mkp, .ref msn, .ref mbf, .ref mlv, .ref mik, .int (nI msm), .ref msu, .ref mbe, .ref mfe, .ref mmy, .ref mof, .ref msf, .ref mlr, .ref mty, .ref mfm, .ref mrn, .ref mrb, .int (nI mln), .ref mtb, .int mse])), (mnw, .inl (γ.2 0, 17, .inl (fun j => nI (w j)))), (mtb, .inl (γ.2 0, 512, .inl (fun j => nI (u j))))]) (fun u => ∀ j, j < 16 * (nn + 1) → u j = TB j) := by
  intro dd
  induction dd with
  | zero =>
    intro mo mta mtd msz mto mfr mso mnu mfa mpl mro mnw mrd mkp msn mbf mlv mik msm msu mbe mfe mmy mof msf mlr mty mfm mrn mrb mln mtb mth mfw mse mwd cd n f w TB A c nn la so hw h6 hso hd hla hA hA2 hc
    refine jM.of [some (.ref mo), some (.int (nI nn)), some (.int (nI la)), some (.int (nI so)), none, none, none] rfl (Nat.le_of_ble_eq_true rfl) (by decide) ?_
    intro x g hE hin
    have hwg := hw.g
    have hw5 := hw.2.2.2.2.2.1
    have hwf := hw.2.2.2.2.2.2
    have hw3 := hw.2.2.1
    have hd0 : nn = 30 := by omega
    refine J.iload_n g dX11_mostWithout_0 rfl rfl ?_
    refine J.istore g dX11_mostWithout_1 rfl rfl ?_
    try dsimp only [List.set_cons_zero, List.set_cons_succ]
    refine J.iload_n g dX11_mostWithout_3 rfl rfl ?_
    refine J.istore g dX11_mostWithout_4 rfl rfl ?_
    try dsimp only [List.set_cons_zero, List.set_cons_succ]
    have lp0 : ∀ (d : Nat) (i m9 : Nat) (T1 : Nat → Nat), god cd - i < d → (i ≤ 24) → (m9 ≤ 31) → (∀ j, j < 16 * (nn + 1) → T1 j = TB j) → (mwt cd so (0 + 1) nn la A = mwl (fun g m => if (mnx cd g A so).testBit 0 then m else max m (mwt cd so 0 (nn + 1) g (mnx cd g A))) (god cd - i) i m9) → J γ l x [(mo, .inr (11, [.int mth, .ref mta, .int (nI mtd), .int (nI msz), .int (nI mto), .int (nI mfr), .int (nI mso), .int (nI mnu), .int (nI mfa), .int mfw, .int (nI mpl), .int (nI mro), .long mwd, .ref mnw, .ref mrd, .ref mkp, .ref msn, .ref mbf, .ref mlv, .ref mik, .int (nI msm), .ref msu, .ref mbe, .ref mfe, .ref mmy, .ref mof, .ref msf, .ref mlr, .ref mty, .ref mfm, .ref mrn, .ref mrb, .int (nI mln), .ref mtb, .int mse])), (mnw, .inl (γ.2 0, 17, .inl (fun j => nI (w j)))), (mtb, .inl (γ.2 0, 512, .inl (fun j => nI (T1 j))))] [some (.ref mo), some (.int (nI nn)), some (.int (nI la)), some (.int (nI so)), some (.int (nI m9)), some (.int (nI i)), none] [] 0 0 6 := by
      intro d
      induction d with
      | zero => intro i m9 T1 hm; exact absurd hm (Nat.not_lt_zero _)
      | succ d ih_lp0 =>
        intro i m9 T1 hm hi hm9 h1 hr
        refine J.iload g dX11_mostWithout_6 rfl ?_
        refine J.aload_n g dX11_mostWithout_8 rfl rfl ?_
        refine J.callV0 g (c_X11_order l γ _ _ _ _ _ _ _ _ _ _ _ _ _ _ _ _ _ _ _ _ _ _ _ _ _ _ _ _ _ _ _ _ _ _ _ _ _ _ _ _ hw) jy_X11_order lm_X11_186 (q0 := 0) rfl jX11.1 ⟨⟨(by dsimp only; omega), (by dsimp only; omega)⟩, (by dsimp only; omega), (by dsimp only; omega)⟩ (Nat.le_of_ble_eq_true rfl) rfl [0, 1] rfl rfl dX11_mostWithout_9 ?_
        intro _ _
        dsimp only [jpush]
        refine J.icmp_geN g dX11_mostWithout_12 (tgt := 138) (by decide) (by omega) (by omega) (fun c_12 => ?_) (fun c_12 => ?_)
        · refine J.iload g dX11_mostWithout_138 rfl ?_
          exact J.iret g hE T1 (by rw [hr, mwl_0 (by omega)]) h1 rfl ⟨Nat.le_of_ble_eq_true rfl, Nat.le_of_ble_eq_true rfl⟩ dX11_mostWithout_140
        · refine J.iconstN g 0 dX11_mostWithout_15 ?_
          refine J.istore g dX11_mostWithout_16 rfl rfl ?_
          try dsimp only [List.set_cons_zero, List.set_cons_succ]
          have lq0 : ∀ (d : Nat) (k : Nat) (T2 : Nat → Nat), so + 1 - k < d → (k ≤ so + 1) → (∀ j, j < 16 * (nn + 1) → T2 j = TB j) → (∀ j, j < k → T2 (16 * (nn + 1) + j) = mnx cd i A j) → J γ l x [(mo, .inr (11, [.int mth, .ref mta, .int (nI mtd), .int (nI msz), .int (nI mto), .int (nI mfr), .int (nI mso), .int (nI mnu), .int (nI mfa), .int mfw, .int (nI mpl), .int (nI mro), .long mwd, .ref mnw, .ref mrd, .ref mkp, .ref msn, .ref mbf, .ref mlv, .ref mik, .int (nI msm), .ref msu, .ref mbe, .ref mfe, .ref mmy, .ref mof, .ref msf, .ref mlr, .ref mty, .ref mfm, .ref mrn, .ref mrb, .int (nI mln), .ref mtb, .int mse])), (mnw, .inl (γ.2 0, 17, .inl (fun j => nI (w j)))), (mtb, .inl (γ.2 0, 512, .inl (fun j => nI (T2 j))))] [some (.ref mo), some (.int (nI nn)), some (.int (nI la)), some (.int (nI so)), some (.int (nI m9)), some (.int (nI i)), some (.int (nI k))] [] 0 0 18 := by
            intro d
            induction d with
            | zero => intro k T2 hm; exact absurd hm (Nat.not_lt_zero _)
            | succ d ih_lq0 =>
              intro k T2 hm hk h2 h3
              refine J.iload g dX11_mostWithout_18 rfl ?_
              refine J.iload_n g dX11_mostWithout_20 rfl rfl ?_
              refine J.icmp_gtN g dX11_mostWithout_21 (tgt := 86) (by decide) (by omega) (by omega) (fun c_21 => ?_) (fun c_21 => ?_)
              · have hzv := h3 so (by omega)
                have hzl := mnx_lt (g := i) hw.1 (hA2 so (Nat.le_refl _))
                rw [← hzv] at hzl
                refine J.aload_n g dX11_mostWithout_86 rfl rfl ?_
                refine J.get g jX11 33 (by decide) lf_X11_140 0 rfl rfl dX11_mostWithout_87 ?_
                refine J.bipush (v := nI 16) g dX11_mostWithout_90 (by decide +kernel) ?_
                refine J.iload_n g dX11_mostWithout_92 rfl rfl ?_
                refine J.iconstN g 1 dX11_mostWithout_93 ?_
                refine J.iaddN g dX11_mostWithout_94 ?_
                refine J.imulN g dX11_mostWithout_95 ?_
                refine J.iload_n g dX11_mostWithout_96 rfl rfl ?_
                refine J.iaddN g dX11_mostWithout_97 ?_
                refine J.ialdN g 2 rfl (by omega) (by decide) dX11_mostWithout_98 ?_
                refine J.iconstN g 0 dX11_mostWithout_99 ?_
                refine J.callS0 g (c_X11_has l γ _ _ (by omega) (by omega)) jy_X11_has lm_X11_7 ⟨⟨(by dsimp only; omega), (by dsimp only; omega)⟩, (by dsimp only; omega), (by dsimp only; omega)⟩ (Nat.le_of_ble_eq_true rfl) rfl [] rfl rfl dX11_mostWithout_100 ?_
                intro _ _
                dsimp only [jpush]
                refine J.if_eqB g dX11_mostWithout_103 (tgt := 109) (by decide) (fun c_103 => ?_) (fun c_103 => ?_)
                · have hz : (mnx cd i A so).testBit 0 = false := by rw [← hzv]; exact c_103
                  exfalso
                  have hbad := mCn_le hw.1 h6 hso.2 (mCn_s hw.1 hso.1 (by omega) hc hz)
                  omega
                · obtain ⟨m2, hm2e⟩ : ∃ z, z = m9 := ⟨_, rfl⟩
                  obtain ⟨T3, hT3⟩ : ∃ z, z = T2 := ⟨_, rfl⟩
                  have hm2 : m2 ≤ 31 := by omega
                  have hn1 : ∀ j, j < 16 * (nn + 1) → T3 j = TB j := hT3 ▸ h2
                  have hn2 : mwt cd so (0 + 1) nn la A = mwl (fun g m => if (mnx cd g A so).testBit 0 then m else max m (mwt cd so 0 (nn + 1) g (mnx cd g A))) (god cd - (i + 1)) (i + 1) m2 := by rw [hr, mwl_s (by omega), hm2e]; show mwl _ _ _ (if (mnx cd i A so).testBit 0 = true then m9 else _) = _; rw [if_pos (by rw [← hzv]; exact c_103)]
                  rw [← hm2e, ← hT3]
                  refine J.goto g dX11_mostWithout_106 (tgt := 132) (by decide) ?_
                  refine J.iincN g 1 dX11_mostWithout_132 rfl rfl ?_
                  try dsimp only [List.set_cons_zero, List.set_cons_succ]
                  refine J.goto g dX11_mostWithout_135 (tgt := 6) (by decide) ?_
                  exact J.lvle (jle_s (jle_s (jle_s (jle_s (jle_s (jle_s (jle_n jle_0))))))) (ih_lp0 (i + 1) m2 T3 (by omega) (by omega) hm2 hn1 hn2)
              · have e1 : T2 (16 * nn + k) = A k := (h2 _ (by omega)).trans (hA k (by omega))
                refine J.aload_n g dX11_mostWithout_24 rfl rfl ?_
                refine J.get g jX11 33 (by decide) lf_X11_140 0 rfl rfl dX11_mostWithout_25 ?_
                refine J.bipush (v := nI 16) g dX11_mostWithout_28 (by decide +kernel) ?_
                refine J.iload_n g dX11_mostWithout_30 rfl rfl ?_
                refine J.iconstN g 1 dX11_mostWithout_31 ?_
                refine J.iaddN g dX11_mostWithout_32 ?_
                refine J.imulN g dX11_mostWithout_33 ?_
                refine J.iload g dX11_mostWithout_34 rfl ?_
                refine J.iaddN g dX11_mostWithout_36 ?_
                refine J.aload_n g dX11_mostWithout_37 rfl rfl ?_
                refine J.get g jX11 33 (by decide) lf_X11_140 0 rfl rfl dX11_mostWithout_38 ?_
                refine J.bipush (v := nI 16) g dX11_mostWithout_41 (by decide +kernel) ?_
                refine J.iload_n g dX11_mostWithout_43 rfl rfl ?_
                refine J.imulN g dX11_mostWithout_44 ?_
                refine J.iload g dX11_mostWithout_45 rfl ?_
                refine J.iaddN g dX11_mostWithout_47 ?_
                refine J.ialdN g 2 rfl (by omega) (by decide) dX11_mostWithout_48 ?_
                refine J.iload g dX11_mostWithout_49 rfl ?_
                refine J.if_leN g dX11_mostWithout_51 (tgt := 77) (by decide) (by omega) (fun c_51 => ?_) (fun c_51 => ?_)
                · have hv : T2 (16 * nn + k) ||| 0 = mnx cd i A k := by rw [mnx, if_neg (by omega), e1]
                  refine J.iconstN g 0 dX11_mostWithout_77 ?_
                  refine J.ior' g dX11_mostWithout_78 (j_or _ _) ?_
                  refine J.iastN g 2 rfl (by omega) (by decide) dX11_mostWithout_79 ?_
                  try dsimp only [List.set_cons_zero, List.set_cons_succ]
                  refine J.iincN g 1 dX11_mostWithout_80 rfl rfl ?_
                  try dsimp only [List.set_cons_zero, List.set_cons_succ]
                  refine J.goto g dX11_mostWithout_83 (tgt := 18) (by decide) ?_
                  exact J.lvle (jle_s (jle_s (jle_s (jle_s (jle_s (jle_s (jle_s jle_0))))))) (ih_lq0 (k + 1) _ (by omega) (by omega) (fun j hj => (up_ne (by omega)).trans (h2 j hj)) (lt_s (fun j hj => (up_ne (by omega)).trans (h3 j hj)) (up_at.trans hv)))
                · have hk0 : 0 < k := by omega
                  have e2 : T2 (16 * nn + k - 1) = A (k - 1) := by rw [show 16 * nn + k - 1 = 16 * nn + (k - 1) by omega]; exact (h2 _ (by omega)).trans (hA (k - 1) (by omega))
                  refine J.aload_n g dX11_mostWithout_54 rfl rfl ?_
                  refine J.aload_n g dX11_mostWithout_55 rfl rfl ?_
                  refine J.get g jX11 33 (by decide) lf_X11_140 0 rfl rfl dX11_mostWithout_56 ?_
                  refine J.bipush (v := nI 16) g dX11_mostWithout_59 (by decide +kernel) ?_
                  refine J.iload_n g dX11_mostWithout_61 rfl rfl ?_
                  refine J.imulN g dX11_mostWithout_62 ?_
                  refine J.iload g dX11_mostWithout_63 rfl ?_
                  refine J.iaddN g dX11_mostWithout_65 ?_
                  refine J.iconstN g 1 dX11_mostWithout_66 ?_
                  refine J.isubN g dX11_mostWithout_67 (by omega) ?_
                  refine J.ialdN g 2 rfl (by omega) (by decide) dX11_mostWithout_68 ?_
                  refine J.iload g dX11_mostWithout_69 rfl ?_
                  refine J.callV0 g (c_X11_shifted l γ _ _ _ _ _ _ _ _ _ _ _ _ _ _ _ _ _ _ _ _ _ _ _ _ _ _ _ _ _ _ _ _ _ _ _ _ _ _ _ _ _ _ hw (by rw [e2]; exact hA2 _ (by omega)) (by omega)) jy_X11_shifted lm_X11_262 (q0 := 0) rfl jX11.1 ⟨⟨(by dsimp only; omega), (by dsimp only; omega)⟩, (by dsimp only; omega), (by dsimp only; omega)⟩ (Nat.le_of_ble_eq_true rfl) rfl [0, 1] rfl rfl dX11_mostWithout_71 ?_
                  intro _ _
                  dsimp only [jpush]
                  have hv : T2 (16 * nn + k) ||| jmoved (god cd) (jmf cd) (T2 (16 * nn + k - 1)) i (god cd) = mnx cd i A k := by rw [mnx, if_pos hk0, e1, e2]
                  refine J.goto g dX11_mostWithout_74 (tgt := 78) (by decide) ?_
                  refine J.ior' g dX11_mostWithout_78 (j_or _ _) ?_
                  refine J.iastN g 2 rfl (by omega) (by decide) dX11_mostWithout_79 ?_
                  try dsimp only [List.set_cons_zero, List.set_cons_succ]
                  refine J.iincN g 1 dX11_mostWithout_80 rfl rfl ?_
                  try dsimp only [List.set_cons_zero, List.set_cons_succ]
                  refine J.goto g dX11_mostWithout_83 (tgt := 18) (by decide) ?_
                  exact J.lvle (jle_s (jle_s (jle_s (jle_s (jle_s (jle_s (jle_s jle_0))))))) (ih_lq0 (k + 1) _ (by omega) (by omega) (fun j hj => (up_ne (by omega)).trans (h2 j hj)) (lt_s (fun j hj => (up_ne (by omega)).trans (h3 j hj)) (up_at.trans hv)))
          exact J.lvle (jle_s (jle_s (jle_s (jle_s (jle_s (jle_s (jle_s jle_0))))))) (lq0 _ 0 T1 (Nat.lt_succ_self _) (Nat.zero_le _) h1 (fun j h => absurd h (Nat.not_lt_zero _)))
    exact J.lvle (jle_s (jle_s (jle_s (jle_s (jle_s (jle_s (jle_n jle_0))))))) (lp0 _ la nn TB (Nat.lt_succ_self _) (by omega) (by omega) (fun j _ => rfl) rfl)
  | succ dd ih =>
    intro mo mta mtd msz mto mfr mso mnu mfa mpl mro mnw mrd mkp msn mbf mlv mik msm msu mbe mfe mmy mof msf mlr mty mfm mrn mrb mln mtb mth mfw mse mwd cd n f w TB A c nn la so hw h6 hso hd hla hA hA2 hc
    refine jM.of [some (.ref mo), some (.int (nI nn)), some (.int (nI la)), some (.int (nI so)), none, none, none] rfl (Nat.le_of_ble_eq_true rfl) (by decide) ?_
    intro x g hE hin
    have hwg := hw.g
    have hw5 := hw.2.2.2.2.2.1
    have hwf := hw.2.2.2.2.2.2
    have hw3 := hw.2.2.1
    have hd0 : nn < 30 := by omega
    refine J.iload_n g dX11_mostWithout_0 rfl rfl ?_
    refine J.istore g dX11_mostWithout_1 rfl rfl ?_
    try dsimp only [List.set_cons_zero, List.set_cons_succ]
    refine J.iload_n g dX11_mostWithout_3 rfl rfl ?_
    refine J.istore g dX11_mostWithout_4 rfl rfl ?_
    try dsimp only [List.set_cons_zero, List.set_cons_succ]
    have lp1 : ∀ (d : Nat) (i m9 : Nat) (T1 : Nat → Nat), god cd - i < d → (i ≤ 24) → (m9 ≤ 31) → (∀ j, j < 16 * (nn + 1) → T1 j = TB j) → (mwt cd so ((dd + 1) + 1) nn la A = mwl (fun g m => if (mnx cd g A so).testBit 0 then m else max m (mwt cd so (dd + 1) (nn + 1) g (mnx cd g A))) (god cd - i) i m9) → J γ l x [(mo, .inr (11, [.int mth, .ref mta, .int (nI mtd), .int (nI msz), .int (nI mto), .int (nI mfr), .int (nI mso), .int (nI mnu), .int (nI mfa), .int mfw, .int (nI mpl), .int (nI mro), .long mwd, .ref mnw, .ref mrd, .ref mkp, .ref msn, .ref mbf, .ref mlv, .ref mik, .int (nI msm), .ref msu, .ref mbe, .ref mfe, .ref mmy, .ref mof, .ref msf, .ref mlr, .ref mty, .ref mfm, .ref mrn, .ref mrb, .int (nI mln), .ref mtb, .int mse])), (mnw, .inl (γ.2 0, 17, .inl (fun j => nI (w j)))), (mtb, .inl (γ.2 0, 512, .inl (fun j => nI (T1 j))))] [some (.ref mo), some (.int (nI nn)), some (.int (nI la)), some (.int (nI so)), some (.int (nI m9)), some (.int (nI i)), none] [] 0 0 6 := by
      intro d
      induction d with
      | zero => intro i m9 T1 hm; exact absurd hm (Nat.not_lt_zero _)
      | succ d ih_lp1 =>
        intro i m9 T1 hm hi hm9 h1 hr
        refine J.iload g dX11_mostWithout_6 rfl ?_
        refine J.aload_n g dX11_mostWithout_8 rfl rfl ?_
        refine J.callV0 g (c_X11_order l γ _ _ _ _ _ _ _ _ _ _ _ _ _ _ _ _ _ _ _ _ _ _ _ _ _ _ _ _ _ _ _ _ _ _ _ _ _ _ _ _ hw) jy_X11_order lm_X11_186 (q0 := 0) rfl jX11.1 ⟨⟨(by dsimp only; omega), (by dsimp only; omega)⟩, (by dsimp only; omega), (by dsimp only; omega)⟩ (Nat.le_of_ble_eq_true rfl) rfl [0, 1] rfl rfl dX11_mostWithout_9 ?_
        intro _ _
        dsimp only [jpush]
        refine J.icmp_geN g dX11_mostWithout_12 (tgt := 138) (by decide) (by omega) (by omega) (fun c_12 => ?_) (fun c_12 => ?_)
        · refine J.iload g dX11_mostWithout_138 rfl ?_
          exact J.iret g hE T1 (by rw [hr, mwl_0 (by omega)]) h1 rfl ⟨Nat.le_of_ble_eq_true rfl, Nat.le_of_ble_eq_true rfl⟩ dX11_mostWithout_140
        · refine J.iconstN g 0 dX11_mostWithout_15 ?_
          refine J.istore g dX11_mostWithout_16 rfl rfl ?_
          try dsimp only [List.set_cons_zero, List.set_cons_succ]
          have lq1 : ∀ (d : Nat) (k : Nat) (T2 : Nat → Nat), so + 1 - k < d → (k ≤ so + 1) → (∀ j, j < 16 * (nn + 1) → T2 j = TB j) → (∀ j, j < k → T2 (16 * (nn + 1) + j) = mnx cd i A j) → J γ l x [(mo, .inr (11, [.int mth, .ref mta, .int (nI mtd), .int (nI msz), .int (nI mto), .int (nI mfr), .int (nI mso), .int (nI mnu), .int (nI mfa), .int mfw, .int (nI mpl), .int (nI mro), .long mwd, .ref mnw, .ref mrd, .ref mkp, .ref msn, .ref mbf, .ref mlv, .ref mik, .int (nI msm), .ref msu, .ref mbe, .ref mfe, .ref mmy, .ref mof, .ref msf, .ref mlr, .ref mty, .ref mfm, .ref mrn, .ref mrb, .int (nI mln), .ref mtb, .int mse])), (mnw, .inl (γ.2 0, 17, .inl (fun j => nI (w j)))), (mtb, .inl (γ.2 0, 512, .inl (fun j => nI (T2 j))))] [some (.ref mo), some (.int (nI nn)), some (.int (nI la)), some (.int (nI so)), some (.int (nI m9)), some (.int (nI i)), some (.int (nI k))] [] 0 0 18 := by
            intro d
            induction d with
            | zero => intro k T2 hm; exact absurd hm (Nat.not_lt_zero _)
            | succ d ih_lq1 =>
              intro k T2 hm hk h2 h3
              refine J.iload g dX11_mostWithout_18 rfl ?_
              refine J.iload_n g dX11_mostWithout_20 rfl rfl ?_
              refine J.icmp_gtN g dX11_mostWithout_21 (tgt := 86) (by decide) (by omega) (by omega) (fun c_21 => ?_) (fun c_21 => ?_)
              · have hzv := h3 so (by omega)
                have hzl := mnx_lt (g := i) hw.1 (hA2 so (Nat.le_refl _))
                rw [← hzv] at hzl
                refine J.aload_n g dX11_mostWithout_86 rfl rfl ?_
                refine J.get g jX11 33 (by decide) lf_X11_140 0 rfl rfl dX11_mostWithout_87 ?_
                refine J.bipush (v := nI 16) g dX11_mostWithout_90 (by decide +kernel) ?_
                refine J.iload_n g dX11_mostWithout_92 rfl rfl ?_
                refine J.iconstN g 1 dX11_mostWithout_93 ?_
                refine J.iaddN g dX11_mostWithout_94 ?_
                refine J.imulN g dX11_mostWithout_95 ?_
                refine J.iload_n g dX11_mostWithout_96 rfl rfl ?_
                refine J.iaddN g dX11_mostWithout_97 ?_
                refine J.ialdN g 2 rfl (by omega) (by decide) dX11_mostWithout_98 ?_
                refine J.iconstN g 0 dX11_mostWithout_99 ?_
                refine J.callS0 g (c_X11_has l γ _ _ (by omega) (by omega)) jy_X11_has lm_X11_7 ⟨⟨(by dsimp only; omega), (by dsimp only; omega)⟩, (by dsimp only; omega), (by dsimp only; omega)⟩ (Nat.le_of_ble_eq_true rfl) rfl [] rfl rfl dX11_mostWithout_100 ?_
                intro _ _
                dsimp only [jpush]
                refine J.if_eqB g dX11_mostWithout_103 (tgt := 109) (by decide) (fun c_103 => ?_) (fun c_103 => ?_)
                · have hz : (mnx cd i A so).testBit 0 = false := by rw [← hzv]; exact c_103
                  refine J.aload_n g dX11_mostWithout_109 rfl rfl ?_
                  refine J.iload_n g dX11_mostWithout_110 rfl rfl ?_
                  refine J.iconstN g 1 dX11_mostWithout_111 ?_
                  refine J.iaddN g dX11_mostWithout_112 ?_
                  refine J.iload g dX11_mostWithout_113 rfl ?_
                  refine J.iload_n g dX11_mostWithout_115 rfl rfl ?_
                  refine J.callV g (ih mo mta mtd msz mto mfr mso mnu mfa mpl mro mnw mrd mkp msn mbf mlv mik msm msu mbe mfe mmy mof msf mlr mty mfm mrn mrb mln mtb mth mfw mse mwd cd n f w T2 (mnx cd i A) (va_up c i (c i + 1)) (nn + 1) i so hw h6 hso (by omega) (by omega) (fun k hk => h3 k (by omega)) (fun k hk => mnx_lt hw.1 (hA2 k hk)) (mCn_s hw.1 hso.1 (by omega) hc hz)) jy_X11_mostWithout lm_X11_272 (q0 := 0) rfl jX11.1 ⟨⟨(by dsimp only; omega), (by dsimp only; omega)⟩, (by dsimp only; omega), (by dsimp only; omega)⟩ (Nat.le_of_ble_eq_true rfl) rfl [0, 1, 2] rfl (fun _ => rfl) rfl dX11_mostWithout_116 ?_
                  intro u_116 h_116
                  dsimp only [jput, List.set_cons_zero, List.set_cons_succ, Option.toList, List.append, List.cons_append, List.nil_append, List.append_nil]
                  obtain ⟨v9, hv9⟩ : ∃ z, z = mwt cd so (dd + 1) (nn + 1) i (mnx cd i A) := ⟨_, rfl⟩
                  have hvb : v9 ≤ 31 := by have := (mwt_le (cd := cd) (so := so) (dd + 1) (nn + 1) i (mnx cd i A)).2; omega
                  rw [← hv9]
                  refine J.istore g dX11_mostWithout_119 rfl rfl ?_
                  try dsimp only [List.set_cons_zero, List.set_cons_succ]
                  refine J.iload g dX11_mostWithout_121 rfl ?_
                  refine J.iload g dX11_mostWithout_123 rfl ?_
                  refine J.icmp_leN g dX11_mostWithout_125 (tgt := 132) (by decide) (by omega) (by omega) (fun c_125 => ?_) (fun c_125 => ?_)
                  · obtain ⟨m2, hm2e⟩ : ∃ z, z = m9 := ⟨_, rfl⟩
                    obtain ⟨T3, hT3⟩ : ∃ z, z = u_116 := ⟨_, rfl⟩
                    have hm2 : m2 ≤ 31 := by omega
                    have hn1 : ∀ j, j < 16 * (nn + 1) → T3 j = TB j := fun j hj => by rw [hT3, h_116 j (by omega)]; exact h2 j hj
                    have hn2 : mwt cd so ((dd + 1) + 1) nn la A = mwl (fun g m => if (mnx cd g A so).testBit 0 then m else max m (mwt cd so (dd + 1) (nn + 1) g (mnx cd g A))) (god cd - (i + 1)) (i + 1) m2 := by rw [hr, mwl_s (by omega), hm2e]; show mwl _ _ _ (if (mnx cd i A so).testBit 0 = true then m9 else max m9 (mwt cd so (dd + 1) (nn + 1) i (mnx cd i A))) = _; rw [if_neg (by rw [hz]; decide), ← hv9, show max m9 v9 = m9 from Nat.max_eq_left (by omega)]
                    rw [← hm2e, ← hT3]
                    refine J.iincN g 1 dX11_mostWithout_132 rfl rfl ?_
                    try dsimp only [List.set_cons_zero, List.set_cons_succ]
                    refine J.goto g dX11_mostWithout_135 (tgt := 6) (by decide) ?_
                    exact J.lvle (jle_s (jle_s (jle_s (jle_s (jle_s (jle_s (jle_n jle_0))))))) (ih_lp1 (i + 1) m2 T3 (by omega) (by omega) hm2 hn1 hn2)
                  · obtain ⟨m2, hm2e⟩ : ∃ z, z = v9 := ⟨_, rfl⟩
                    obtain ⟨T3, hT3⟩ : ∃ z, z = u_116 := ⟨_, rfl⟩
                    have hm2 : m2 ≤ 31 := by omega
                    have hn1 : ∀ j, j < 16 * (nn + 1) → T3 j = TB j := fun j hj => by rw [hT3, h_116 j (by omega)]; exact h2 j hj
                    have hn2 : mwt cd so ((dd + 1) + 1) nn la A = mwl (fun g m => if (mnx cd g A so).testBit 0 then m else max m (mwt cd so (dd + 1) (nn + 1) g (mnx cd g A))) (god cd - (i + 1)) (i + 1) m2 := by rw [hr, mwl_s (by omega), hm2e]; show mwl _ _ _ (if (mnx cd i A so).testBit 0 = true then m9 else max m9 (mwt cd so (dd + 1) (nn + 1) i (mnx cd i A))) = _; rw [if_neg (by rw [hz]; decide), ← hv9, show max m9 v9 = v9 from Nat.max_eq_right (by omega)]
                    rw [← hm2e, ← hT3]
                    refine J.iload g dX11_mostWithout_128 rfl ?_
                    refine J.istore g dX11_mostWithout_130 rfl rfl ?_
                    try dsimp only [List.set_cons_zero, List.set_cons_succ]
                    refine J.iincN g 1 dX11_mostWithout_132 rfl rfl ?_
                    try dsimp only [List.set_cons_zero, List.set_cons_succ]
                    refine J.goto g dX11_mostWithout_135 (tgt := 6) (by decide) ?_
                    exact J.lvle (jle_s (jle_s (jle_s (jle_s (jle_s (jle_s (jle_n jle_0))))))) (ih_lp1 (i + 1) m2 T3 (by omega) (by omega) hm2 hn1 hn2)
                · obtain ⟨m2, hm2e⟩ : ∃ z, z = m9 := ⟨_, rfl⟩
                  obtain ⟨T3, hT3⟩ : ∃ z, z = T2 := ⟨_, rfl⟩
                  have hm2 : m2 ≤ 31 := by omega
                  have hn1 : ∀ j, j < 16 * (nn + 1) → T3 j = TB j := hT3 ▸ h2
                  have hn2 : mwt cd so ((dd + 1) + 1) nn la A = mwl (fun g m => if (mnx cd g A so).testBit 0 then m else max m (mwt cd so (dd + 1) (nn + 1) g (mnx cd g A))) (god cd - (i + 1)) (i + 1) m2 := by rw [hr, mwl_s (by omega), hm2e]; show mwl _ _ _ (if (mnx cd i A so).testBit 0 = true then m9 else _) = _; rw [if_pos (by rw [← hzv]; exact c_103)]
                  rw [← hm2e, ← hT3]
                  refine J.goto g dX11_mostWithout_106 (tgt := 132) (by decide) ?_
                  refine J.iincN g 1 dX11_mostWithout_132 rfl rfl ?_
                  try dsimp only [List.set_cons_zero, List.set_cons_succ]
                  refine J.goto g dX11_mostWithout_135 (tgt := 6) (by decide) ?_
                  exact J.lvle (jle_s (jle_s (jle_s (jle_s (jle_s (jle_s (jle_n jle_0))))))) (ih_lp1 (i + 1) m2 T3 (by omega) (by omega) hm2 hn1 hn2)
              · have e1 : T2 (16 * nn + k) = A k := (h2 _ (by omega)).trans (hA k (by omega))
                refine J.aload_n g dX11_mostWithout_24 rfl rfl ?_
                refine J.get g jX11 33 (by decide) lf_X11_140 0 rfl rfl dX11_mostWithout_25 ?_
                refine J.bipush (v := nI 16) g dX11_mostWithout_28 (by decide +kernel) ?_
                refine J.iload_n g dX11_mostWithout_30 rfl rfl ?_
                refine J.iconstN g 1 dX11_mostWithout_31 ?_
                refine J.iaddN g dX11_mostWithout_32 ?_
                refine J.imulN g dX11_mostWithout_33 ?_
                refine J.iload g dX11_mostWithout_34 rfl ?_
                refine J.iaddN g dX11_mostWithout_36 ?_
                refine J.aload_n g dX11_mostWithout_37 rfl rfl ?_
                refine J.get g jX11 33 (by decide) lf_X11_140 0 rfl rfl dX11_mostWithout_38 ?_
                refine J.bipush (v := nI 16) g dX11_mostWithout_41 (by decide +kernel) ?_
                refine J.iload_n g dX11_mostWithout_43 rfl rfl ?_
                refine J.imulN g dX11_mostWithout_44 ?_
                refine J.iload g dX11_mostWithout_45 rfl ?_
                refine J.iaddN g dX11_mostWithout_47 ?_
                refine J.ialdN g 2 rfl (by omega) (by decide) dX11_mostWithout_48 ?_
                refine J.iload g dX11_mostWithout_49 rfl ?_
                refine J.if_leN g dX11_mostWithout_51 (tgt := 77) (by decide) (by omega) (fun c_51 => ?_) (fun c_51 => ?_)
                · have hv : T2 (16 * nn + k) ||| 0 = mnx cd i A k := by rw [mnx, if_neg (by omega), e1]
                  refine J.iconstN g 0 dX11_mostWithout_77 ?_
                  refine J.ior' g dX11_mostWithout_78 (j_or _ _) ?_
                  refine J.iastN g 2 rfl (by omega) (by decide) dX11_mostWithout_79 ?_
                  try dsimp only [List.set_cons_zero, List.set_cons_succ]
                  refine J.iincN g 1 dX11_mostWithout_80 rfl rfl ?_
                  try dsimp only [List.set_cons_zero, List.set_cons_succ]
                  refine J.goto g dX11_mostWithout_83 (tgt := 18) (by decide) ?_
                  exact J.lvle (jle_s (jle_s (jle_s (jle_s (jle_s (jle_s (jle_s jle_0))))))) (ih_lq1 (k + 1) _ (by omega) (by omega) (fun j hj => (up_ne (by omega)).trans (h2 j hj)) (lt_s (fun j hj => (up_ne (by omega)).trans (h3 j hj)) (up_at.trans hv)))
                · have hk0 : 0 < k := by omega
                  have e2 : T2 (16 * nn + k - 1) = A (k - 1) := by rw [show 16 * nn + k - 1 = 16 * nn + (k - 1) by omega]; exact (h2 _ (by omega)).trans (hA (k - 1) (by omega))
                  refine J.aload_n g dX11_mostWithout_54 rfl rfl ?_
                  refine J.aload_n g dX11_mostWithout_55 rfl rfl ?_
                  refine J.get g jX11 33 (by decide) lf_X11_140 0 rfl rfl dX11_mostWithout_56 ?_
                  refine J.bipush (v := nI 16) g dX11_mostWithout_59 (by decide +kernel) ?_
                  refine J.iload_n g dX11_mostWithout_61 rfl rfl ?_
                  refine J.imulN g dX11_mostWithout_62 ?_
                  refine J.iload g dX11_mostWithout_63 rfl ?_
                  refine J.iaddN g dX11_mostWithout_65 ?_
                  refine J.iconstN g 1 dX11_mostWithout_66 ?_
                  refine J.isubN g dX11_mostWithout_67 (by omega) ?_
                  refine J.ialdN g 2 rfl (by omega) (by decide) dX11_mostWithout_68 ?_
                  refine J.iload g dX11_mostWithout_69 rfl ?_
                  refine J.callV0 g (c_X11_shifted l γ _ _ _ _ _ _ _ _ _ _ _ _ _ _ _ _ _ _ _ _ _ _ _ _ _ _ _ _ _ _ _ _ _ _ _ _ _ _ _ _ _ _ hw (by rw [e2]; exact hA2 _ (by omega)) (by omega)) jy_X11_shifted lm_X11_262 (q0 := 0) rfl jX11.1 ⟨⟨(by dsimp only; omega), (by dsimp only; omega)⟩, (by dsimp only; omega), (by dsimp only; omega)⟩ (Nat.le_of_ble_eq_true rfl) rfl [0, 1] rfl rfl dX11_mostWithout_71 ?_
                  intro _ _
                  dsimp only [jpush]
                  have hv : T2 (16 * nn + k) ||| jmoved (god cd) (jmf cd) (T2 (16 * nn + k - 1)) i (god cd) = mnx cd i A k := by rw [mnx, if_pos hk0, e1, e2]
                  refine J.goto g dX11_mostWithout_74 (tgt := 78) (by decide) ?_
                  refine J.ior' g dX11_mostWithout_78 (j_or _ _) ?_
                  refine J.iastN g 2 rfl (by omega) (by decide) dX11_mostWithout_79 ?_
                  try dsimp only [List.set_cons_zero, List.set_cons_succ]
                  refine J.iincN g 1 dX11_mostWithout_80 rfl rfl ?_
                  try dsimp only [List.set_cons_zero, List.set_cons_succ]
                  refine J.goto g dX11_mostWithout_83 (tgt := 18) (by decide) ?_
                  exact J.lvle (jle_s (jle_s (jle_s (jle_s (jle_s (jle_s (jle_s jle_0))))))) (ih_lq1 (k + 1) _ (by omega) (by omega) (fun j hj => (up_ne (by omega)).trans (h2 j hj)) (lt_s (fun j hj => (up_ne (by omega)).trans (h3 j hj)) (up_at.trans hv)))
          exact J.lvle (jle_s (jle_s (jle_s (jle_s (jle_s (jle_s (jle_s jle_0))))))) (lq1 _ 0 T1 (Nat.lt_succ_self _) (Nat.zero_le _) h1 (fun j h => absurd h (Nat.not_lt_zero _)))
    exact J.lvle (jle_s (jle_s (jle_s (jle_s (jle_s (jle_s (jle_n jle_0))))))) (lp1 _ la nn TB (Nat.lt_succ_self _) (by omega) (by omega) (fun j _ => rfl) rfl)
set_option maxHeartbeats 4000000 in
set_option maxRecDepth 100000 in
theorem c_X11_enough_yes (l : Launch) (γ : jγ) (mo mta mtd msz mto mfr mso mnu mfa mpl mro mnw mrd mkp msn mbf mlv mik msm msu mbe mfe mmy mof msf mlr mty mfm mrn mrb mln mtb : Nat) (mth mfw mse : Int32) (mwd : Int64) (cd n : Nat) (f w : Nat → Nat) (TB : Nat → Nat) (hw : mIs cd n f w) (ho : 1 ≤ god cd ∧ god cd ≤ 6) : jM (S := Nat → Nat) l γ yX11_enough cX11_enough 2 (some .int) ({ frames := 50, cells := 0, slots := 0, locals := 1300 } : Room) [.ref mo] [(mo, .inr (11, [.int mth, .ref mta, .int (nI mtd), .int (nI msz), .int (nI mto), .int (nI mfr), .int (nI mso), .int (nI mnu), .int (nI mfa), .int mfw, .int (nI mpl), .int (nI mro), .long mwd, .ref mnw, .ref mrd, .ref mkp, .ref msn, .ref mbf, .ref mlv, .ref mik, .int (nI msm), .ref msu, .ref mbe, .ref mfe, .ref mmy, .ref mof, .ref msf, .ref mlr, .ref mty, .ref mfm, .ref mrn, .ref mrb, .int (nI mln), .ref mtb, .int mse])), (mnw, .inl (γ.2 0, 17, .inl (fun j => nI (w j)))), (mtb, .inl (γ.2 0, 512, .inl (fun j => nI (TB j))))] (fun u => some (.int (nI (mwt cd (gex cd) 31 0 0 (fun k => if k = 0 then 1 else 0) + 1)))) (fun u => [(mo, .inr (11, [.int (nI 0), .ref mta, .int (nI mtd), .int (nI msz), .int (nI mto), .int (nI mfr), .int (nI mso), .int (nI mnu), .int (nI mfa), .int mfw, .int (nI mpl), .int (nI mro), .long mwd, .ref mnw, .ref mrd, .ref mkp, .ref msn, .ref mbf, .ref mlv, .ref mik, .int (nI msm), .ref msu, .ref mbe, .ref mfe, .ref mmy, .ref mof, .ref msf, .ref mlr, .ref mty, .ref mfm, .ref mrn, .ref mrb, .int (nI mln), .ref mtb, .int mse])), (mnw, .inl (γ.2 0, 17, .inl (fun j => nI (w j)))), (mtb, .inl (γ.2 0, 512, .inl (fun j => nI (u j))))]) (fun u => True) := by
  refine jM.of [some (.ref mo), none] rfl (Nat.le_of_ble_eq_true rfl) (by decide) ?_
  intro x g hE hin
  have hwg := hw.g
  have hw5 := hw.2.2.2.2.2.1
  have hwf := hw.2.2.2.2.2.2
  have hw3 := hw.2.2.1
  have h0 : cd ≠ 0 := fun z => by subst z; have h9 : god 0 = 0 := (by decide +kernel); omega
  have hex := gex_pos cd hw.1 h0
  have hx6 := gex_le cd hw.1
  refine J.aload_n g dX11_enough_0 rfl rfl ?_
  refine J.iconstN g 0 dX11_enough_1 ?_
  refine J.put g jX11 0 (by decide) lf_X11_1 0 rfl rfl (Nat.le_of_ble_eq_true rfl) rfl rfl dX11_enough_2 ?_
  try dsimp only [List.set_cons_zero, List.set_cons_succ]
  refine J.aload_n g dX11_enough_5 rfl rfl ?_
  refine J.callV0 g (c_X11_order l γ _ _ _ _ _ _ _ _ _ _ _ _ _ _ _ _ _ _ _ _ _ _ _ _ _ _ _ _ _ _ _ _ _ _ _ _ _ _ _ _ hw) jy_X11_order lm_X11_186 (q0 := 0) rfl jX11.1 ⟨⟨Nat.le_of_ble_eq_true rfl, Nat.le_of_ble_eq_true rfl⟩, Nat.le_of_ble_eq_true rfl, Nat.le_of_ble_eq_true rfl⟩ (Nat.le_of_ble_eq_true rfl) rfl [0, 1] rfl rfl dX11_enough_6 ?_
  intro _ _
  dsimp only [jpush]
  refine J.iconstN g 1 dX11_enough_9 ?_
  refine J.bipush (v := nI 6) g dX11_enough_10 (by decide +kernel) ?_
  refine J.callS0 g (c_X11_isIn l γ _ _ _ ) jy_X11_isIn lm_X11_157 ⟨⟨Nat.le_of_ble_eq_true rfl, Nat.le_of_ble_eq_true rfl⟩, Nat.le_of_ble_eq_true rfl, Nat.le_of_ble_eq_true rfl⟩ (Nat.le_of_ble_eq_true rfl) rfl [] rfl rfl dX11_enough_12 ?_
  intro _ _
  dsimp only [jpush]
  refine J.if_neB g dX11_enough_15 (tgt := 20) (by decide) (fun c_15 => ?_) (fun c_15 => absurd c_15 (by rw [mIn_nn (by omega) (by omega) (by omega), decide_eq_true (by omega)] at c_15; cases c_15))
  refine J.iconstN g 0 dX11_enough_20 ?_
  refine J.istore_n g dX11_enough_21 rfl rfl rfl ?_
  try dsimp only [List.set_cons_zero, List.set_cons_succ]
  have lp : ∀ (d : Nat) (k : Nat) (T1 : Nat → Nat), 512 - k < d → (k ≤ 512) → (∀ j, j < k → T1 j = 0) → J γ l x [(mo, .inr (11, [.int (nI 0), .ref mta, .int (nI mtd), .int (nI msz), .int (nI mto), .int (nI mfr), .int (nI mso), .int (nI mnu), .int (nI mfa), .int mfw, .int (nI mpl), .int (nI mro), .long mwd, .ref mnw, .ref mrd, .ref mkp, .ref msn, .ref mbf, .ref mlv, .ref mik, .int (nI msm), .ref msu, .ref mbe, .ref mfe, .ref mmy, .ref mof, .ref msf, .ref mlr, .ref mty, .ref mfm, .ref mrn, .ref mrb, .int (nI mln), .ref mtb, .int mse])), (mnw, .inl (γ.2 0, 17, .inl (fun j => nI (w j)))), (mtb, .inl (γ.2 0, 512, .inl (fun j => nI (T1 j))))] [some (.ref mo), some (.int (nI k))] [] 0 0 22 := by
    intro d
    induction d with
    | zero => intro k T1 hm; exact absurd hm (Nat.not_lt_zero _)
    | succ d ih_lp =>
      intro k T1 hm hk h1
      refine J.iload_n g dX11_enough_22 rfl rfl ?_
      refine J.sipush (v := nI 512) g dX11_enough_23 (by decide +kernel) ?_
      refine J.icmp_geN g dX11_enough_26 (tgt := 42) (by decide) (by omega) (by omega) (fun c_26 => ?_) (fun c_26 => ?_)
      · refine J.aload_n g dX11_enough_42 rfl rfl ?_
        refine J.get g jX11 33 (by decide) lf_X11_140 0 rfl rfl dX11_enough_43 ?_
        refine J.iconstN g 0 dX11_enough_46 ?_
        refine J.iconstN g 1 dX11_enough_47 ?_
        refine J.iastN g 2 rfl (by omega) (by decide) dX11_enough_48 ?_
        try dsimp only [List.set_cons_zero, List.set_cons_succ]
        refine J.aload_n g dX11_enough_49 rfl rfl ?_
        refine J.iconstN g 0 dX11_enough_50 ?_
        refine J.iconstN g 0 dX11_enough_51 ?_
        refine J.aload_n g dX11_enough_52 rfl rfl ?_
        refine J.callV0 g (c_X11_exponent l γ _ _ _ _ _ _ _ _ _ _ _ _ _ _ _ _ _ _ _ _ _ _ _ _ _ _ _ _ _ _ _ _ _ _ _ _ _ _ _ _ hw) jy_X11_exponent lm_X11_210 (q0 := 0) rfl jX11.1 ⟨⟨Nat.le_of_ble_eq_true rfl, Nat.le_of_ble_eq_true rfl⟩, Nat.le_of_ble_eq_true rfl, Nat.le_of_ble_eq_true rfl⟩ (Nat.le_of_ble_eq_true rfl) rfl [0, 1] rfl rfl dX11_enough_53 ?_
        intro _ _
        dsimp only [jpush]
        refine J.callV g (c_X11_mostWithout l γ 30 mo mta mtd msz mto mfr mso mnu mfa mpl mro mnw mrd mkp msn mbf mlv mik msm msu mbe mfe mmy mof msf mlr mty mfm mrn mrb mln mtb (nI 0) mfw mse mwd cd n f w _ (fun k => if k = 0 then 1 else 0) (fun _ => 0) 0 0 (gex cd) hw ho.2 ⟨rfl, by omega⟩ rfl (by omega) (fun k hk => by rw [Nat.mul_zero, Nat.zero_add]; unfold va_up; split; (· rfl); (· exact h1 k (by omega))) (fun k hk => by show (if k = 0 then 1 else 0) < _; split <;> decide) (mCn_0 hex)) jy_X11_mostWithout lm_X11_272 (q0 := 0) rfl jX11.1 ⟨⟨Nat.le_of_ble_eq_true rfl, Nat.le_of_ble_eq_true rfl⟩, Nat.le_of_ble_eq_true rfl, Nat.le_of_ble_eq_true rfl⟩ (Nat.le_of_ble_eq_true rfl) rfl [0, 1, 2] rfl (fun _ => rfl) rfl dX11_enough_56 ?_
        intro u_56 h_56
        dsimp only [jput, List.set_cons_zero, List.set_cons_succ, Option.toList, List.append, List.cons_append, List.nil_append, List.append_nil]
        refine J.iconstN g 1 dX11_enough_59 ?_
        refine J.iaddN g dX11_enough_60 ?_
        exact J.iret g hE u_56 rfl trivial rfl ⟨Nat.le_of_ble_eq_true rfl, Nat.le_of_ble_eq_true rfl⟩ dX11_enough_61
      · refine J.aload_n g dX11_enough_29 rfl rfl ?_
        refine J.get g jX11 33 (by decide) lf_X11_140 0 rfl rfl dX11_enough_30 ?_
        refine J.iload_n g dX11_enough_33 rfl rfl ?_
        refine J.iconstN g 0 dX11_enough_34 ?_
        refine J.iastN g 2 rfl (by omega) (by decide) dX11_enough_35 ?_
        try dsimp only [List.set_cons_zero, List.set_cons_succ]
        refine J.iincN g 1 dX11_enough_36 rfl rfl ?_
        try dsimp only [List.set_cons_zero, List.set_cons_succ]
        refine J.goto g dX11_enough_39 (tgt := 22) (by decide) ?_
        exact J.lvle (jle_s (jle_s jle_0)) (ih_lp (k + 1) _ (by omega) (by omega) (up_lt (P := fun _ v => v = 0) h1 rfl))
  exact J.lvle (jle_s (jle_s jle_0)) (lp _ 0 TB (Nat.lt_succ_self _) (Nat.zero_le _) (fun j h => absurd h (Nat.not_lt_zero _)))
set_option maxHeartbeats 4000000 in
set_option maxRecDepth 100000 in
theorem c_X11_enough_no (l : Launch) (γ : jγ) (mo mta mtd msz mto mfr mso mnu mfa mpl mro mnw mrd mkp msn mbf mlv mik msm msu mbe mfe mmy mof msf mlr mty mfm mrn mrb mln mtb : Nat) (mth mfw mse : Int32) (mwd : Int64) (cd n : Nat) (f w : Nat → Nat) (hw : mIs cd n f w) (ho : ¬ (1 ≤ god cd ∧ god cd ≤ 6)) : jM (S := Unit) l γ yX11_enough cX11_enough 2 (some .int) ({ frames := 47, cells := 0, slots := 0, locals := 1226 } : Room) [.ref mo] [(mo, .inr (11, [.int mth, .ref mta, .int (nI mtd), .int (nI msz), .int (nI mto), .int (nI mfr), .int (nI mso), .int (nI mnu), .int (nI mfa), .int mfw, .int (nI mpl), .int (nI mro), .long mwd, .ref mnw, .ref mrd, .ref mkp, .ref msn, .ref mbf, .ref mlv, .ref mik, .int (nI msm), .ref msu, .ref mbe, .ref mfe, .ref mmy, .ref mof, .ref msf, .ref mlr, .ref mty, .ref mfm, .ref mrn, .ref mrb, .int (nI mln), .ref mtb, .int mse])), (mnw, .inl (γ.2 0, 17, .inl (fun j => nI (w j))))] (fun w0 => some (.int (-1))) (fun w0 => [(mo, .inr (11, [.int (nI 0), .ref mta, .int (nI mtd), .int (nI msz), .int (nI mto), .int (nI mfr), .int (nI mso), .int (nI mnu), .int (nI mfa), .int mfw, .int (nI mpl), .int (nI mro), .long mwd, .ref mnw, .ref mrd, .ref mkp, .ref msn, .ref mbf, .ref mlv, .ref mik, .int (nI msm), .ref msu, .ref mbe, .ref mfe, .ref mmy, .ref mof, .ref msf, .ref mlr, .ref mty, .ref mfm, .ref mrn, .ref mrb, .int (nI mln), .ref mtb, .int mse])), (mnw, .inl (γ.2 0, 17, .inl (fun j => nI (w j))))]) (fun w0 => True) := by
  refine jM.of [some (.ref mo), none] rfl (Nat.le_of_ble_eq_true rfl) (by decide) ?_
  intro x g hE hin
  have hwg := hw.g
  have hw5 := hw.2.2.2.2.2.1
  have hwf := hw.2.2.2.2.2.2
  have hw3 := hw.2.2.1
  refine J.aload_n g dX11_enough_0 rfl rfl ?_
  refine J.iconstN g 0 dX11_enough_1 ?_
  refine J.put g jX11 0 (by decide) lf_X11_1 0 rfl rfl (Nat.le_of_ble_eq_true rfl) rfl rfl dX11_enough_2 ?_
  try dsimp only [List.set_cons_zero, List.set_cons_succ]
  refine J.aload_n g dX11_enough_5 rfl rfl ?_
  refine J.callV0 g (c_X11_order l γ _ _ _ _ _ _ _ _ _ _ _ _ _ _ _ _ _ _ _ _ _ _ _ _ _ _ _ _ _ _ _ _ _ _ _ _ _ _ _ _ hw) jy_X11_order lm_X11_186 (q0 := 0) rfl jX11.1 ⟨⟨Nat.le_of_ble_eq_true rfl, Nat.le_of_ble_eq_true rfl⟩, Nat.le_of_ble_eq_true rfl, Nat.le_of_ble_eq_true rfl⟩ (Nat.le_of_ble_eq_true rfl) rfl [0, 1] rfl rfl dX11_enough_6 ?_
  intro _ _
  dsimp only [jpush]
  refine J.iconstN g 1 dX11_enough_9 ?_
  refine J.bipush (v := nI 6) g dX11_enough_10 (by decide +kernel) ?_
  refine J.callS0 g (c_X11_isIn l γ _ _ _ ) jy_X11_isIn lm_X11_157 ⟨⟨Nat.le_of_ble_eq_true rfl, Nat.le_of_ble_eq_true rfl⟩, Nat.le_of_ble_eq_true rfl, Nat.le_of_ble_eq_true rfl⟩ (Nat.le_of_ble_eq_true rfl) rfl [] rfl rfl dX11_enough_12 ?_
  intro _ _
  dsimp only [jpush]
  refine J.if_neB g dX11_enough_15 (tgt := 20) (by decide) (fun c_15 => absurd c_15 (by rw [mIn_nn (by omega) (by omega) (by omega), decide_eq_false ho] at c_15; cases c_15)) (fun c_15 => ?_)
  refine J.iconst (v := -1) g dX11_enough_18 (by decide) ?_
  exact J.iret g hE () rfl trivial rfl ⟨Nat.le_of_ble_eq_true rfl, Nat.le_of_ble_eq_true rfl⟩ dX11_enough_19
