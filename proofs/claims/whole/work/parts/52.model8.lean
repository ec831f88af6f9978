set_option maxHeartbeats 4000000 in
set_option maxRecDepth 100000 in
theorem c_X11_readPut (l : Launch) (γ : jγ) (mo mta mtd msz mfa mpl mro mnw mrd mkp msn mbf mlv mik msm msu mbe mfe mmy mof msf mlr mty mfm mrn mrb mln mtb : Nat) (mth mfw mse : Int32)  (t r : Nat → Nat) (q : jRS) (v : mV) (hB : ∀ j, t j < 256) (hz : msz ≤ 340) (hq : mR msz q v r mro) (h5 : v.2.2.1 = 2) (hcd : q.2.1.1 ≠ 0) (hJ : jRB q) (htf : ∃ tf : Nat → Int32, t = jbs tf) : jM (S := mO) l γ yX11_readPut cX11_readPut 6 (some .boolean) ({ frames := 2, cells := 0, slots := 0, locals := 46 } : Room) [.ref mo] [(mo, .inr (11, [.int mth, .ref mta, .int (nI mtd), .int (nI msz), .int (nI v.1), .int (nI v.2.1), .int (nI v.2.2.1), .int (nI v.2.2.2.1), .int (nI mfa), .int mfw, .int (nI mpl), .int (nI mro), .long v.2.2.2.2, .ref mnw, .ref mrd, .ref mkp, .ref msn, .ref mbf, .ref mlv, .ref mik, .int (nI msm), .ref msu, .ref mbe, .ref mfe, .ref mmy, .ref mof, .ref msf, .ref mlr, .ref mty, .ref mfm, .ref mrn, .ref mrb, .int (nI mln), .ref mtb, .int mse])), (mta, .inl (γ.2 0, 340, .inl (fun j => nI (t j)))), (mrd, .inl (γ.2 0, 17, .inl (fun j => nI (r j))))] (fun u => some (.int (jB u.2.2.2))) (fun u => [(mo, .inr (11, [.int mth, .ref mta, .int (nI mtd), .int (nI msz), .int (nI u.1.1), .int (nI u.1.2.1), .int (nI u.1.2.2.1), .int (nI u.1.2.2.2.1), .int (nI u.2.2.1.1), .int u.2.2.1.2.2, .int (nI u.2.2.1.2.1), .int (nI mro), .long u.1.2.2.2.2, .ref mnw, .ref mrd, .ref mkp, .ref msn, .ref mbf, .ref mlv, .ref mik, .int (nI msm), .ref msu, .ref mbe, .ref mfe, .ref mmy, .ref mof, .ref msf, .ref mlr, .ref mty, .ref mfm, .ref mrn, .ref mrb, .int (nI mln), .ref mtb, .int mse])), (mta, .inl (γ.2 0, 340, .inl (fun j => nI (t j)))), (mrd, .inl (γ.2 0, 17, .inl (fun j => nI (u.2.1 j))))]) (fun u => mRes t msz mro q.1.2.2.1 (jrPut1 t msz q.1.2.2.1 (jrElt t msz 3 0 0 (jrTok t msz q))) (mfa, mpl, mfw) u) := by
  refine jM.of [some (.ref mo), none, none, none, none, none] rfl (Nat.le_of_ble_eq_true rfl) (by decide) ?_
  intro x g hE hin
  have hqs := hq.to.2.1
  obtain ⟨tf, htf⟩ := htf
  have hfr := hq.to.2.2.1
  have hg0 := hq.is.g
  have j150 : ∀ (v3 : mV) (q3 : jRS) (el mm : Nat) (told : Bool), (mR msz q3 v3 r mro) → (q.1.2.2.1 ≤ q3.1.2.2.1) → (q3.2.1.1 ≠ 0) → (jrPut1 t msz q.1.2.2.1 (jrElt t msz 3 0 0 (jrTok t msz q)) = jrPut2 t msz q.1.2.2.1 el told (some mm, q3)) → (el < god q3.2.1.1) → (1 ≤ mm ∧ (told = true → q3.2.2.2.1 + mm ≤ 12) ∧ (told = false → mm = 1)) → (mm < 2 ^ 12) → J γ l x [(mo, .inr (11, [.int mth, .ref mta, .int (nI mtd), .int (nI msz), .int (nI v3.1), .int (nI v3.2.1), .int (nI v3.2.2.1), .int (nI v3.2.2.2.1), .int (nI mfa), .int mfw, .int (nI mpl), .int (nI mro), .long v3.2.2.2.2, .ref mnw, .ref mrd, .ref mkp, .ref msn, .ref mbf, .ref mlv, .ref mik, .int (nI msm), .ref msu, .ref mbe, .ref mfe, .ref mmy, .ref mof, .ref msf, .ref mlr, .ref mty, .ref mfm, .ref mrn, .ref mrb, .int (nI mln), .ref mtb, .int mse])), (mta, .inl (γ.2 0, 340, .inl (fun j => nI (t j)))), (mrd, .inl (γ.2 0, 17, .inl (fun j => nI (r j))))] [some (.ref mo), some (.int (nI v.2.1)), some (.int (nI el)), some (.int (nI mm)), none, none] [] 0 0 150 := by
    intro v3 q3 el mm told hr hps3 hc3 hR hel hm1 hm2
    have hrs := hr.to.2.1
    have hg := hr.is.g
    refine J.aload_n g dX11_readPut_150 rfl rfl ?_
    refine J.get g jX11 6 (by decide) lf_X11_31 0 rfl rfl dX11_readPut_151 ?_
    refine J.iconstN g 4 dX11_readPut_154 ?_
    refine J.icmp_eqN g dX11_readPut_155 (tgt := 164) (by decide) (by omega) (by omega) (fun c_155 => ?_) (fun c_155 => ?_)
    · have hk3 : q3.1.2.1 = 3 := hr.sem.mpr (by omega)
      have hse : jrSemi t msz q3 = (true, jrTok t msz q3) := by rw [jrSemi, if_pos hk3]
      refine J.aload_n g dX11_readPut_164 rfl rfl ?_
      refine J.get g jX11 14 (by decide) lf_X11_88 0 rfl rfl dX11_readPut_165 ?_
      refine J.iconstN g 4 dX11_readPut_168 ?_
      refine J.ialdN g 2 rfl (by omega) (by decide) dX11_readPut_169 ?_
      refine J.iload_n g dX11_readPut_170 rfl rfl ?_
      refine J.iaddN g dX11_readPut_171 ?_
      refine J.bipush (v := nI 12) g dX11_readPut_172 (by decide +kernel) ?_
      refine J.icmp_leN g dX11_readPut_174 (tgt := 184) (by decide) (by omega) (by omega) (fun c_174 => ?_) (fun c_174 => ?_)
      · have htn : ¬ (told = false ∧ 12 ≤ (jrSemi t msz q3).2.2.2.2.1) := by (rw [hse]; rintro ⟨z1, z2⟩; have := hm1.2.2 z1; have z2 : 12 ≤ q3.2.2.2.1 := z2; omega)
        refine J.iconstN g 0 dX11_readPut_184 ?_
        refine J.istore g dX11_readPut_185 rfl rfl ?_
        try dsimp only [List.set_cons_zero, List.set_cons_succ]
        have lk : ∀ (d : Nat) (k : Nat) (r9 : Nat → Nat), mm - k < d → (k ≤ mm) → (mIs q3.2.1.1 (jrApp el k q3).2.2.2.1 (jrApp el k q3).2.2.2.2 r9) → J γ l x [(mo, .inr (11, [.int mth, .ref mta, .int (nI mtd), .int (nI msz), .int (nI v3.1), .int (nI v3.2.1), .int (nI v3.2.2.1), .int (nI v3.2.2.2.1), .int (nI mfa), .int mfw, .int (nI mpl), .int (nI mro), .long v3.2.2.2.2, .ref mnw, .ref mrd, .ref mkp, .ref msn, .ref mbf, .ref mlv, .ref mik, .int (nI msm), .ref msu, .ref mbe, .ref mfe, .ref mmy, .ref mof, .ref msf, .ref mlr, .ref mty, .ref mfm, .ref mrn, .ref mrb, .int (nI mln), .ref mtb, .int mse])), (mta, .inl (γ.2 0, 340, .inl (fun j => nI (t j)))), (mrd, .inl (γ.2 0, 17, .inl (fun j => nI (r9 j))))] [some (.ref mo), some (.int (nI v.2.1)), some (.int (nI el)), some (.int (nI mm)), none, some (.int (nI k))] [] 0 0 187 := by
          intro d
          induction d with
          | zero => intro k r9 hm; exact absurd hm (Nat.not_lt_zero _)
          | succ d ih_lk =>
            intro k r9 hm hk hmk
            refine J.iload g dX11_readPut_187 rfl ?_
            refine J.iload_n g dX11_readPut_189 rfl rfl ?_
            refine J.icmp_geN g dX11_readPut_190 (tgt := 223) (by decide) (by omega) (by omega) (fun c_190 => ?_) (fun c_190 => ?_)
            · refine J.iconstN g 1 dX11_readPut_223 ?_
              exact J.zret (by first | rfl | exact j_nz _) g hE (v3, r9, (mfa, mpl, mfw), true) (jB_t (by rfl)) (mRes_t (hr.app hmk) (by rw [hR, jrPut2_t (n := mm) rfl (by rw [hse]) htn, show mm = k by omega]; exact jrSemi_app hk3) (by rw [(jrApp_1 k).2.1]; exact hc3) (by rw [(jrApp_1 k).1]; exact hps3)) rfl ⟨Nat.le_of_ble_eq_true rfl, Nat.le_of_ble_eq_true rfl⟩ dX11_readPut_224
            · have hgk := hmk.g
              have hap := jrApp_1 (e := el) (q := q3) k
              refine J.aload_n g dX11_readPut_193 rfl rfl ?_
              refine J.get g jX11 14 (by decide) lf_X11_88 0 rfl rfl dX11_readPut_194 ?_
              refine J.iconstN g 5 dX11_readPut_197 ?_
              refine J.aload_n g dX11_readPut_198 rfl rfl ?_
              refine J.get g jX11 14 (by decide) lf_X11_88 0 rfl rfl dX11_readPut_199 ?_
              refine J.iconstN g 4 dX11_readPut_202 ?_
              refine J.ialdN g 2 rfl (by omega) (by decide) dX11_readPut_203 ?_
              refine J.iaddN g dX11_readPut_204 ?_
              refine J.iload_n g dX11_readPut_205 rfl rfl ?_
              refine J.iastN g 2 rfl (by omega) (by decide) dX11_readPut_206 ?_
              try dsimp only [List.set_cons_zero, List.set_cons_succ]
              refine J.aload_n g dX11_readPut_207 rfl rfl ?_
              refine J.get g jX11 14 (by decide) lf_X11_88 0 rfl rfl dX11_readPut_208 ?_
              refine J.iconstN g 4 dX11_readPut_211 ?_
              refine J.dup2 g dX11_readPut_212 rfl rfl ?_
              refine J.ialdN g 2 rfl (by omega) (by decide) dX11_readPut_213 ?_
              refine J.iconstN g 1 dX11_readPut_214 ?_
              refine J.iaddN g dX11_readPut_215 ?_
              refine J.iastN g 2 rfl (by omega) (by decide) dX11_readPut_216 ?_
              try dsimp only [List.set_cons_zero, List.set_cons_succ]
              have hmn : mIs q3.2.1.1 (jrApp el (k + 1) q3).2.2.2.1 (jrApp el (k + 1) q3).2.2.2.2 (va_up (va_up r9 (5 + r9 4) el) 4 (va_up r9 (5 + r9 4) el 4 + 1)) := mIs_come hmk (by omega) hel (fun j hj => by unfold va_up; by_cases z : j = 4; (· rw [if_pos z, if_pos z, if_neg (by omega), hgk.2.2.2.1]); (· rw [if_neg z, if_neg z, hgk.2.2.2.1]))
              refine J.iincN g 1 dX11_readPut_217 rfl rfl ?_
              try dsimp only [List.set_cons_zero, List.set_cons_succ]
              refine J.goto g dX11_readPut_220 (tgt := 187) (by decide) ?_
              exact J.lvle (jle_s (jle_s (jle_s (jle_s (jle_n (jle_s jle_0)))))) (ih_lk (k + 1) _ (by omega) (by omega) hmn)
        exact J.lvle (jle_s (jle_s (jle_s (jle_s (jle_n (jle_s jle_0)))))) (lk _ 0 r (Nat.lt_succ_self _) (Nat.zero_le _) hr.is)
      · have htd : told = false := by (cases told with | false => rfl | true => have := hm1.2.1 rfl; exfalso; omega)
        have hmm1 := hm1.2.2 htd
        refine J.aload_n g dX11_readPut_177 rfl rfl ?_
        refine J.iconstN g 3 dX11_readPut_178 ?_
        refine J.iload_n g dX11_readPut_179 rfl rfl ?_
        refine J.callV g (c_X11_badAt l γ _ _ _ _ _ _ _ _ _ _ _ _ _ _ _ _ _ _ _ _ _ _ _ _ _ _ _ _ _ _ _ _ _ _ _ _ _ _ ) jy_X11_badAt lm_X11_76 (q0 := 0) rfl jX11.1 ⟨⟨Nat.le_of_ble_eq_true rfl, Nat.le_of_ble_eq_true rfl⟩, Nat.le_of_ble_eq_true rfl, Nat.le_of_ble_eq_true rfl⟩ (Nat.le_of_ble_eq_true rfl) rfl [0] rfl (fun _ => rfl) rfl dX11_readPut_180 ?_
        intro _ _
        dsimp only [jput, List.set_cons_zero, List.set_cons_succ, Option.toList, List.append, List.cons_append, List.nil_append, List.append_nil]
        exact J.zret (by first | rfl | exact j_nz _) g hE (v3, r, (3, v.2.1, nI mro), false) rfl (mRes_f2 hr (by rw [hR, jrPut2_3 (n := mm) rfl (by rw [hse]) ⟨htd, by rw [hse]; show 12 ≤ q3.2.2.2.1; omega⟩]) (by rw [hR, jrPut2_3 (n := mm) rfl (by rw [hse]) ⟨htd, by rw [hse]; show 12 ≤ q3.2.2.2.1; omega⟩, hse, hr.to.2.2.2, hfr]; rfl) (show (3 : Nat) ≠ 0 by decide)) rfl ⟨Nat.le_of_ble_eq_true rfl, Nat.le_of_ble_eq_true rfl⟩ dX11_readPut_183
    · have hk3 : ¬ q3.1.2.1 = 3 := fun z => c_155 (by have := hr.sem.mp z; omega)
      refine J.aload_n g dX11_readPut_158 rfl rfl ?_
      refine J.iconstN g 1 dX11_readPut_159 ?_
      refine J.callV g (c_X11_bad l γ _ _ _ _ _ _ _ _ _ _ _ _ _ _ _ _ _ _ _ _ _ _ _ _ _ _ _ _ _ _ _ _ _ _ _ _ _ (by omega)) jy_X11_bad lm_X11_146 (q0 := 0) rfl jX11.1 ⟨⟨Nat.le_of_ble_eq_true rfl, Nat.le_of_ble_eq_true rfl⟩, Nat.le_of_ble_eq_true rfl, Nat.le_of_ble_eq_true rfl⟩ (Nat.le_of_ble_eq_true rfl) rfl [0] rfl (fun _ => rfl) rfl dX11_readPut_160 ?_
      intro _ _
      dsimp only [jput, List.set_cons_zero, List.set_cons_succ, Option.toList, List.append, List.cons_append, List.nil_append, List.append_nil]
      exact J.zret (by first | rfl | exact j_nz _) g hE (v3, r, (1, v3.2.1, nI mro), false) rfl (mRes_f (q := q3) (k := 1) (pl := q3.1.2.2.1) hr (by have hs0 : (jrSemi t msz q3) = (false, jrFail 1 q3.1.2.2.1 q3) := if_neg hk3; rw [hR, jrPut2_s (n := mm) rfl (by rw [hs0]), hs0]) rfl hr.to.2.2.1 (by decide)) (by rw [ite_self]) ⟨Nat.le_of_ble_eq_true rfl, Nat.le_of_ble_eq_true rfl⟩ dX11_readPut_163
  refine J.aload_n g dX11_readPut_0 rfl rfl ?_
  refine J.get g jX11 5 (by decide) lf_X11_28 0 rfl rfl dX11_readPut_1 ?_
  refine J.istore_n g dX11_readPut_4 rfl rfl rfl ?_
  try dsimp only [List.set_cons_zero, List.set_cons_succ]
  refine J.aload_n g dX11_readPut_5 rfl rfl ?_
  refine J.callV g (c_X11_next l γ _ _ _ _ _ _ _ _ _ _ _ _ _ _ _ _ _ _ _ _ _ _ _ _ _ _ _ _ _ _ _ _ _ _ _ _ _ hB hz hq.to.1) jy_X11_next lm_X11_143 (q0 := 0) rfl jX11.1 ⟨⟨Nat.le_of_ble_eq_true rfl, Nat.le_of_ble_eq_true rfl⟩, Nat.le_of_ble_eq_true rfl, Nat.le_of_ble_eq_true rfl⟩ (Nat.le_of_ble_eq_true rfl) rfl [0, 1] rfl (fun _ => rfl) rfl dX11_readPut_6 ?_
  intro u_6 h_6
  dsimp only [jput, List.set_cons_zero, List.set_cons_succ, Option.toList, List.append, List.cons_append, List.nil_append, List.append_nil]
  have hr6 := hq.next (t := t) (by omega) (by omega) h_6
  refine J.iconstN g 0 dX11_readPut_9 ?_
  refine J.istore_n g dX11_readPut_10 rfl rfl rfl ?_
  try dsimp only [List.set_cons_zero, List.set_cons_succ]
  refine J.iconstN g 0 dX11_readPut_11 ?_
  refine J.istore_n g dX11_readPut_12 rfl rfl rfl ?_
  try dsimp only [List.set_cons_zero, List.set_cons_succ]
  have lp : ∀ (d : Nat) (v9 : mV) (el i : Nat) (q9 : jRS), gpt q9.2.1.1 - i < d → (mR msz q9 v9 r mro) → (jRB q9) → (i ≤ gpt q9.2.1.1) → (el < gpr q9.2.1.1 i) → (q9.2.1.1 = q.2.1.1) → (q.1.2.2.1 ≤ q9.1.2.2.1) → (jrElt t msz 3 0 0 (jrTok t msz q) = jrElt t msz (3 - i) i el q9) → J γ l x [(mo, .inr (11, [.int mth, .ref mta, .int (nI mtd), .int (nI msz), .int (nI v9.1), .int (nI v9.2.1), .int (nI v9.2.2.1), .int (nI v9.2.2.2.1), .int (nI mfa), .int mfw, .int (nI mpl), .int (nI mro), .long v9.2.2.2.2, .ref mnw, .ref mrd, .ref mkp, .ref msn, .ref mbf, .ref mlv, .ref mik, .int (nI msm), .ref msu, .ref mbe, .ref mfe, .ref mmy, .ref mof, .ref msf, .ref mlr, .ref mty, .ref mfm, .ref mrn, .ref mrb, .int (nI mln), .ref mtb, .int mse])), (mta, .inl (γ.2 0, 340, .inl (fun j => nI (t j)))), (mrd, .inl (γ.2 0, 17, .inl (fun j => nI (r j))))] [some (.ref mo), some (.int (nI v.2.1)), some (.int (nI el)), some (.int (nI i)), none, none] [] 0 0 13 := by
    intro d
    induction d with
    | zero => intro v9 el i q9 hm; exact absurd hm (Nat.not_lt_zero _)
    | succ d ih_lp =>
      intro v9 el i q9 hm hr hJ9 hi hel hc9 hps hE9
      have hrs := hr.to.2.1
      have hg := hr.is.g
      have hnn := hr.num
      have hnb := hJ9.1.2.2.2
      refine J.iload_n g dX11_readPut_13 rfl rfl ?_
      refine J.aload_n g dX11_readPut_14 rfl rfl ?_
      refine J.get g jX11 14 (by decide) lf_X11_88 0 rfl rfl dX11_readPut_15 ?_
      refine J.iconstN g 0 dX11_readPut_18 ?_
      refine J.ialdN g 2 rfl (by omega) (by decide) dX11_readPut_19 ?_
      refine J.icmp_geN g dX11_readPut_20 (tgt := 84) (by decide) (by omega) (by omega) (fun c_20 => ?_) (fun c_20 => ?_)
      · have hie : i = gpt q9.2.1.1 := by omega
        have hEe : jrElt t msz 3 0 0 (jrTok t msz q) = (some el, q9) := by rw [hE9]; exact jrElt_e9 hr.is.1 hie
        have helg : el < god q9.2.1.1 := by rw [hie] at hel; exact hel
        refine J.iconstN g 1 dX11_readPut_84 ?_
        refine J.istore_n g dX11_readPut_85 rfl rfl rfl ?_
        try dsimp only [List.set_cons_zero, List.set_cons_succ]
        refine J.aload_n g dX11_readPut_86 rfl rfl ?_
        refine J.callV0 g (c_X11_isTimes l γ _ _ _ _ _ _ _ _ _ _ _ _ _ _ _ _ _ _ _ _ _ _ _ _ _ _ _ _ _ _ _ _ _ _ _ _ (by omega)) jy_X11_isTimes lm_X11_153 (q0 := 0) rfl jX11.1 ⟨⟨Nat.le_of_ble_eq_true rfl, Nat.le_of_ble_eq_true rfl⟩, Nat.le_of_ble_eq_true rfl, Nat.le_of_ble_eq_true rfl⟩ (Nat.le_of_ble_eq_true rfl) rfl [0] rfl rfl dX11_readPut_87 ?_
        intro _ _
        dsimp only [jpush]
        rw [WT_eq]
        refine J.istore g dX11_readPut_90 rfl rfl ?_
        try dsimp only [List.set_cons_zero, List.set_cons_succ]
        refine J.iload g dX11_readPut_92 rfl ?_
        refine J.if_eqB g dX11_readPut_94 (tgt := 150) (by decide) (fun c_94 => ?_) (fun c_94 => ?_)
        · have hk6 : ¬ q9.1.2.1 = 6 := fun z => hr.w2n c_94 (hr.wt.mp z)
          have hr3 := hr
          have hps3 := hps
          have hc3 : q9.2.1.1 ≠ 0 := by rw [hc9]; exact hcd
          have hR3 : jrPut1 t msz q.1.2.2.1 (jrElt t msz 3 0 0 (jrTok t msz q)) = jrPut2 t msz q.1.2.2.1 el false (some 1, q9) := by rw [jrPut1_f (e := el) (by rw [hEe]) (by rw [hEe]; exact hk6), hEe]
          have hel3 := helg
          have hmm3 : 1 ≤ 1 ∧ (false = true → q9.2.2.2.1 + 1 ≤ 12) ∧ (false = false → 1 = 1) := ⟨Nat.le_refl _, fun z => (by cases z), fun _ => rfl⟩
          exact J.lvle (jle_s (jle_s (jle_s (jle_s (jle_n (jle_n jle_0)))))) (j150 _ _ _ _ _ hr3 hps3 hc3 hR3 hel3 hmm3 (by omega))
        · have hw2 := hr.w2 c_94
          have hk6 : q9.1.2.1 = 6 := hr.wt.mpr hw2
          have hw3 := hw2.1
          have hRt : jrPut1 t msz q.1.2.2.1 (jrElt t msz 3 0 0 (jrTok t msz q)) = jrPut2 t msz q.1.2.2.1 el true (jrHow t msz (jrTok t msz q9)) := by rw [jrPut1_t (e := el) (by rw [hEe]) (by rw [hEe]; exact hk6), hEe]
          refine J.aload_n g dX11_readPut_97 rfl rfl ?_
          refine J.callV g (c_X11_next l γ _ _ _ _ _ _ _ _ _ _ _ _ _ _ _ _ _ _ _ _ _ _ _ _ _ _ _ _ _ _ _ _ _ _ _ _ _ hB hz hr.to.1) jy_X11_next lm_X11_143 (q0 := 0) rfl jX11.1 ⟨⟨Nat.le_of_ble_eq_true rfl, Nat.le_of_ble_eq_true rfl⟩, Nat.le_of_ble_eq_true rfl, Nat.le_of_ble_eq_true rfl⟩ (Nat.le_of_ble_eq_true rfl) rfl [0, 1] rfl (fun _ => rfl) rfl dX11_readPut_98 ?_
          intro u_98 h_98
          dsimp only [jput, List.set_cons_zero, List.set_cons_succ, Option.toList, List.append, List.cons_append, List.nil_append, List.append_nil]
          have hr98 := hr.next (t := t) (by omega) (by omega) h_98
          have hs98 := hr98.to.2.1
          have hn98 := hr98.num
          have hg98 := hr98.is.g
          have hb98 : (jrTok t msz q9).1.2.2.2 < 2 ^ 12 := by rw [htf]; exact (hJ9.tok hz).1.2.2.2
          refine J.aload_n g dX11_readPut_101 rfl rfl ?_
          refine J.get g jX11 6 (by decide) lf_X11_31 0 rfl rfl dX11_readPut_102 ?_
          refine J.iconstN g 3 dX11_readPut_105 ?_
          refine J.icmp_eqN g dX11_readPut_106 (tgt := 115) (by decide) (by omega) (by omega) (fun c_106 => ?_) (fun c_106 => ?_)
          · have hk98 : (jrTok t msz q9).1.2.1 = 2 := hn98.1.mpr (by omega)
            have hnu98 := hn98.2 (by omega)
            have hrn98 : r 4 = q9.2.2.2.1 := hg98.2.2.2.1
            refine J.aload_n g dX11_readPut_115 rfl rfl ?_
            refine J.get g jX11 7 (by decide) lf_X11_45 0 rfl rfl dX11_readPut_116 ?_
            refine J.iconstN g 1 dX11_readPut_119 ?_
            refine J.bipush (v := nI 12) g dX11_readPut_120 (by decide +kernel) ?_
            refine J.aload_n g dX11_readPut_122 rfl rfl ?_
            refine J.get g jX11 14 (by decide) lf_X11_88 0 rfl rfl dX11_readPut_123 ?_
            refine J.iconstN g 4 dX11_readPut_126 ?_
            refine J.ialdN g 2 rfl (by omega) (by decide) dX11_readPut_127 ?_
            refine J.isubN g dX11_readPut_128 (by omega) ?_
            refine J.callS0 g (c_X11_isIn l γ _ _ _ ) jy_X11_isIn lm_X11_157 ⟨⟨Nat.le_of_ble_eq_true rfl, Nat.le_of_ble_eq_true rfl⟩, Nat.le_of_ble_eq_true rfl, Nat.le_of_ble_eq_true rfl⟩ (Nat.le_of_ble_eq_true rfl) rfl [] rfl rfl dX11_readPut_129 ?_
            intro _ _
            dsimp only [jpush]
            rw [mIn_nn (by omega) (by omega) (by omega)]
            refine J.if_neB g dX11_readPut_132 (tgt := 141) (by decide) (fun c_132 => ?_) (fun c_132 => ?_)
            · have hin := of_decide_eq_true c_132
              refine J.aload_n g dX11_readPut_141 rfl rfl ?_
              refine J.get g jX11 7 (by decide) lf_X11_45 0 rfl rfl dX11_readPut_142 ?_
              refine J.istore_n g dX11_readPut_145 rfl rfl rfl ?_
              try dsimp only [List.set_cons_zero, List.set_cons_succ]
              refine J.aload_n g dX11_readPut_146 rfl rfl ?_
              refine J.callV g (c_X11_next l γ _ _ _ _ _ _ _ _ _ _ _ _ _ _ _ _ _ _ _ _ _ _ _ _ _ _ _ _ _ _ _ _ _ _ _ _ _ hB hz hr98.to.1) jy_X11_next lm_X11_143 (q0 := 0) rfl jX11.1 ⟨⟨Nat.le_of_ble_eq_true rfl, Nat.le_of_ble_eq_true rfl⟩, Nat.le_of_ble_eq_true rfl, Nat.le_of_ble_eq_true rfl⟩ (Nat.le_of_ble_eq_true rfl) rfl [0, 1] rfl (fun _ => rfl) rfl dX11_readPut_147 ?_
              intro u_147 h_147
              dsimp only [jput, List.set_cons_zero, List.set_cons_succ, Option.toList, List.append, List.cons_append, List.nil_append, List.append_nil]
              have hr3 := hr98.next (t := t) (by omega) (by omega) h_147
              have hps3 : q.1.2.2.1 ≤ (jrTok t msz (jrTok t msz q9)).1.2.2.1 := by have z1 := hr.pos (t := t) (by omega) (by omega); have z2 := hr98.pos (t := t) (by omega) (by omega); omega
              have hc3 : (jrTok t msz (jrTok t msz q9)).2.1.1 ≠ 0 := by show q9.2.1.1 ≠ 0; rw [hc9]; exact hcd
              have hR3 : jrPut1 t msz q.1.2.2.1 (jrElt t msz 3 0 0 (jrTok t msz q)) = jrPut2 t msz q.1.2.2.1 el true (some u_98.2.2.2.1, jrTok t msz (jrTok t msz q9)) := by rw [hRt, jrHow, if_neg (fun z => z hk98), if_neg (by omega), hnu98]
              have hel3 : el < god (jrTok t msz (jrTok t msz q9)).2.1.1 := helg
              have hmm3 : 1 ≤ u_98.2.2.2.1 ∧ (true = true → (jrTok t msz (jrTok t msz q9)).2.2.2.1 + u_98.2.2.2.1 ≤ 12) ∧ (true = false → u_98.2.2.2.1 = 1) := ⟨by omega, fun _ => by show q9.2.2.2.1 + _ ≤ 12; omega, fun z => by cases z⟩
              exact J.lvle (jle_s (jle_s (jle_s (jle_s (jle_n (jle_n jle_0)))))) (j150 _ _ _ _ _ hr3 hps3 hc3 hR3 hel3 hmm3 (by omega))
            · have hin := of_decide_eq_false c_132
              refine J.aload_n g dX11_readPut_135 rfl rfl ?_
              refine J.iconstN g 2 dX11_readPut_136 ?_
              refine J.callV g (c_X11_bad l γ _ _ _ _ _ _ _ _ _ _ _ _ _ _ _ _ _ _ _ _ _ _ _ _ _ _ _ _ _ _ _ _ _ _ _ _ _ (by omega)) jy_X11_bad lm_X11_146 (q0 := 0) rfl jX11.1 ⟨⟨Nat.le_of_ble_eq_true rfl, Nat.le_of_ble_eq_true rfl⟩, Nat.le_of_ble_eq_true rfl, Nat.le_of_ble_eq_true rfl⟩ (Nat.le_of_ble_eq_true rfl) rfl [0] rfl (fun _ => rfl) rfl dX11_readPut_137 ?_
              intro _ _
              dsimp only [jput, List.set_cons_zero, List.set_cons_succ, Option.toList, List.append, List.cons_append, List.nil_append, List.append_nil]
              exact J.zret (by first | rfl | exact j_nz _) g hE (u_98, r, (2, u_98.2.1, nI mro), false) rfl (mRes_f (q := jrTok t msz q9) (k := 2) (pl := (jrTok t msz q9).1.2.2.1) hr98 (by rw [hRt, jrHow, if_neg (fun z => z hk98), if_pos (by show _ ∨ 12 < q9.2.2.2.1 + _; omega)]; exact jrPut2_n rfl) rfl hr98.to.2.2.1 (by decide)) (by rw [if_neg (by omega)]) ⟨Nat.le_of_ble_eq_true rfl, Nat.le_of_ble_eq_true rfl⟩ dX11_readPut_140
          · have hk98 : ¬ (jrTok t msz q9).1.2.1 = 2 := fun z => c_106 (by have := hn98.1.mp z; omega)
            refine J.aload_n g dX11_readPut_109 rfl rfl ?_
            refine J.iconstN g 1 dX11_readPut_110 ?_
            refine J.callV g (c_X11_bad l γ _ _ _ _ _ _ _ _ _ _ _ _ _ _ _ _ _ _ _ _ _ _ _ _ _ _ _ _ _ _ _ _ _ _ _ _ _ (by omega)) jy_X11_bad lm_X11_146 (q0 := 0) rfl jX11.1 ⟨⟨Nat.le_of_ble_eq_true rfl, Nat.le_of_ble_eq_true rfl⟩, Nat.le_of_ble_eq_true rfl, Nat.le_of_ble_eq_true rfl⟩ (Nat.le_of_ble_eq_true rfl) rfl [0] rfl (fun _ => rfl) rfl dX11_readPut_111 ?_
            intro _ _
            dsimp only [jput, List.set_cons_zero, List.set_cons_succ, Option.toList, List.append, List.cons_append, List.nil_append, List.append_nil]
            exact J.zret (by first | rfl | exact j_nz _) g hE (u_98, r, (1, u_98.2.1, nI mro), false) rfl (mRes_f (q := jrTok t msz q9) (k := 1) (pl := (jrTok t msz q9).1.2.2.1) hr98 (by rw [hRt, jrHow, if_pos hk98]; exact jrPut2_n rfl) rfl hr98.to.2.2.1 (by decide)) (by rw [ite_self]) ⟨Nat.le_of_ble_eq_true rfl, Nat.le_of_ble_eq_true rfl⟩ dX11_readPut_114
      · have hst := jrElt_s9 (B := t) (len := msz) (el := el) hr.is.1 (show i < gpt q9.2.1.1 by omega)
        have hsz : r (1 + i) = gsz q9.2.1.1 i := hr.is.2.2.1 i (by omega)
        have hszl := gsz_lt q9.2.1.1 i
        refine J.aload_n g dX11_readPut_23 rfl rfl ?_
        refine J.get g jX11 6 (by decide) lf_X11_31 0 rfl rfl dX11_readPut_24 ?_
        refine J.iconstN g 3 dX11_readPut_27 ?_
        refine J.icmp_eqN g dX11_readPut_28 (tgt := 37) (by decide) (by omega) (by omega) (fun c_28 => ?_) (fun c_28 => ?_)
        · have hk2 : q9.1.2.1 = 2 := hnn.1.mpr (by omega)
          have hnu := hnn.2 (by omega)
          refine J.aload_n g dX11_readPut_37 rfl rfl ?_
          refine J.get g jX11 7 (by decide) lf_X11_45 0 rfl rfl dX11_readPut_38 ?_
          refine J.aload_n g dX11_readPut_41 rfl rfl ?_
          refine J.get g jX11 14 (by decide) lf_X11_88 0 rfl rfl dX11_readPut_42 ?_
          refine J.iconstN g 1 dX11_readPut_45 ?_
          refine J.iload_n g dX11_readPut_46 rfl rfl ?_
          refine J.iaddN g dX11_readPut_47 ?_
          refine J.ialdN g 2 rfl (by omega) (by decide) dX11_readPut_48 ?_
          refine J.icmp_ltN g dX11_readPut_49 (tgt := 58) (by decide) (by omega) (by omega) (fun c_49 => ?_) (fun c_49 => ?_)
          · refine J.iload_n g dX11_readPut_58 rfl rfl ?_
            refine J.aload_n g dX11_readPut_59 rfl rfl ?_
            refine J.get g jX11 14 (by decide) lf_X11_88 0 rfl rfl dX11_readPut_60 ?_
            refine J.iconstN g 1 dX11_readPut_63 ?_
            refine J.iload_n g dX11_readPut_64 rfl rfl ?_
            refine J.iaddN g dX11_readPut_65 ?_
            refine J.ialdN g 2 rfl (by omega) (by decide) dX11_readPut_66 ?_
            refine J.imulN g dX11_readPut_67 ?_
            refine J.aload_n g dX11_readPut_68 rfl rfl ?_
            refine J.get g jX11 7 (by decide) lf_X11_45 0 rfl rfl dX11_readPut_69 ?_
            refine J.iaddN g dX11_readPut_72 ?_
            refine J.istore_n g dX11_readPut_73 rfl rfl rfl ?_
            try dsimp only [List.set_cons_zero, List.set_cons_succ]
            refine J.aload_n g dX11_readPut_74 rfl rfl ?_
            refine J.callV g (c_X11_next l γ _ _ _ _ _ _ _ _ _ _ _ _ _ _ _ _ _ _ _ _ _ _ _ _ _ _ _ _ _ _ _ _ _ _ _ _ _ hB hz hr.to.1) jy_X11_next lm_X11_143 (q0 := 0) rfl jX11.1 ⟨⟨Nat.le_of_ble_eq_true rfl, Nat.le_of_ble_eq_true rfl⟩, Nat.le_of_ble_eq_true rfl, Nat.le_of_ble_eq_true rfl⟩ (Nat.le_of_ble_eq_true rfl) rfl [0, 1] rfl (fun _ => rfl) rfl dX11_readPut_75 ?_
            intro u_75 h_75
            dsimp only [jput, List.set_cons_zero, List.set_cons_succ, Option.toList, List.append, List.cons_append, List.nil_append, List.append_nil]
            have hr75 := hr.next (t := t) (by omega) (by omega) h_75
            have hgq : gpt (jrTok t msz q9).2.1.1 = gpt q9.2.1.1 := rfl
            refine J.iincN g 1 dX11_readPut_78 rfl rfl ?_
            try dsimp only [List.set_cons_zero, List.set_cons_succ]
            refine J.goto g dX11_readPut_81 (tgt := 13) (by decide) ?_
            exact J.lvle (jle_s (jle_s (jle_s (jle_s (jle_n (jle_n jle_0)))))) (ih_lp u_75 (el * r (1 + i) + v9.2.2.2.1) (i + 1) (jrTok t msz q9) (by omega) hr75 (by rw [htf]; exact hJ9.tok hz) (by show i + 1 ≤ gpt q9.2.1.1; omega) (by show _ < gpr q9.2.1.1 (i + 1); rw [hsz, hnu]; exact gpr_s hel (by omega)) hc9 (by have := hr.pos (t := t) (by omega) (by omega); omega) (by rw [hE9, hst, if_neg (fun z => z hk2), if_neg (by omega), hsz, hnu]))
          · refine J.aload_n g dX11_readPut_52 rfl rfl ?_
            refine J.iconstN g 2 dX11_readPut_53 ?_
            refine J.callV g (c_X11_bad l γ _ _ _ _ _ _ _ _ _ _ _ _ _ _ _ _ _ _ _ _ _ _ _ _ _ _ _ _ _ _ _ _ _ _ _ _ _ (by omega)) jy_X11_bad lm_X11_146 (q0 := 0) rfl jX11.1 ⟨⟨Nat.le_of_ble_eq_true rfl, Nat.le_of_ble_eq_true rfl⟩, Nat.le_of_ble_eq_true rfl, Nat.le_of_ble_eq_true rfl⟩ (Nat.le_of_ble_eq_true rfl) rfl [0] rfl (fun _ => rfl) rfl dX11_readPut_54 ?_
            intro _ _
            dsimp only [jput, List.set_cons_zero, List.set_cons_succ, Option.toList, List.append, List.cons_append, List.nil_append, List.append_nil]
            exact J.zret (by first | rfl | exact j_nz _) g hE (v9, r, (2, v9.2.1, nI mro), false) rfl (mRes_f (q := q9) (k := 2) (pl := q9.1.2.2.1) hr (by rw [hE9, hst, if_neg (fun z => z hk2), if_pos (by omega)]; exact jrPut1_n rfl) rfl hr.to.2.2.1 (by decide)) (by rw [if_neg (by omega)]) ⟨Nat.le_of_ble_eq_true rfl, Nat.le_of_ble_eq_true rfl⟩ dX11_readPut_57
        · have hk2 : ¬ q9.1.2.1 = 2 := fun z => c_28 (by have := hnn.1.mp z; omega)
          refine J.aload_n g dX11_readPut_31 rfl rfl ?_
          refine J.iconstN g 1 dX11_readPut_32 ?_
          refine J.callV g (c_X11_bad l γ _ _ _ _ _ _ _ _ _ _ _ _ _ _ _ _ _ _ _ _ _ _ _ _ _ _ _ _ _ _ _ _ _ _ _ _ _ (by omega)) jy_X11_bad lm_X11_146 (q0 := 0) rfl jX11.1 ⟨⟨Nat.le_of_ble_eq_true rfl, Nat.le_of_ble_eq_true rfl⟩, Nat.le_of_ble_eq_true rfl, Nat.le_of_ble_eq_true rfl⟩ (Nat.le_of_ble_eq_true rfl) rfl [0] rfl (fun _ => rfl) rfl dX11_readPut_33 ?_
          intro _ _
          dsimp only [jput, List.set_cons_zero, List.set_cons_succ, Option.toList, List.append, List.cons_append, List.nil_append, List.append_nil]
          exact J.zret (by first | rfl | exact j_nz _) g hE (v9, r, (1, v9.2.1, nI mro), false) rfl (mRes_f (q := q9) (k := 1) (pl := q9.1.2.2.1) hr (by rw [hE9, hst, if_pos hk2]; exact jrPut1_n rfl) rfl hr.to.2.2.1 (by decide)) (by rw [ite_self]) ⟨Nat.le_of_ble_eq_true rfl, Nat.le_of_ble_eq_true rfl⟩ dX11_readPut_36
  exact J.lvle (jle_s (jle_s (jle_s (jle_s (jle_n (jle_n jle_0)))))) (lp _ u_6 0 0 (jrTok t msz q) (Nat.lt_succ_self _) hr6 (by rw [htf]; exact hJ.tok hz) (Nat.zero_le _) (by show 0 < gpr q.2.1.1 0; rw [gpr, if_neg hcd]; omega) rfl (by have := hq.pos (t := t) (by omega) (by omega); omega) rfl)
