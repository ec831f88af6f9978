set_option maxHeartbeats 4000000 in
set_option maxRecDepth 100000 in
theorem c_X11_laysSigns (l : Launch) (γ : jγ) (mo mta mtd msz mto mfr mso mnu mfa mpl mro mnw mrd mkp msn mbf mlv mik msm msu mbe mfe mmy mof msf mlr mty mfm mrn mrb mln mtb : Nat) (mth mfw mse : Int32) (mwd : Int64) (cd n : Nat) (f w : Nat → Nat) (O : Nat → Nat) (S : Nat → Bool) (hw : mIs cd n f w) : jM (S := (Nat → Nat) × (Nat → Bool)) l γ yX11_laysSigns cX11_laysSigns 9 none ({ frames := 3, cells := 0, slots := 0, locals := 74 } : Room) [.ref mo] [(mo, .inr (11, [.int mth, .ref mta, .int (nI mtd), .int (nI msz), .int (nI mto), .int (nI mfr), .int (nI mso), .int (nI mnu), .int (nI mfa), .int mfw, .int (nI mpl), .int (nI mro), .long mwd, .ref mnw, .ref mrd, .ref mkp, .ref msn, .ref mbf, .ref mlv, .ref mik, .int (nI msm), .ref msu, .ref mbe, .ref mfe, .ref mmy, .ref mof, .ref msf, .ref mlr, .ref mty, .ref mfm, .ref mrn, .ref mrb, .int (nI mln), .ref mtb, .int mse])), (mnw, .inl (γ.2 0, 17, .inl (fun j => nI (w j)))), (mof, .inl (γ.2 0, 325, .inl (fun j => nI (O j)))), (msf, .inl (γ.2 2, 325, .inl (fun j => jB (S j))))] (fun u => none) (fun u => [(mo, .inr (11, [.int mth, .ref mta, .int (nI mtd), .int (nI msz), .int (nI mto), .int (nI mfr), .int (nI mso), .int (nI mnu), .int (nI mfa), .int mfw, .int (nI mpl), .int (nI mro), .long mwd, .ref mnw, .ref mrd, .ref mkp, .ref msn, .ref mbf, .ref mlv, .ref mik, .int (nI msm), .ref msu, .ref mbe, .ref mfe, .ref mmy, .ref mof, .ref msf, .ref mlr, .ref mty, .ref mfm, .ref mrn, .ref mrb, .int (nI mln), .ref mtb, .int mse])), (mnw, .inl (γ.2 0, 17, .inl (fun j => nI (w j)))), (mof, .inl (γ.2 0, 325, .inl (fun j => nI (u.1 j)))), (msf, .inl (γ.2 2, 325, .inl (fun j => jB (u.2 j))))]) (fun u => mSG cd f n u.1 u.2 0) := by
  refine jM.of [some (.ref mo), none, none, none, none, none, none, none, none] rfl (Nat.le_of_ble_eq_true rfl) (by decide) ?_
  intro x g hE hin
  have hwg := hw.g
  have hw5 := hw.2.2.2.2.2.1
  have hwf := hw.2.2.2.2.2.2
  have hw3 := hw.2.2.1
  refine J.aload_n g dX11_laysSigns_0 rfl rfl ?_
  refine J.callV0 g (c_X11_places l γ _ _ _ _ _ _ _ _ _ _ _ _ _ _ _ _ _ _ _ _ _ _ _ _ _ _ _ _ _ _ _ _ _ _ _ _ _ _ _ _ hw) jy_X11_places lm_X11_190 (q0 := 0) rfl jX11.1 ⟨⟨Nat.le_of_ble_eq_true rfl, Nat.le_of_ble_eq_true rfl⟩, Nat.le_of_ble_eq_true rfl, Nat.le_of_ble_eq_true rfl⟩ (Nat.le_of_ble_eq_true rfl) rfl [0, 1] rfl rfl dX11_laysSigns_1 ?_
  intro _ _
  dsimp only [jpush]
  refine J.istore_n g dX11_laysSigns_4 rfl rfl rfl ?_
  try dsimp only [List.set_cons_zero, List.set_cons_succ]
  refine J.iconstN g 0 dX11_laysSigns_5 ?_
  refine J.istore_n g dX11_laysSigns_6 rfl rfl rfl ?_
  try dsimp only [List.set_cons_zero, List.set_cons_succ]
  have lp : ∀ (d : Nat) (y : Nat) (O1 : Nat → Nat) (S1 : Nat → Bool), god cd - y < d → (y ≤ god cd) → (∀ z, z < y → O1 (25 * n + z) = mon cd f n (n - n) z ∧ S1 (25 * n + z) = msgS cd f n (n - n) z) → J γ l x [(mo, .inr (11, [.int mth, .ref mta, .int (nI mtd), .int (nI msz), .int (nI mto), .int (nI mfr), .int (nI mso), .int (nI mnu), .int (nI mfa), .int mfw, .int (nI mpl), .int (nI mro), .long mwd, .ref mnw, .ref mrd, .ref mkp, .ref msn, .ref mbf, .ref mlv, .ref mik, .int (nI msm), .ref msu, .ref mbe, .ref mfe, .ref mmy, .ref mof, .ref msf, .ref mlr, .ref mty, .ref mfm, .ref mrn, .ref mrb, .int (nI mln), .ref mtb, .int mse])), (mnw, .inl (γ.2 0, 17, .inl (fun j => nI (w j)))), (mof, .inl (γ.2 0, 325, .inl (fun j => nI (O1 j)))), (msf, .inl (γ.2 2, 325, .inl (fun j => jB (S1 j))))] [some (.ref mo), some (.int (nI n)), some (.int (nI y)), none, none, none, none, none, none] [] 0 0 7 := by
    intro d
    induction d with
    | zero => intro y O1 S1 hm; exact absurd hm (Nat.not_lt_zero _)
    | succ d ih_lp =>
      intro y O1 S1 hm hy hh
      refine J.iload_n g dX11_laysSigns_7 rfl rfl ?_
      refine J.aload_n g dX11_laysSigns_8 rfl rfl ?_
      refine J.callV0 g (c_X11_order l γ _ _ _ _ _ _ _ _ _ _ _ _ _ _ _ _ _ _ _ _ _ _ _ _ _ _ _ _ _ _ _ _ _ _ _ _ _ _ _ _ hw) jy_X11_order lm_X11_186 (q0 := 0) rfl jX11.1 ⟨⟨Nat.le_of_ble_eq_true rfl, Nat.le_of_ble_eq_true rfl⟩, Nat.le_of_ble_eq_true rfl, Nat.le_of_ble_eq_true rfl⟩ (Nat.le_of_ble_eq_true rfl) rfl [0, 1] rfl rfl dX11_laysSigns_9 ?_
      intro _ _
      dsimp only [jpush]
      refine J.icmp_geN g dX11_laysSigns_12 (tgt := 53) (by decide) (by omega) (by omega) (fun c_12 => ?_) (fun c_12 => ?_)
      · have h0 : mSG cd f n O1 S1 n := fun i h1 h2 z hz => by obtain rfl : i = n := (by omega); exact hh z (by omega)
        refine J.iload_n g dX11_laysSigns_53 rfl rfl ?_
        refine J.iconstN g 1 dX11_laysSigns_54 ?_
        refine J.isub' g dX11_laysSigns_55 (j_subm _) ?_
        refine J.istore_n g dX11_laysSigns_56 rfl rfl rfl ?_
        try dsimp only [List.set_cons_zero, List.set_cons_succ]
        have lq : ∀ (k : Nat) (O2 : Nat → Nat) (S2 : Nat → Bool), (k ≤ n) → (mSG cd f n O2 S2 k) → J γ l x [(mo, .inr (11, [.int mth, .ref mta, .int (nI mtd), .int (nI msz), .int (nI mto), .int (nI mfr), .int (nI mso), .int (nI mnu), .int (nI mfa), .int mfw, .int (nI mpl), .int (nI mro), .long mwd, .ref mnw, .ref mrd, .ref mkp, .ref msn, .ref mbf, .ref mlv, .ref mik, .int (nI msm), .ref msu, .ref mbe, .ref mfe, .ref mmy, .ref mof, .ref msf, .ref mlr, .ref mty, .ref mfm, .ref mrn, .ref mrb, .int (nI mln), .ref mtb, .int mse])), (mnw, .inl (γ.2 0, 17, .inl (fun j => nI (w j)))), (mof, .inl (γ.2 0, 325, .inl (fun j => nI (O2 j)))), (msf, .inl (γ.2 2, 325, .inl (fun j => jB (S2 j))))] [some (.ref mo), some (.int (nI n)), some (.int (jm1 k)), none, none, none, none, none, none] [] 0 0 57 := by
          intro k
          induction k with
          | zero =>
            intro O2 S2 hk h2
            rw [jm1_0]
            refine J.iload_n g dX11_laysSigns_57 rfl rfl ?_
            refine J.if_lt g dX11_laysSigns_58 (tgt := 227) (by decide) (fun _ => ?_) (fun q => absurd (by decide) q)
            exact J.vret g hE (O2, S2) rfl h2 rfl ⟨Nat.le_of_ble_eq_true rfl, Nat.le_of_ble_eq_true rfl⟩ dX11_laysSigns_227
          | succ k ih_lq =>
            intro O2 S2 hk h2
            rw [jm1_s]
            refine J.iload_n g dX11_laysSigns_57 rfl rfl ?_
            refine J.if_ltN g dX11_laysSigns_58 (tgt := 227) (by decide) (by omega) ?_
            refine J.aload_n g dX11_laysSigns_61 rfl rfl ?_
            refine J.get g jX11 13 (by decide) lf_X11_85 0 rfl rfl dX11_laysSigns_62 ?_
            refine J.iconstN g 5 dX11_laysSigns_65 ?_
            refine J.iload_n g dX11_laysSigns_66 rfl rfl ?_
            refine J.iaddN g dX11_laysSigns_67 ?_
            refine J.ialdN g 1 rfl (by omega) (by decide) dX11_laysSigns_68 ?_
            refine J.istore_n g dX11_laysSigns_69 rfl rfl rfl ?_
            try dsimp only [List.set_cons_zero, List.set_cons_succ]
            rw [hw5 k (by omega)]
            refine J.aload_n g dX11_laysSigns_70 rfl rfl ?_
            refine J.iload_n g dX11_laysSigns_71 rfl rfl ?_
            refine J.callV0 g (c_X11_opposite l γ _ _ _ _ _ _ _ _ _ _ _ _ _ _ _ _ _ _ _ _ _ _ _ _ _ _ _ _ _ _ _ _ _ _ _ _ _ _ _ _ _ hw (hwf k (by omega))) jy_X11_opposite lm_X11_231 (q0 := 0) rfl jX11.1 ⟨⟨Nat.le_of_ble_eq_true rfl, Nat.le_of_ble_eq_true rfl⟩, Nat.le_of_ble_eq_true rfl, Nat.le_of_ble_eq_true rfl⟩ (Nat.le_of_ble_eq_true rfl) rfl [0, 1] rfl rfl dX11_laysSigns_72 ?_
            intro _ _
            dsimp only [jpush]
            have hgn := (gN_in hw.1 (hwf k (by omega))).1
            refine J.istore g dX11_laysSigns_75 rfl rfl ?_
            try dsimp only [List.set_cons_zero, List.set_cons_succ]
            refine J.iconstN g 0 dX11_laysSigns_77 ?_
            refine J.istore g dX11_laysSigns_78 rfl rfl ?_
            try dsimp only [List.set_cons_zero, List.set_cons_succ]
            have lr : ∀ (d : Nat) (y : Nat) (O3 : Nat → Nat) (S3 : Nat → Bool), god cd - y < d → (y ≤ god cd) → (mSG cd f n O3 S3 (k + 1)) → (∀ z, z < y → O3 (25 * k + z) = mon cd f n (n - k) z ∧ S3 (25 * k + z) = msgS cd f n (n - k) z) → J γ l x [(mo, .inr (11, [.int mth, .ref mta, .int (nI mtd), .int (nI msz), .int (nI mto), .int (nI mfr), .int (nI mso), .int (nI mnu), .int (nI mfa), .int mfw, .int (nI mpl), .int (nI mro), .long mwd, .ref mnw, .ref mrd, .ref mkp, .ref msn, .ref mbf, .ref mlv, .ref mik, .int (nI msm), .ref msu, .ref mbe, .ref mfe, .ref mmy, .ref mof, .ref msf, .ref mlr, .ref mty, .ref mfm, .ref mrn, .ref mrb, .int (nI mln), .ref mtb, .int mse])), (mnw, .inl (γ.2 0, 17, .inl (fun j => nI (w j)))), (mof, .inl (γ.2 0, 325, .inl (fun j => nI (O3 j)))), (msf, .inl (γ.2 2, 325, .inl (fun j => jB (S3 j))))] [some (.ref mo), some (.int (nI n)), some (.int (nI k)), some (.int (nI (f k))), some (.int (nI (gN cd (f k)))), some (.int (nI y)), none, none, none] [] 0 0 80 := by
              intro d
              induction d with
              | zero => intro y O3 S3 hm; exact absurd hm (Nat.not_lt_zero _)
              | succ d ih_lr =>
                intro y O3 S3 hm hy3 h3 h4
                refine J.iload g dX11_laysSigns_80 rfl ?_
                refine J.aload_n g dX11_laysSigns_82 rfl rfl ?_
                refine J.callV0 g (c_X11_order l γ _ _ _ _ _ _ _ _ _ _ _ _ _ _ _ _ _ _ _ _ _ _ _ _ _ _ _ _ _ _ _ _ _ _ _ _ _ _ _ _ hw) jy_X11_order lm_X11_186 (q0 := 0) rfl jX11.1 ⟨⟨Nat.le_of_ble_eq_true rfl, Nat.le_of_ble_eq_true rfl⟩, Nat.le_of_ble_eq_true rfl, Nat.le_of_ble_eq_true rfl⟩ (Nat.le_of_ble_eq_true rfl) rfl [0, 1] rfl rfl dX11_laysSigns_83 ?_
                intro _ _
                dsimp only [jpush]
                refine J.icmp_geN g dX11_laysSigns_86 (tgt := 221) (by decide) (by omega) (by omega) (fun c_86 => ?_) (fun c_86 => ?_)
                · have hks : mSG cd f n O3 S3 k := mSG_k (by omega) h3 (fun z hz => h4 z (by omega))
                  refine J.iinc g dX11_laysSigns_221 rfl rfl (j_decm _) ?_
                  try dsimp only [List.set_cons_zero, List.set_cons_succ]
                  refine J.goto g dX11_laysSigns_224 (tgt := 57) (by decide) ?_
                  exact J.lvle (jle_s (jle_s (jle_s (jle_n (jle_n (jle_n (jle_n (jle_n (jle_n jle_0))))))))) (ih_lq _ _ (by omega) hks)
                · refine J.bipush (v := nI 25) g dX11_laysSigns_89 (by decide +kernel) ?_
                  refine J.iload_n g dX11_laysSigns_91 rfl rfl ?_
                  refine J.iconstN g 1 dX11_laysSigns_92 ?_
                  refine J.iaddN g dX11_laysSigns_93 ?_
                  refine J.imulN g dX11_laysSigns_94 ?_
                  refine J.iload g dX11_laysSigns_95 rfl ?_
                  refine J.iaddN g dX11_laysSigns_97 ?_
                  refine J.istore g dX11_laysSigns_98 rfl rfl ?_
                  try dsimp only [List.set_cons_zero, List.set_cons_succ]
                  refine J.bipush (v := nI 25) g dX11_laysSigns_100 (by decide +kernel) ?_
                  refine J.iload_n g dX11_laysSigns_102 rfl rfl ?_
                  refine J.iconstN g 1 dX11_laysSigns_103 ?_
                  refine J.iaddN g dX11_laysSigns_104 ?_
                  refine J.imulN g dX11_laysSigns_105 ?_
                  refine J.aload_n g dX11_laysSigns_106 rfl rfl ?_
                  refine J.iload g dX11_laysSigns_107 rfl ?_
                  refine J.iload g dX11_laysSigns_109 rfl ?_
                  refine J.callV0 g (c_X11_together l γ _ _ _ _ _ _ _ _ _ _ _ _ _ _ _ _ _ _ _ _ _ _ _ _ _ _ _ _ _ _ _ _ _ _ _ _ _ _ _ _ _ _ hw (by omega) hgn) jy_X11_together lm_X11_201 (q0 := 0) rfl jX11.1 ⟨⟨Nat.le_of_ble_eq_true rfl, Nat.le_of_ble_eq_true rfl⟩, Nat.le_of_ble_eq_true rfl, Nat.le_of_ble_eq_true rfl⟩ (Nat.le_of_ble_eq_true rfl) rfl [0, 1] rfl rfl dX11_laysSigns_111 ?_
                  intro _ _
                  dsimp only [jpush]
                  have hg1 := gP_lt hw.1 (show y < god cd by omega) hgn
                  refine J.iaddN g dX11_laysSigns_114 ?_
                  refine J.istore g dX11_laysSigns_115 rfl rfl ?_
                  try dsimp only [List.set_cons_zero, List.set_cons_succ]
                  refine J.bipush (v := nI 25) g dX11_laysSigns_117 (by decide +kernel) ?_
                  refine J.iload_n g dX11_laysSigns_119 rfl rfl ?_
                  refine J.iconstN g 1 dX11_laysSigns_120 ?_
                  refine J.iaddN g dX11_laysSigns_121 ?_
                  refine J.imulN g dX11_laysSigns_122 ?_
                  refine J.aload_n g dX11_laysSigns_123 rfl rfl ?_
                  refine J.iload g dX11_laysSigns_124 rfl ?_
                  refine J.iload_n g dX11_laysSigns_126 rfl rfl ?_
                  refine J.callV0 g (c_X11_together l γ _ _ _ _ _ _ _ _ _ _ _ _ _ _ _ _ _ _ _ _ _ _ _ _ _ _ _ _ _ _ _ _ _ _ _ _ _ _ _ _ _ _ hw (by omega) (hwf k (by omega))) jy_X11_together lm_X11_201 (q0 := 0) rfl jX11.1 ⟨⟨Nat.le_of_ble_eq_true rfl, Nat.le_of_ble_eq_true rfl⟩, Nat.le_of_ble_eq_true rfl, Nat.le_of_ble_eq_true rfl⟩ (Nat.le_of_ble_eq_true rfl) rfl [0, 1] rfl rfl dX11_laysSigns_127 ?_
                  intro _ _
                  dsimp only [jpush]
                  have hg2 := gP_lt hw.1 (show y < god cd by omega) (hwf k (by omega))
                  refine J.iaddN g dX11_laysSigns_130 ?_
                  refine J.istore g dX11_laysSigns_131 rfl rfl ?_
                  try dsimp only [List.set_cons_zero, List.set_cons_succ]
                  have e1 := h3 (k + 1) (by omega) (by omega) y (by omega)
                  have e2 := h3 (k + 1) (by omega) (by omega) _ hg1
                  have e3 := h3 (k + 1) (by omega) (by omega) _ hg2
                  have b1 := mon_b (cd := cd) (f := f) (n := n) (k := n - (k + 1)) (g := y) (by omega)
                  have b2 := mon_b (cd := cd) (f := f) (n := n) (k := n - (k + 1)) (g := gP cd y (gN cd (f k))) (by omega)
                  have b3 := mon_b (cd := cd) (f := f) (n := n) (k := n - (k + 1)) (g := gP cd y (f k)) (by omega)
                  have hv : O3 (25 * (k + 1) + y) + O3 (25 * (k + 1) + gP cd y (gN cd (f k))) + O3 (25 * (k + 1) + gP cd y (f k)) = mon cd f n (n - k) y := by rw [e1.1, e2.1, e3.1, ← mon_s (by omega)]
                  refine J.aload_n g dX11_laysSigns_133 rfl rfl ?_
                  refine J.get g jX11 25 (by decide) lf_X11_119 0 rfl rfl dX11_laysSigns_134 ?_
                  refine J.bipush (v := nI 25) g dX11_laysSigns_137 (by decide +kernel) ?_
                  refine J.iload_n g dX11_laysSigns_139 rfl rfl ?_
                  refine J.imulN g dX11_laysSigns_140 ?_
                  refine J.iload g dX11_laysSigns_141 rfl ?_
                  refine J.iaddN g dX11_laysSigns_143 ?_
                  refine J.aload_n g dX11_laysSigns_144 rfl rfl ?_
                  refine J.get g jX11 25 (by decide) lf_X11_119 0 rfl rfl dX11_laysSigns_145 ?_
                  refine J.iload g dX11_laysSigns_148 rfl ?_
                  refine J.ialdN g 2 rfl (by omega) (by decide) dX11_laysSigns_150 ?_
                  refine J.aload_n g dX11_laysSigns_151 rfl rfl ?_
                  refine J.get g jX11 25 (by decide) lf_X11_119 0 rfl rfl dX11_laysSigns_152 ?_
                  refine J.iload g dX11_laysSigns_155 rfl ?_
                  refine J.ialdN g 2 rfl (by omega) (by decide) dX11_laysSigns_157 ?_
                  refine J.iaddN g dX11_laysSigns_158 ?_
                  refine J.aload_n g dX11_laysSigns_159 rfl rfl ?_
                  refine J.get g jX11 25 (by decide) lf_X11_119 0 rfl rfl dX11_laysSigns_160 ?_
                  refine J.iload g dX11_laysSigns_163 rfl ?_
                  refine J.ialdN g 2 rfl (by omega) (by decide) dX11_laysSigns_165 ?_
                  refine J.iaddN g dX11_laysSigns_166 ?_
                  refine J.iastN g 2 rfl (by omega) (by decide) dX11_laysSigns_167 ?_
                  try dsimp only [List.set_cons_zero, List.set_cons_succ]
                  have u1 : va_up O3 (25 * k + y) (O3 (25 * (k + 1) + y) + O3 (25 * (k + 1) + gP cd y (gN cd (f k))) + O3 (25 * (k + 1) + gP cd y (f k))) (25 * (k + 1) + gP cd y (gN cd (f k))) = mon cd f n (n - (k + 1)) (gP cd y (gN cd (f k))) := (up_ne (by omega)).trans e2.1
                  have u2 : va_up O3 (25 * k + y) (O3 (25 * (k + 1) + y) + O3 (25 * (k + 1) + gP cd y (gN cd (f k))) + O3 (25 * (k + 1) + gP cd y (f k))) (25 * (k + 1) + gP cd y (f k)) = mon cd f n (n - (k + 1)) (gP cd y (f k)) := (up_ne (by omega)).trans e3.1
                  refine J.aload_n g dX11_laysSigns_168 rfl rfl ?_
                  refine J.get g jX11 26 (by decide) lf_X11_122 0 rfl rfl dX11_laysSigns_169 ?_
                  refine J.bipush (v := nI 25) g dX11_laysSigns_172 (by decide +kernel) ?_
                  refine J.iload_n g dX11_laysSigns_174 rfl rfl ?_
                  refine J.imulN g dX11_laysSigns_175 ?_
                  refine J.iload g dX11_laysSigns_176 rfl ?_
                  refine J.iaddN g dX11_laysSigns_178 ?_
                  refine J.aload_n g dX11_laysSigns_179 rfl rfl ?_
                  refine J.get g jX11 26 (by decide) lf_X11_122 0 rfl rfl dX11_laysSigns_180 ?_
                  refine J.iload g dX11_laysSigns_183 rfl ?_
                  refine J.zaldB g 3 rfl (by omega) (by decide) dX11_laysSigns_185 ?_
                  refine J.if_neB g dX11_laysSigns_186 (tgt := 209) (by decide) (fun c_186 => ?_) (fun c_186 => ?_)
                  · have hb : true = msgS cd f n (n - k) y := by rw [msgS_s (by omega), ← e1.2, c_186]; rfl
                    refine J.iconstN g 1 dX11_laysSigns_209 ?_
                    refine J.goto g dX11_laysSigns_210 (tgt := 214) (by decide) ?_
                    refine J.zastB (p := true) g 3 rfl (by omega) (by decide) dX11_laysSigns_214 ?_
                    try dsimp only [List.set_cons_zero, List.set_cons_succ]
                    refine J.iincN g 1 dX11_laysSigns_215 rfl rfl ?_
                    try dsimp only [List.set_cons_zero, List.set_cons_succ]
                    refine J.goto g dX11_laysSigns_218 (tgt := 80) (by decide) ?_
                    exact J.lvle (jle_s (jle_s (jle_s (jle_s (jle_s (jle_s (jle_n (jle_n (jle_n jle_0))))))))) (ih_lr (y + 1) _ _ (by omega) (by omega) (mSG_w hwg.1 (by omega) h3) (mSG_y hv hb h4))
                  · refine J.aload_n g dX11_laysSigns_189 rfl rfl ?_
                    refine J.get g jX11 25 (by decide) lf_X11_119 0 rfl rfl dX11_laysSigns_190 ?_
                    refine J.iload g dX11_laysSigns_193 rfl ?_
                    refine J.ialdN g 2 rfl (by omega) (by decide) dX11_laysSigns_195 ?_
                    refine J.if_gtN g dX11_laysSigns_196 (tgt := 209) (by decide) (by rw [u1]; omega) (fun c_196 => ?_) (fun c_196 => ?_)
                    · have hb : true = msgS cd f n (n - k) y := by rw [msgS_s (by omega), ← e1.2, c_186, decide_eq_true (by rw [← u1]; exact c_196)]; rfl
                      refine J.iconstN g 1 dX11_laysSigns_209 ?_
                      refine J.goto g dX11_laysSigns_210 (tgt := 214) (by decide) ?_
                      refine J.zastB (p := true) g 3 rfl (by omega) (by decide) dX11_laysSigns_214 ?_
                      try dsimp only [List.set_cons_zero, List.set_cons_succ]
                      refine J.iincN g 1 dX11_laysSigns_215 rfl rfl ?_
                      try dsimp only [List.set_cons_zero, List.set_cons_succ]
                      refine J.goto g dX11_laysSigns_218 (tgt := 80) (by decide) ?_
                      exact J.lvle (jle_s (jle_s (jle_s (jle_s (jle_s (jle_s (jle_n (jle_n (jle_n jle_0))))))))) (ih_lr (y + 1) _ _ (by omega) (by omega) (mSG_w hwg.1 (by omega) h3) (mSG_y hv hb h4))
                    · refine J.aload_n g dX11_laysSigns_199 rfl rfl ?_
                      refine J.get g jX11 25 (by decide) lf_X11_119 0 rfl rfl dX11_laysSigns_200 ?_
                      refine J.iload g dX11_laysSigns_203 rfl ?_
                      refine J.ialdN g 2 rfl (by omega) (by decide) dX11_laysSigns_205 ?_
                      refine J.if_leN g dX11_laysSigns_206 (tgt := 213) (by decide) (by rw [u2]; omega) (fun c_206 => ?_) (fun c_206 => ?_)
                      · have hb : false = msgS cd f n (n - k) y := by rw [msgS_s (by omega), ← e1.2, c_186, decide_eq_false (by rw [← u1]; omega), decide_eq_false (by rw [← u2]; omega)]; rfl
                        refine J.iconstN g 0 dX11_laysSigns_213 ?_
                        refine J.zastB (p := false) g 3 rfl (by omega) (by decide) dX11_laysSigns_214 ?_
                        try dsimp only [List.set_cons_zero, List.set_cons_succ]
                        refine J.iincN g 1 dX11_laysSigns_215 rfl rfl ?_
                        try dsimp only [List.set_cons_zero, List.set_cons_succ]
                        refine J.goto g dX11_laysSigns_218 (tgt := 80) (by decide) ?_
                        exact J.lvle (jle_s (jle_s (jle_s (jle_s (jle_s (jle_s (jle_n (jle_n (jle_n jle_0))))))))) (ih_lr (y + 1) _ _ (by omega) (by omega) (mSG_w hwg.1 (by omega) h3) (mSG_y hv hb h4))
                      · have hb : true = msgS cd f n (n - k) y := by rw [msgS_s (by omega), ← e1.2, c_186, decide_eq_false (by rw [← u1]; omega), decide_eq_true (by rw [← u2]; omega)]; rfl
                        refine J.iconstN g 1 dX11_laysSigns_209 ?_
                        refine J.goto g dX11_laysSigns_210 (tgt := 214) (by decide) ?_
                        refine J.zastB (p := true) g 3 rfl (by omega) (by decide) dX11_laysSigns_214 ?_
                        try dsimp only [List.set_cons_zero, List.set_cons_succ]
                        refine J.iincN g 1 dX11_laysSigns_215 rfl rfl ?_
                        try dsimp only [List.set_cons_zero, List.set_cons_succ]
                        refine J.goto g dX11_laysSigns_218 (tgt := 80) (by decide) ?_
                        exact J.lvle (jle_s (jle_s (jle_s (jle_s (jle_s (jle_s (jle_n (jle_n (jle_n jle_0))))))))) (ih_lr (y + 1) _ _ (by omega) (by omega) (mSG_w hwg.1 (by omega) h3) (mSG_y hv hb h4))
            exact J.lvle (jle_s (jle_s (jle_s (jle_s (jle_s (jle_s (jle_n (jle_n (jle_n jle_0))))))))) (lr _ 0 O2 S2 (Nat.lt_succ_self _) (Nat.zero_le _) h2 (fun z h => absurd h (Nat.not_lt_zero _)))
        exact J.lvle (jle_s (jle_s (jle_s (jle_n (jle_n (jle_n (jle_n (jle_n (jle_n jle_0))))))))) (lq n O1 S1 (Nat.le_refl _) h0)
      · refine J.aload_n g dX11_laysSigns_15 rfl rfl ?_
        refine J.get g jX11 25 (by decide) lf_X11_119 0 rfl rfl dX11_laysSigns_16 ?_
        refine J.bipush (v := nI 25) g dX11_laysSigns_19 (by decide +kernel) ?_
        refine J.iload_n g dX11_laysSigns_21 rfl rfl ?_
        refine J.imulN g dX11_laysSigns_22 ?_
        refine J.iload_n g dX11_laysSigns_23 rfl rfl ?_
        refine J.iaddN g dX11_laysSigns_24 ?_
        refine J.iload_n g dX11_laysSigns_25 rfl rfl ?_
        refine J.if_neN g dX11_laysSigns_26 (tgt := 33) (by decide) (by omega) (fun c_26 => ?_) (fun c_26 => ?_)
        · have hnx := mSG_y (cd := cd) (n := n) (k := n) (f := f) (y := y) (v := 0) (b := false) (by rw [Nat.sub_self, mon, if_neg c_26]) (by rw [Nat.sub_self]; rfl) hh
          refine J.iconstN g 0 dX11_laysSigns_33 ?_
          refine J.iastN g 2 rfl (by omega) (by decide) dX11_laysSigns_34 ?_
          try dsimp only [List.set_cons_zero, List.set_cons_succ]
          refine J.aload_n g dX11_laysSigns_35 rfl rfl ?_
          refine J.get g jX11 26 (by decide) lf_X11_122 0 rfl rfl dX11_laysSigns_36 ?_
          refine J.bipush (v := nI 25) g dX11_laysSigns_39 (by decide +kernel) ?_
          refine J.iload_n g dX11_laysSigns_41 rfl rfl ?_
          refine J.imulN g dX11_laysSigns_42 ?_
          refine J.iload_n g dX11_laysSigns_43 rfl rfl ?_
          refine J.iaddN g dX11_laysSigns_44 ?_
          refine J.iconstN g 0 dX11_laysSigns_45 ?_
          refine J.zastB (p := false) g 3 rfl (by omega) (by decide) dX11_laysSigns_46 ?_
          try dsimp only [List.set_cons_zero, List.set_cons_succ]
          refine J.iincN g 1 dX11_laysSigns_47 rfl rfl ?_
          try dsimp only [List.set_cons_zero, List.set_cons_succ]
          refine J.goto g dX11_laysSigns_50 (tgt := 7) (by decide) ?_
          exact J.lvle (jle_s (jle_s (jle_s (jle_n (jle_n (jle_n (jle_n (jle_n (jle_n jle_0))))))))) (ih_lp (y + 1) _ _ (by omega) (by omega) hnx)
        · have hnx := mSG_y (cd := cd) (n := n) (k := n) (f := f) (y := y) (v := 1) (b := false) (by rw [Nat.sub_self, mon, if_pos c_26]) (by rw [Nat.sub_self]; rfl) hh
          refine J.iconstN g 1 dX11_laysSigns_29 ?_
          refine J.goto g dX11_laysSigns_30 (tgt := 34) (by decide) ?_
          refine J.iastN g 2 rfl (by omega) (by decide) dX11_laysSigns_34 ?_
          try dsimp only [List.set_cons_zero, List.set_cons_succ]
          refine J.aload_n g dX11_laysSigns_35 rfl rfl ?_
          refine J.get g jX11 26 (by decide) lf_X11_122 0 rfl rfl dX11_laysSigns_36 ?_
          refine J.bipush (v := nI 25) g dX11_laysSigns_39 (by decide +kernel) ?_
          refine J.iload_n g dX11_laysSigns_41 rfl rfl ?_
          refine J.imulN g dX11_laysSigns_42 ?_
          refine J.iload_n g dX11_laysSigns_43 rfl rfl ?_
          refine J.iaddN g dX11_laysSigns_44 ?_
          refine J.iconstN g 0 dX11_laysSigns_45 ?_
          refine J.zastB (p := false) g 3 rfl (by omega) (by decide) dX11_laysSigns_46 ?_
          try dsimp only [List.set_cons_zero, List.set_cons_succ]
          refine J.iincN g 1 dX11_laysSigns_47 rfl rfl ?_
          try dsimp only [List.set_cons_zero, List.set_cons_succ]
          refine J.goto g dX11_laysSigns_50 (tgt := 7) (by decide) ?_
          exact J.lvle (jle_s (jle_s (jle_s (jle_n (jle_n (jle_n (jle_n (jle_n (jle_n jle_0))))))))) (ih_lp (y + 1) _ _ (by omega) (by omega) hnx)
  exact J.lvle (jle_s (jle_s (jle_s (jle_n (jle_n (jle_n (jle_n (jle_n (jle_n jle_0))))))))) (lp _ 0 O S (Nat.lt_succ_self _) (Nat.zero_le _) (fun z h => absurd h (Nat.not_lt_zero _)))
set_option maxHeartbeats 4000000 in
set_option maxRecDepth 100000 in
theorem c_X11_signed_yes (l : Launch) (γ : jγ) (mo mta mtd msz mto mfr mso mnu mfa mpl mro mnw mrd mkp msn mbf mlv mik msm msu mbe mfe mmy mof msf mlr mty mfm mrn mrb mln mtb : Nat) (mth mfw mse : Int32) (mwd : Int64) (cd n : Nat) (f w : Nat → Nat) (O : Nat → Nat) (S : Nat → Bool) (gg : Nat) (hw : mIs cd n f w) (hg : gg < god cd) : jM (S := (Nat → Nat) × (Nat → Bool)) l γ yX11_signed cX11_signed 2 (some .int) ({ frames := 4, cells := 0, slots := 0, locals := 102 } : Room) [.ref mo, .int (nI gg)] [(mo, .inr (11, [.int mth, .ref mta, .int (nI mtd), .int (nI msz), .int (nI mto), .int (nI mfr), .int (nI mso), .int (nI mnu), .int (nI mfa), .int mfw, .int (nI mpl), .int (nI mro), .long mwd, .ref mnw, .ref mrd, .ref mkp, .ref msn, .ref mbf, .ref mlv, .ref mik, .int (nI msm), .ref msu, .ref mbe, .ref mfe, .ref mmy, .ref mof, .ref msf, .ref mlr, .ref mty, .ref mfm, .ref mrn, .ref mrb, .int (nI mln), .ref mtb, .int mse])), (mnw, .inl (γ.2 0, 17, .inl (fun j => nI (w j)))), (mof, .inl (γ.2 0, 325, .inl (fun j => nI (O j)))), (msf, .inl (γ.2 2, 325, .inl (fun j => jB (S j))))] (fun u => some (.int (nI (mon cd f n n gg - (if gg = 0 then 1 else 0))))) (fun u => [(mo, .inr (11, [.int (nI 0), .ref mta, .int (nI mtd), .int (nI msz), .int (nI mto), .int (nI mfr), .int (nI mso), .int (nI mnu), .int (nI mfa), .int mfw, .int (nI mpl), .int (nI mro), .long mwd, .ref mnw, .ref mrd, .ref mkp, .ref msn, .ref mbf, .ref mlv, .ref mik, .int (nI msm), .ref msu, .ref mbe, .ref mfe, .ref mmy, .ref mof, .ref msf, .ref mlr, .ref mty, .ref mfm, .ref mrn, .ref mrb, .int (nI mln), .ref mtb, .int mse])), (mnw, .inl (γ.2 0, 17, .inl (fun j => nI (w j)))), (mof, .inl (γ.2 0, 325, .inl (fun j => nI (u.1 j)))), (msf, .inl (γ.2 2, 325, .inl (fun j => jB (u.2 j))))]) (fun u => True) := by
  refine jM.of [some (.ref mo), some (.int (nI gg))] rfl (Nat.le_of_ble_eq_true rfl) (by decide) ?_
  intro x g hE hin
  have hwg := hw.g
  have hw5 := hw.2.2.2.2.2.1
  have hwf := hw.2.2.2.2.2.2
  have hw3 := hw.2.2.1
  refine J.aload_n g dX11_signed_0 rfl rfl ?_
  refine J.iconstN g 0 dX11_signed_1 ?_
  refine J.put g jX11 0 (by decide) lf_X11_1 0 rfl rfl (Nat.le_of_ble_eq_true rfl) rfl rfl dX11_signed_2 ?_
  try dsimp only [List.set_cons_zero, List.set_cons_succ]
  refine J.aload_n g dX11_signed_5 rfl rfl ?_
  refine J.iload_n g dX11_signed_6 rfl rfl ?_
  refine J.callV0 g (c_X11_isElement l γ _ _ _ _ _ _ _ _ _ _ _ _ _ _ _ _ _ _ _ _ _ _ _ _ _ _ _ _ _ _ _ _ _ _ _ _ _ _ _ _ _ hw) jy_X11_isElement lm_X11_219 (q0 := 0) rfl jX11.1 ⟨⟨Nat.le_of_ble_eq_true rfl, Nat.le_of_ble_eq_true rfl⟩, Nat.le_of_ble_eq_true rfl, Nat.le_of_ble_eq_true rfl⟩ (Nat.le_of_ble_eq_true rfl) rfl [0, 1] rfl rfl dX11_signed_7 ?_
  intro _ _
  dsimp only [jpush]
  refine J.if_neB g dX11_signed_10 (tgt := 15) (by decide) (fun c_10 => ?_) (fun c_10 => absurd c_10 (by rw [jhas_n _ (by omega), decide_eq_true hg] at c_10; cases c_10))
  refine J.aload_n g dX11_signed_15 rfl rfl ?_
  refine J.callV g (c_X11_laysSigns l γ _ _ _ _ _ _ _ _ _ _ _ _ _ _ _ _ _ _ _ _ _ _ _ _ _ _ _ _ _ _ _ _ _ _ _ _ _ _ _ _ _ _ hw) jy_X11_laysSigns lm_X11_246 (q0 := 0) rfl jX11.1 ⟨⟨Nat.le_of_ble_eq_true rfl, Nat.le_of_ble_eq_true rfl⟩, Nat.le_of_ble_eq_true rfl, Nat.le_of_ble_eq_true rfl⟩ (Nat.le_of_ble_eq_true rfl) rfl [0, 1, 2, 3] rfl (fun _ => rfl) rfl dX11_signed_16 ?_
  intro u_16 h_16
  dsimp only [jput, List.set_cons_zero, List.set_cons_succ, Option.toList, List.append, List.cons_append, List.nil_append, List.append_nil]
  have hsg := h_16 0 (Nat.le_refl _) (Nat.zero_le _) gg hg
  rw [Nat.mul_zero, Nat.zero_add, Nat.sub_zero] at hsg
  have hm0 := mon_0 (cd := cd) (f := f) (n := n) n
  refine J.aload_n g dX11_signed_19 rfl rfl ?_
  refine J.get g jX11 25 (by decide) lf_X11_119 0 rfl rfl dX11_signed_20 ?_
  refine J.iload_n g dX11_signed_23 rfl rfl ?_
  refine J.ialdN g 2 rfl (by omega) (by decide) dX11_signed_24 ?_
  refine J.iload_n g dX11_signed_25 rfl rfl ?_
  refine J.if_neN g dX11_signed_26 (tgt := 33) (by decide) (by omega) (fun c_26 => ?_) (fun c_26 => ?_)
  · refine J.iconstN g 0 dX11_signed_33 ?_
    refine J.isubN g dX11_signed_34 (by first | (rw [hsg.1, c_26]; exact hm0) | exact Nat.zero_le _) ?_
    exact J.iret g hE u_16 (by first | rw [if_pos c_26, hsg.1] | rw [if_neg c_26, hsg.1]) trivial rfl ⟨Nat.le_of_ble_eq_true rfl, Nat.le_of_ble_eq_true rfl⟩ dX11_signed_35
  · refine J.iconstN g 1 dX11_signed_29 ?_
    refine J.goto g dX11_signed_30 (tgt := 34) (by decide) ?_
    refine J.isubN g dX11_signed_34 (by first | (rw [hsg.1, c_26]; exact hm0) | exact Nat.zero_le _) ?_
    exact J.iret g hE u_16 (by first | rw [if_pos c_26, hsg.1] | rw [if_neg c_26, hsg.1]) trivial rfl ⟨Nat.le_of_ble_eq_true rfl, Nat.le_of_ble_eq_true rfl⟩ dX11_signed_35
set_option maxHeartbeats 4000000 in
set_option maxRecDepth 100000 in
theorem c_X11_signed_no (l : Launch) (γ : jγ) (mo mta mtd msz mto mfr mso mnu mfa mpl mro mnw mrd mkp msn mbf mlv mik msm msu mbe mfe mmy mof msf mlr mty mfm mrn mrb mln mtb : Nat) (mth mfw mse : Int32) (mwd : Int64) (cd n : Nat) (f w : Nat → Nat) (a : Int32) (hw : mIs cd n f w) (hi : jhas a (god cd) = false) : jM (S := Unit) l γ yX11_signed cX11_signed 2 (some .int) ({ frames := 4, cells := 0, slots := 0, locals := 102 } : Room) [.ref mo, .int a] [(mo, .inr (11, [.int mth, .ref mta, .int (nI mtd), .int (nI msz), .int (nI mto), .int (nI mfr), .int (nI mso), .int (nI mnu), .int (nI mfa), .int mfw, .int (nI mpl), .int (nI mro), .long mwd, .ref mnw, .ref mrd, .ref mkp, .ref msn, .ref mbf, .ref mlv, .ref mik, .int (nI msm), .ref msu, .ref mbe, .ref mfe, .ref mmy, .ref mof, .ref msf, .ref mlr, .ref mty, .ref mfm, .ref mrn, .ref mrb, .int (nI mln), .ref mtb, .int mse])), (mnw, .inl (γ.2 0, 17, .inl (fun j => nI (w j))))] (fun w0 => some (.int (-1))) (fun w0 => [(mo, .inr (11, [.int (nI 0), .ref mta, .int (nI mtd), .int (nI msz), .int (nI mto), .int (nI mfr), .int (nI mso), .int (nI mnu), .int (nI mfa), .int mfw, .int (nI mpl), .int (nI mro), .long mwd, .ref mnw, .ref mrd, .ref mkp, .ref msn, .ref mbf, .ref mlv, .ref mik, .int (nI msm), .ref msu, .ref mbe, .ref mfe, .ref mmy, .ref mof, .ref msf, .ref mlr, .ref mty, .ref mfm, .ref mrn, .ref mrb, .int (nI mln), .ref mtb, .int mse])), (mnw, .inl (γ.2 0, 17, .inl (fun j => nI (w j))))]) (fun w0 => True) := by
  refine jM.of [some (.ref mo), some (.int a)] rfl (Nat.le_of_ble_eq_true rfl) (by decide) ?_
  intro x g hE hin
  have hwg := hw.g
  have hw5 := hw.2.2.2.2.2.1
  have hwf := hw.2.2.2.2.2.2
  have hw3 := hw.2.2.1
  refine J.aload_n g dX11_signed_0 rfl rfl ?_
  refine J.iconstN g 0 dX11_signed_1 ?_
  refine J.put g jX11 0 (by decide) lf_X11_1 0 rfl rfl (Nat.le_of_ble_eq_true rfl) rfl rfl dX11_signed_2 ?_
  try dsimp only [List.set_cons_zero, List.set_cons_succ]
  refine J.aload_n g dX11_signed_5 rfl rfl ?_
  refine J.iload_n g dX11_signed_6 rfl rfl ?_
  refine J.callV0 g (c_X11_isElement l γ _ _ _ _ _ _ _ _ _ _ _ _ _ _ _ _ _ _ _ _ _ _ _ _ _ _ _ _ _ _ _ _ _ _ _ _ _ _ _ _ _ hw) jy_X11_isElement lm_X11_219 (q0 := 0) rfl jX11.1 ⟨⟨Nat.le_of_ble_eq_true rfl, Nat.le_of_ble_eq_true rfl⟩, Nat.le_of_ble_eq_true rfl, Nat.le_of_ble_eq_true rfl⟩ (Nat.le_of_ble_eq_true rfl) rfl [0, 1] rfl rfl dX11_signed_7 ?_
  intro _ _
  dsimp only [jpush]
  refine J.if_neB g dX11_signed_10 (tgt := 15) (by decide) (fun c_10 => absurd c_10 (by rw [hi] at c_10; cases c_10)) (fun c_10 => ?_)
  refine J.iconst (v := -1) g dX11_signed_13 (by decide) ?_
  exact J.iret g hE () rfl trivial rfl ⟨Nat.le_of_ble_eq_true rfl, Nat.le_of_ble_eq_true rfl⟩ dX11_signed_14
set_option maxHeartbeats 4000000 in
set_option maxRecDepth 100000 in
theorem c_X11_sign_yes (l : Launch) (γ : jγ) (mo mta mtd msz mto mfr mso mnu mfa mpl mro mnw mrd mkp msn mbf mlv mik msm msu mbe mfe mmy mof msf mlr mty mfm mrn mrb mln mtb : Nat) (mth mfw mse : Int32) (mwd : Int64) (cd n : Nat) (f w : Nat → Nat) (O : Nat → Nat) (S : Nat → Bool) (gg p : Nat) (hw : mIs cd n f w) (hg : gg < god cd) (hp : p < n) : jM (S := (Nat → Nat) × (Nat → Bool)) l γ yX11_sign cX11_sign 10 (some .int) ({ frames := 4, cells := 0, slots := 0, locals := 102 } : Room) [.ref mo, .int (nI gg), .int (nI p)] [(mo, .inr (11, [.int mth, .ref mta, .int (nI mtd), .int (nI msz), .int (nI mto), .int (nI mfr), .int (nI mso), .int (nI mnu), .int (nI mfa), .int mfw, .int (nI mpl), .int (nI mro), .long mwd, .ref mnw, .ref mrd, .ref mkp, .ref msn, .ref mbf, .ref mlv, .ref mik, .int (nI msm), .ref msu, .ref mbe, .ref mfe, .ref mmy, .ref mof, .ref msf, .ref mlr, .ref mty, .ref mfm, .ref mrn, .ref mrb, .int (nI mln), .ref mtb, .int mse])), (mnw, .inl (γ.2 0, 17, .inl (fun j => nI (w j)))), (mof, .inl (γ.2 0, 325, .inl (fun j => nI (O j)))), (msf, .inl (γ.2 2, 325, .inl (fun j => jB (S j))))] (fun u => some (.int (if msgS cd f n n gg = true then nI (mfrS cd f n gg (p + 1)).2.2 else -1))) (fun u => [(mo, .inr (11, [.int (nI 0), .ref mta, .int (nI mtd), .int (nI msz), .int (nI mto), .int (nI mfr), .int (nI mso), .int (nI mnu), .int (nI mfa), .int mfw, .int (nI mpl), .int (nI mro), .long mwd, .ref mnw, .ref mrd, .ref mkp, .ref msn, .ref mbf, .ref mlv, .ref mik, .int (nI msm), .ref msu, .ref mbe, .ref mfe, .ref mmy, .ref mof, .ref msf, .ref mlr, .ref mty, .ref mfm, .ref mrn, .ref mrb, .int (nI mln), .ref mtb, .int mse])), (mnw, .inl (γ.2 0, 17, .inl (fun j => nI (w j)))), (mof, .inl (γ.2 0, 325, .inl (fun j => nI (u.1 j)))), (msf, .inl (γ.2 2, 325, .inl (fun j => jB (u.2 j))))]) (fun u => True) := by
  refine jM.of [some (.ref mo), some (.int (nI gg)), some (.int (nI p)), none, none, none, none, none, none, none] rfl (Nat.le_of_ble_eq_true rfl) (by decide) ?_
  intro x g hE hin
  have hwg := hw.g
  have hw5 := hw.2.2.2.2.2.1
  have hwf := hw.2.2.2.2.2.2
  have hw3 := hw.2.2.1
  refine J.aload_n g dX11_sign_0 rfl rfl ?_
  refine J.iconstN g 0 dX11_sign_1 ?_
  refine J.put g jX11 0 (by decide) lf_X11_1 0 rfl rfl (Nat.le_of_ble_eq_true rfl) rfl rfl dX11_sign_2 ?_
  try dsimp only [List.set_cons_zero, List.set_cons_succ]
  refine J.aload_n g dX11_sign_5 rfl rfl ?_
  refine J.iload_n g dX11_sign_6 rfl rfl ?_
  refine J.callV0 g (c_X11_isElement l γ _ _ _ _ _ _ _ _ _ _ _ _ _ _ _ _ _ _ _ _ _ _ _ _ _ _ _ _ _ _ _ _ _ _ _ _ _ _ _ _ _ hw) jy_X11_isElement lm_X11_219 (q0 := 0) rfl jX11.1 ⟨⟨Nat.le_of_ble_eq_true rfl, Nat.le_of_ble_eq_true rfl⟩, Nat.le_of_ble_eq_true rfl, Nat.le_of_ble_eq_true rfl⟩ (Nat.le_of_ble_eq_true rfl) rfl [0, 1] rfl rfl dX11_sign_7 ?_
  intro _ _
  dsimp only [jpush]
  refine J.if_eqB g dX11_sign_10 (tgt := 21) (by decide) (fun c_10 => absurd c_10 (by rw [jhas_n _ (by omega), decide_eq_true hg] at c_10; cases c_10)) (fun c_10 => ?_)
  refine J.aload_n g dX11_sign_13 rfl rfl ?_
  refine J.iload_n g dX11_sign_14 rfl rfl ?_
  refine J.callV0 g (c_X11_isPlace l γ _ _ _ _ _ _ _ _ _ _ _ _ _ _ _ _ _ _ _ _ _ _ _ _ _ _ _ _ _ _ _ _ _ _ _ _ _ _ _ _ _ hw) jy_X11_isPlace lm_X11_216 (q0 := 0) rfl jX11.1 ⟨⟨Nat.le_of_ble_eq_true rfl, Nat.le_of_ble_eq_true rfl⟩, Nat.le_of_ble_eq_true rfl, Nat.le_of_ble_eq_true rfl⟩ (Nat.le_of_ble_eq_true rfl) rfl [0, 1] rfl rfl dX11_sign_15 ?_
  intro _ _
  dsimp only [jpush]
  refine J.if_neB g dX11_sign_18 (tgt := 23) (by decide) (fun c_18 => ?_) (fun c_18 => absurd c_18 (by rw [jhas_n _ (by omega), decide_eq_true hp] at c_18; cases c_18))
  refine J.aload_n g dX11_sign_23 rfl rfl ?_
  refine J.callV g (c_X11_laysSigns l γ _ _ _ _ _ _ _ _ _ _ _ _ _ _ _ _ _ _ _ _ _ _ _ _ _ _ _ _ _ _ _ _ _ _ _ _ _ _ _ _ _ _ hw) jy_X11_laysSigns lm_X11_246 (q0 := 0) rfl jX11.1 ⟨⟨Nat.le_of_ble_eq_true rfl, Nat.le_of_ble_eq_true rfl⟩, Nat.le_of_ble_eq_true rfl, Nat.le_of_ble_eq_true rfl⟩ (Nat.le_of_ble_eq_true rfl) rfl [0, 1, 2, 3] rfl (fun _ => rfl) rfl dX11_sign_24 ?_
  intro u_24 h_24
  dsimp only [jput, List.set_cons_zero, List.set_cons_succ, Option.toList, List.append, List.cons_append, List.nil_append, List.append_nil]
  have hsg := h_24 0 (Nat.le_refl _) (Nat.zero_le _) gg hg
  rw [Nat.mul_zero, Nat.zero_add, Nat.sub_zero] at hsg
  refine J.aload_n g dX11_sign_27 rfl rfl ?_
  refine J.get g jX11 26 (by decide) lf_X11_122 0 rfl rfl dX11_sign_28 ?_
  refine J.iload_n g dX11_sign_31 rfl rfl ?_
  refine J.zaldB g 3 rfl (by omega) (by decide) dX11_sign_32 ?_
  refine J.if_neB g dX11_sign_33 (tgt := 38) (by decide) (fun c_33 => ?_) (fun c_33 => ?_)
  · refine J.iload_n g dX11_sign_38 rfl rfl ?_
    refine J.istore_n g dX11_sign_39 rfl rfl rfl ?_
    try dsimp only [List.set_cons_zero, List.set_cons_succ]
    refine J.iconstN g 0 dX11_sign_40 ?_
    refine J.istore g dX11_sign_41 rfl rfl ?_
    try dsimp only [List.set_cons_zero, List.set_cons_succ]
    refine J.iconstN g 0 dX11_sign_43 ?_
    refine J.istore g dX11_sign_44 rfl rfl ?_
    try dsimp only [List.set_cons_zero, List.set_cons_succ]
    refine J.iconstN g 0 dX11_sign_46 ?_
    refine J.istore g dX11_sign_47 rfl rfl ?_
    try dsimp only [List.set_cons_zero, List.set_cons_succ]
    have lp : ∀ (d : Nat) (i : Nat), p + 1 - i < d → (i ≤ p + 1) → J γ l x [(mo, .inr (11, [.int (nI 0), .ref mta, .int (nI mtd), .int (nI msz), .int (nI mto), .int (nI mfr), .int (nI mso), .int (nI mnu), .int (nI mfa), .int mfw, .int (nI mpl), .int (nI mro), .long mwd, .ref mnw, .ref mrd, .ref mkp, .ref msn, .ref mbf, .ref mlv, .ref mik, .int (nI msm), .ref msu, .ref mbe, .ref mfe, .ref mmy, .ref mof, .ref msf, .ref mlr, .ref mty, .ref mfm, .ref mrn, .ref mrb, .int (nI mln), .ref mtb, .int mse])), (mnw, .inl (γ.2 0, 17, .inl (fun j => nI (w j)))), (mof, .inl (γ.2 0, 325, .inl (fun j => nI (u_24.1 j)))), (msf, .inl (γ.2 2, 325, .inl (fun j => jB (u_24.2 j))))] [some (.ref mo), some (.int (nI gg)), some (.int (nI p)), some (.int (nI ((mfrS cd f n gg i).1))), some (.int (nI ((mfrS cd f n gg i).2.2))), some (.int (jB ((mfrS cd f n gg i).2.1))), some (.int (nI i)), none, none, none] [] 0 0 49 := by
      intro d
      induction d with
      | zero => intro i hm; exact absurd hm (Nat.not_lt_zero _)
      | succ d ih_lp =>
        intro i hm hi
        refine J.iload g dX11_sign_49 rfl ?_
        refine J.iload_n g dX11_sign_51 rfl rfl ?_
        refine J.icmp_gtN g dX11_sign_52 (tgt := 171) (by decide) (by omega) (by omega) (fun c_52 => ?_) (fun c_52 => ?_)
        · refine J.iload g dX11_sign_171 rfl ?_
          exact J.iret g hE u_24 (by rw [if_pos (hsg.2.symm.trans c_33), show p + 1 = i by omega]) trivial rfl ⟨Nat.le_of_ble_eq_true rfl, Nat.le_of_ble_eq_true rfl⟩ dX11_sign_173
        · have hml := mfrS_lt (n := n) hw.1 hwf hg i (by omega)
          refine J.aload_n g dX11_sign_55 rfl rfl ?_
          refine J.get g jX11 13 (by decide) lf_X11_85 0 rfl rfl dX11_sign_56 ?_
          refine J.iconstN g 5 dX11_sign_59 ?_
          refine J.iload g dX11_sign_60 rfl ?_
          refine J.iaddN g dX11_sign_62 ?_
          refine J.ialdN g 1 rfl (by omega) (by decide) dX11_sign_63 ?_
          refine J.istore g dX11_sign_64 rfl rfl ?_
          try dsimp only [List.set_cons_zero, List.set_cons_succ]
          rw [hw5 i (by omega)]
          refine J.aload_n g dX11_sign_66 rfl rfl ?_
          refine J.iload_n g dX11_sign_67 rfl rfl ?_
          refine J.aload_n g dX11_sign_68 rfl rfl ?_
          refine J.iload g dX11_sign_69 rfl ?_
          refine J.callV0 g (c_X11_opposite l γ _ _ _ _ _ _ _ _ _ _ _ _ _ _ _ _ _ _ _ _ _ _ _ _ _ _ _ _ _ _ _ _ _ _ _ _ _ _ _ _ _ hw (hwf i (by omega))) jy_X11_opposite lm_X11_231 (q0 := 0) rfl jX11.1 ⟨⟨Nat.le_of_ble_eq_true rfl, Nat.le_of_ble_eq_true rfl⟩, Nat.le_of_ble_eq_true rfl, Nat.le_of_ble_eq_true rfl⟩ (Nat.le_of_ble_eq_true rfl) rfl [0, 1] rfl rfl dX11_sign_71 ?_
          intro _ _
          dsimp only [jpush]
          have hgn := (gN_in hw.1 (hwf i (by omega))).1
          refine J.callV0 g (c_X11_together l γ _ _ _ _ _ _ _ _ _ _ _ _ _ _ _ _ _ _ _ _ _ _ _ _ _ _ _ _ _ _ _ _ _ _ _ _ _ _ _ _ _ _ hw hml.1 hgn) jy_X11_together lm_X11_201 (q0 := 0) rfl jX11.1 ⟨⟨Nat.le_of_ble_eq_true rfl, Nat.le_of_ble_eq_true rfl⟩, Nat.le_of_ble_eq_true rfl, Nat.le_of_ble_eq_true rfl⟩ (Nat.le_of_ble_eq_true rfl) rfl [0, 1] rfl rfl dX11_sign_74 ?_
          intro _ _
          dsimp only [jpush]
          have hg1 := gP_lt hw.1 hml.1 hgn
          refine J.istore g dX11_sign_77 rfl rfl ?_
          try dsimp only [List.set_cons_zero, List.set_cons_succ]
          have e1 := h_24 (i + 1) (by omega) (by omega) _ hml.1
          have e2 := h_24 (i + 1) (by omega) (by omega) _ hg1
          have b1 := mon_b (cd := cd) (f := f) (n := n) (k := n - (i + 1)) (g := (mfrS cd f n gg i).1) (by omega)
          have b2 := mon_b (cd := cd) (f := f) (n := n) (k := n - (i + 1)) (g := gP cd (mfrS cd f n gg i).1 (gN cd (f i))) (by omega)
          refine J.bipush (v := nI 25) g dX11_sign_79 (by decide +kernel) ?_
          refine J.iload g dX11_sign_81 rfl ?_
          refine J.iconstN g 1 dX11_sign_83 ?_
          refine J.iaddN g dX11_sign_84 ?_
          refine J.imulN g dX11_sign_85 ?_
          refine J.istore g dX11_sign_86 rfl rfl ?_
          try dsimp only [List.set_cons_zero, List.set_cons_succ]
          refine J.iload g dX11_sign_88 rfl ?_
          refine J.if_eqB g dX11_sign_90 (tgt := 108) (by decide) (fun c_90 => ?_) (fun c_90 => ?_)
          · refine J.aload_n g dX11_sign_108 rfl rfl ?_
            refine J.get g jX11 26 (by decide) lf_X11_122 0 rfl rfl dX11_sign_109 ?_
            refine J.iload g dX11_sign_112 rfl ?_
            refine J.iload_n g dX11_sign_114 rfl rfl ?_
            refine J.iaddN g dX11_sign_115 ?_
            refine J.zaldB g 3 rfl (by omega) (by decide) dX11_sign_116 ?_
            refine J.if_eqB g dX11_sign_117 (tgt := 126) (by decide) (fun c_117 => ?_) (fun c_117 => ?_)
            · have hcd : (if (mfrS cd f n gg i).2.1 = true then decide (0 < mon cd f n (n - (i + 1)) (mfrS cd f n gg i).1) else msgS cd f n (n - (i + 1)) (mfrS cd f n gg i).1) = false := mfrS_p0 _ _ _ c_90 (e1.2.symm.trans c_117)
              refine J.aload_n g dX11_sign_126 rfl rfl ?_
              refine J.get g jX11 25 (by decide) lf_X11_119 0 rfl rfl dX11_sign_127 ?_
              refine J.iload g dX11_sign_130 rfl ?_
              refine J.iload g dX11_sign_132 rfl ?_
              refine J.iaddN g dX11_sign_134 ?_
              refine J.ialdN g 2 rfl (by omega) (by decide) dX11_sign_135 ?_
              refine J.if_leN g dX11_sign_136 (tgt := 151) (by decide) (by rw [e2.1]; omega) (fun c_136 => ?_) (fun c_136 => ?_)
              · have hme := mfrS_2 hcd (by rw [← e2.1]; omega)
                refine J.iconstN g 2 dX11_sign_151 ?_
                refine J.istore g dX11_sign_152 rfl rfl ?_
                try dsimp only [List.set_cons_zero, List.set_cons_succ]
                refine J.aload_n g dX11_sign_154 rfl rfl ?_
                refine J.iload_n g dX11_sign_155 rfl rfl ?_
                refine J.iload g dX11_sign_156 rfl ?_
                refine J.callV0 g (c_X11_together l γ _ _ _ _ _ _ _ _ _ _ _ _ _ _ _ _ _ _ _ _ _ _ _ _ _ _ _ _ _ _ _ _ _ _ _ _ _ _ _ _ _ _ hw hml.1 (hwf i (by omega))) jy_X11_together lm_X11_201 (q0 := 0) rfl jX11.1 ⟨⟨Nat.le_of_ble_eq_true rfl, Nat.le_of_ble_eq_true rfl⟩, Nat.le_of_ble_eq_true rfl, Nat.le_of_ble_eq_true rfl⟩ (Nat.le_of_ble_eq_true rfl) rfl [0, 1] rfl rfl dX11_sign_158 ?_
                intro _ _
                dsimp only [jpush]
                refine J.istore_n g dX11_sign_161 rfl rfl rfl ?_
                try dsimp only [List.set_cons_zero, List.set_cons_succ]
                refine J.iconstN g 1 dX11_sign_162 ?_
                refine J.istore g dX11_sign_163 rfl rfl ?_
                try dsimp only [List.set_cons_zero, List.set_cons_succ]
                have hq1 := congrArg Prod.fst hme
                have hq2 := congrArg (fun z => z.2.2) hme
                have hq3 := congrArg (fun z => z.2.1) hme
                dsimp only at hq1 hq2 hq3
                refine J.iincN g 1 dX11_sign_165 rfl rfl ?_
                try dsimp only [List.set_cons_zero, List.set_cons_succ]
                refine J.goto g dX11_sign_168 (tgt := 49) (by decide) ?_
                have ih2 := ih_lp (i + 1) (by omega) (by omega)
                rw [hq1, hq2, hq3] at ih2
                exact J.lvle (jle_s (jle_s (jle_s (jle_s (jle_s (jle_s (jle_s (jle_n (jle_n (jle_n jle_0)))))))))) ih2
              · have hme := mfrS_1 hcd (by rw [← e2.1]; omega)
                refine J.iconstN g 1 dX11_sign_139 ?_
                refine J.istore g dX11_sign_140 rfl rfl ?_
                try dsimp only [List.set_cons_zero, List.set_cons_succ]
                refine J.iload g dX11_sign_142 rfl ?_
                refine J.istore_n g dX11_sign_144 rfl rfl rfl ?_
                try dsimp only [List.set_cons_zero, List.set_cons_succ]
                refine J.iconstN g 1 dX11_sign_145 ?_
                refine J.istore g dX11_sign_146 rfl rfl ?_
                try dsimp only [List.set_cons_zero, List.set_cons_succ]
                refine J.goto g dX11_sign_148 (tgt := 165) (by decide) ?_
                have hq1 := congrArg Prod.fst hme
                have hq2 := congrArg (fun z => z.2.2) hme
                have hq3 := congrArg (fun z => z.2.1) hme
                dsimp only at hq1 hq2 hq3
                refine J.iincN g 1 dX11_sign_165 rfl rfl ?_
                try dsimp only [List.set_cons_zero, List.set_cons_succ]
                refine J.goto g dX11_sign_168 (tgt := 49) (by decide) ?_
                have ih2 := ih_lp (i + 1) (by omega) (by omega)
                rw [hq1, hq2, hq3] at ih2
                exact J.lvle (jle_s (jle_s (jle_s (jle_s (jle_s (jle_s (jle_s (jle_n (jle_n (jle_n jle_0)))))))))) ih2
            · have hcd : (if (mfrS cd f n gg i).2.1 = true then decide (0 < mon cd f n (n - (i + 1)) (mfrS cd f n gg i).1) else msgS cd f n (n - (i + 1)) (mfrS cd f n gg i).1) = true := mfrS_p _ _ _ c_90 (e1.2.symm.trans c_117)
              have hme := mfrS_0 hcd
              refine J.iconstN g 0 dX11_sign_120 ?_
              refine J.istore g dX11_sign_121 rfl rfl ?_
              try dsimp only [List.set_cons_zero, List.set_cons_succ]
              refine J.goto g dX11_sign_123 (tgt := 165) (by decide) ?_
              have hq1 := congrArg Prod.fst hme
              have hq2 := congrArg (fun z => z.2.2) hme
              have hq3 := congrArg (fun z => z.2.1) hme
              dsimp only at hq1 hq2 hq3
              refine J.iincN g 1 dX11_sign_165 rfl rfl ?_
              try dsimp only [List.set_cons_zero, List.set_cons_succ]
              refine J.goto g dX11_sign_168 (tgt := 49) (by decide) ?_
              have ih2 := ih_lp (i + 1) (by omega) (by omega)
              rw [hq1, hq2, hq3] at ih2
              exact J.lvle (jle_s (jle_s (jle_s (jle_s (jle_s (jle_s (jle_s (jle_n (jle_n (jle_n jle_0)))))))))) ih2
          · refine J.aload_n g dX11_sign_93 rfl rfl ?_
            refine J.get g jX11 25 (by decide) lf_X11_119 0 rfl rfl dX11_sign_94 ?_
            refine J.iload g dX11_sign_97 rfl ?_
            refine J.iload_n g dX11_sign_99 rfl rfl ?_
            refine J.iaddN g dX11_sign_100 ?_
            refine J.ialdN g 2 rfl (by omega) (by decide) dX11_sign_101 ?_
            refine J.if_leN g dX11_sign_102 (tgt := 126) (by decide) (by rw [e1.1]; omega) (fun c_102 => ?_) (fun c_102 => ?_)
            · have hcd : (if (mfrS cd f n gg i).2.1 = true then decide (0 < mon cd f n (n - (i + 1)) (mfrS cd f n gg i).1) else msgS cd f n (n - (i + 1)) (mfrS cd f n gg i).1) = false := mfrS_q0 _ _ _ c_90 (by rw [← e1.1]; omega)
              refine J.aload_n g dX11_sign_126 rfl rfl ?_
              refine J.get g jX11 25 (by decide) lf_X11_119 0 rfl rfl dX11_sign_127 ?_
              refine J.iload g dX11_sign_130 rfl ?_
              refine J.iload g dX11_sign_132 rfl ?_
              refine J.iaddN g dX11_sign_134 ?_
              refine J.ialdN g 2 rfl (by omega) (by decide) dX11_sign_135 ?_
              refine J.if_leN g dX11_sign_136 (tgt := 151) (by decide) (by rw [e2.1]; omega) (fun c_136 => ?_) (fun c_136 => ?_)
              · have hme := mfrS_2 hcd (by rw [← e2.1]; omega)
                refine J.iconstN g 2 dX11_sign_151 ?_
                refine J.istore g dX11_sign_152 rfl rfl ?_
                try dsimp only [List.set_cons_zero, List.set_cons_succ]
                refine J.aload_n g dX11_sign_154 rfl rfl ?_
                refine J.iload_n g dX11_sign_155 rfl rfl ?_
                refine J.iload g dX11_sign_156 rfl ?_
                refine J.callV0 g (c_X11_together l γ _ _ _ _ _ _ _ _ _ _ _ _ _ _ _ _ _ _ _ _ _ _ _ _ _ _ _ _ _ _ _ _ _ _ _ _ _ _ _ _ _ _ hw hml.1 (hwf i (by omega))) jy_X11_together lm_X11_201 (q0 := 0) rfl jX11.1 ⟨⟨Nat.le_of_ble_eq_true rfl, Nat.le_of_ble_eq_true rfl⟩, Nat.le_of_ble_eq_true rfl, Nat.le_of_ble_eq_true rfl⟩ (Nat.le_of_ble_eq_true rfl) rfl [0, 1] rfl rfl dX11_sign_158 ?_
                intro _ _
                dsimp only [jpush]
                refine J.istore_n g dX11_sign_161 rfl rfl rfl ?_
                try dsimp only [List.set_cons_zero, List.set_cons_succ]
                refine J.iconstN g 1 dX11_sign_162 ?_
                refine J.istore g dX11_sign_163 rfl rfl ?_
                try dsimp only [List.set_cons_zero, List.set_cons_succ]
                have hq1 := congrArg Prod.fst hme
                have hq2 := congrArg (fun z => z.2.2) hme
                have hq3 := congrArg (fun z => z.2.1) hme
                dsimp only at hq1 hq2 hq3
                refine J.iincN g 1 dX11_sign_165 rfl rfl ?_
                try dsimp only [List.set_cons_zero, List.set_cons_succ]
                refine J.goto g dX11_sign_168 (tgt := 49) (by decide) ?_
                have ih2 := ih_lp (i + 1) (by omega) (by omega)
                rw [hq1, hq2, hq3] at ih2
                exact J.lvle (jle_s (jle_s (jle_s (jle_s (jle_s (jle_s (jle_s (jle_n (jle_n (jle_n jle_0)))))))))) ih2
              · have hme := mfrS_1 hcd (by rw [← e2.1]; omega)
                refine J.iconstN g 1 dX11_sign_139 ?_
                refine J.istore g dX11_sign_140 rfl rfl ?_
                try dsimp only [List.set_cons_zero, List.set_cons_succ]
                refine J.iload g dX11_sign_142 rfl ?_
                refine J.istore_n g dX11_sign_144 rfl rfl rfl ?_
                try dsimp only [List.set_cons_zero, List.set_cons_succ]
                refine J.iconstN g 1 dX11_sign_145 ?_
                refine J.istore g dX11_sign_146 rfl rfl ?_
                try dsimp only [List.set_cons_zero, List.set_cons_succ]
                refine J.goto g dX11_sign_148 (tgt := 165) (by decide) ?_
                have hq1 := congrArg Prod.fst hme
                have hq2 := congrArg (fun z => z.2.2) hme
                have hq3 := congrArg (fun z => z.2.1) hme
                dsimp only at hq1 hq2 hq3
                refine J.iincN g 1 dX11_sign_165 rfl rfl ?_
                try dsimp only [List.set_cons_zero, List.set_cons_succ]
                refine J.goto g dX11_sign_168 (tgt := 49) (by decide) ?_
                have ih2 := ih_lp (i + 1) (by omega) (by omega)
                rw [hq1, hq2, hq3] at ih2
                exact J.lvle (jle_s (jle_s (jle_s (jle_s (jle_s (jle_s (jle_s (jle_n (jle_n (jle_n jle_0)))))))))) ih2
            · have hcd : (if (mfrS cd f n gg i).2.1 = true then decide (0 < mon cd f n (n - (i + 1)) (mfrS cd f n gg i).1) else msgS cd f n (n - (i + 1)) (mfrS cd f n gg i).1) = true := mfrS_q _ _ _ c_90 (by rw [← e1.1]; omega)
              refine J.goto g dX11_sign_105 (tgt := 120) (by decide) ?_
              have hme := mfrS_0 hcd
              refine J.iconstN g 0 dX11_sign_120 ?_
              refine J.istore g dX11_sign_121 rfl rfl ?_
              try dsimp only [List.set_cons_zero, List.set_cons_succ]
              refine J.goto g dX11_sign_123 (tgt := 165) (by decide) ?_
              have hq1 := congrArg Prod.fst hme
              have hq2 := congrArg (fun z => z.2.2) hme
              have hq3 := congrArg (fun z => z.2.1) hme
              dsimp only at hq1 hq2 hq3
              refine J.iincN g 1 dX11_sign_165 rfl rfl ?_
              try dsimp only [List.set_cons_zero, List.set_cons_succ]
              refine J.goto g dX11_sign_168 (tgt := 49) (by decide) ?_
              have ih2 := ih_lp (i + 1) (by omega) (by omega)
              rw [hq1, hq2, hq3] at ih2
              exact J.lvle (jle_s (jle_s (jle_s (jle_s (jle_s (jle_s (jle_s (jle_n (jle_n (jle_n jle_0)))))))))) ih2
    exact J.lvle (jle_s (jle_s (jle_s (jle_s (jle_s (jle_s (jle_s (jle_n (jle_n (jle_n jle_0)))))))))) (lp _ 0 (Nat.lt_succ_self _) (Nat.zero_le _))
  · refine J.iconst (v := -1) g dX11_sign_36 (by decide) ?_
    exact J.iret g hE u_24 (by rw [if_neg (by rw [← hsg.2, c_33]; decide)]) trivial rfl ⟨Nat.le_of_ble_eq_true rfl, Nat.le_of_ble_eq_true rfl⟩ dX11_sign_37
set_option maxHeartbeats 4000000 in
set_option maxRecDepth 100000 in
theorem c_X11_sign_no (l : Launch) (γ : jγ) (mo mta mtd msz mto mfr mso mnu mfa mpl mro mnw mrd mkp msn mbf mlv mik msm msu mbe mfe mmy mof msf mlr mty mfm mrn mrb mln mtb : Nat) (mth mfw mse : Int32) (mwd : Int64) (cd n : Nat) (f w : Nat → Nat) (a b : Int32) (hw : mIs cd n f w) (hi : jhas a (god cd) = false ∨ jhas b n = false) : jM (S := Unit) l γ yX11_sign cX11_sign 10 (some .int) ({ frames := 4, cells := 0, slots := 0, locals := 102 } : Room) [.ref mo, .int a, .int b] [(mo, .inr (11, [.int mth, .ref mta, .int (nI mtd), .int (nI msz), .int (nI mto), .int (nI mfr), .int (nI mso), .int (nI mnu), .int (nI mfa), .int mfw, .int (nI mpl), .int (nI mro), .long mwd, .ref mnw, .ref mrd, .ref mkp, .ref msn, .ref mbf, .ref mlv, .ref mik, .int (nI msm), .ref msu, .ref mbe, .ref mfe, .ref mmy, .ref mof, .ref msf, .ref mlr, .ref mty, .ref mfm, .ref mrn, .ref mrb, .int (nI mln), .ref mtb, .int mse])), (mnw, .inl (γ.2 0, 17, .inl (fun j => nI (w j))))] (fun w0 => some (.int (-1))) (fun w0 => [(mo, .inr (11, [.int (nI 0), .ref mta, .int (nI mtd), .int (nI msz), .int (nI mto), .int (nI mfr), .int (nI mso), .int (nI mnu), .int (nI mfa), .int mfw, .int (nI mpl), .int (nI mro), .long mwd, .ref mnw, .ref mrd, .ref mkp, .ref msn, .ref mbf, .ref mlv, .ref mik, .int (nI msm), .ref msu, .ref mbe, .ref mfe, .ref mmy, .ref mof, .ref msf, .ref mlr, .ref mty, .ref mfm, .ref mrn, .ref mrb, .int (nI mln), .ref mtb, .int mse])), (mnw, .inl (γ.2 0, 17, .inl (fun j => nI (w j))))]) (fun w0 => True) := by
  refine jM.of [some (.ref mo), some (.int a), some (.int b), none, none, none, none, none, none, none] rfl (Nat.le_of_ble_eq_true rfl) (by decide) ?_
  intro x g hE hin
  have hwg := hw.g
  have hw5 := hw.2.2.2.2.2.1
  have hwf := hw.2.2.2.2.2.2
  have hw3 := hw.2.2.1
  refine J.aload_n g dX11_sign_0 rfl rfl ?_
  refine J.iconstN g 0 dX11_sign_1 ?_
  refine J.put g jX11 0 (by decide) lf_X11_1 0 rfl rfl (Nat.le_of_ble_eq_true rfl) rfl rfl dX11_sign_2 ?_
  try dsimp only [List.set_cons_zero, List.set_cons_succ]
  refine J.aload_n g dX11_sign_5 rfl rfl ?_
  refine J.iload_n g dX11_sign_6 rfl rfl ?_
  refine J.callV0 g (c_X11_isElement l γ _ _ _ _ _ _ _ _ _ _ _ _ _ _ _ _ _ _ _ _ _ _ _ _ _ _ _ _ _ _ _ _ _ _ _ _ _ _ _ _ _ hw) jy_X11_isElement lm_X11_219 (q0 := 0) rfl jX11.1 ⟨⟨Nat.le_of_ble_eq_true rfl, Nat.le_of_ble_eq_true rfl⟩, Nat.le_of_ble_eq_true rfl, Nat.le_of_ble_eq_true rfl⟩ (Nat.le_of_ble_eq_true rfl) rfl [0, 1] rfl rfl dX11_sign_7 ?_
  intro _ _
  dsimp only [jpush]
  refine J.if_eqB g dX11_sign_10 (tgt := 21) (by decide) (fun c_10 => ?_) (fun c_10 => ?_)
  · refine J.iconst (v := -1) g dX11_sign_21 (by decide) ?_
    exact J.iret g hE () rfl trivial rfl ⟨Nat.le_of_ble_eq_true rfl, Nat.le_of_ble_eq_true rfl⟩ dX11_sign_22
  · refine J.aload_n g dX11_sign_13 rfl rfl ?_
    refine J.iload_n g dX11_sign_14 rfl rfl ?_
    refine J.callV0 g (c_X11_isPlace l γ _ _ _ _ _ _ _ _ _ _ _ _ _ _ _ _ _ _ _ _ _ _ _ _ _ _ _ _ _ _ _ _ _ _ _ _ _ _ _ _ _ hw) jy_X11_isPlace lm_X11_216 (q0 := 0) rfl jX11.1 ⟨⟨Nat.le_of_ble_eq_true rfl, Nat.le_of_ble_eq_true rfl⟩, Nat.le_of_ble_eq_true rfl, Nat.le_of_ble_eq_true rfl⟩ (Nat.le_of_ble_eq_true rfl) rfl [0, 1] rfl rfl dX11_sign_15 ?_
    intro _ _
    dsimp only [jpush]
    refine J.if_neB g dX11_sign_18 (tgt := 23) (by decide) (fun c_18 => absurd c_18 (by rcases hi with hi | hi <;> simp_all)) (fun c_18 => ?_)
    refine J.iconst (v := -1) g dX11_sign_21 (by decide) ?_
    exact J.iret g hE () rfl trivial rfl ⟨Nat.le_of_ble_eq_true rfl, Nat.le_of_ble_eq_true rfl⟩ dX11_sign_22
set_option maxHeartbeats 4000000 in
set_option maxRecDepth 100000 in
theorem c_X11_sorts (l : Launch) (γ : jγ) (sa n : Nat) (f : Nat → Nat) (hn : n ≤ 12) (hf : ∀ j, j < n → f j < 24) : jM (S := Unit) l γ yX11_sorts cX11_sorts 5 none ({ frames := 0, cells := 0, slots := 0, locals := 0 } : Room) [.ref sa, .int (nI n)] [(sa, .inl (γ.2 0, 12, .inl (fun j => nI (f j))))] (fun w0 => none) (fun w0 => [(sa, .inl (γ.2 0, 12, .inl (fun j => nI ((jsrt f (n - 1)) j))))]) (fun w0 => True) := by
  refine jM.of [some (.ref sa), some (.int (nI n)), none, none, none] rfl (Nat.le_of_ble_eq_true rfl) (by decide) ?_
  intro x g hE hin
  have hb : ∀ v : Nat, v < 24 → v < 2 ^ 31 := fun v h => by omega
  refine J.iconstN g 1 dX11_sorts_0 ?_
  refine J.istore_n g dX11_sorts_1 rfl rfl rfl ?_
  try dsimp only [List.set_cons_zero, List.set_cons_succ]
  have lp : ∀ (d : Nat) (i : Nat), n - i < d → (i ≤ n - 1) → J γ l x [(sa, .inl (γ.2 0, 12, .inl (fun j => nI ((jsrt f i) j))))] [some (.ref sa), some (.int (nI n)), some (.int (nI (i + 1))), none, none] [] 0 0 2 := by
    intro d
    induction d with
    | zero => intro i hm; exact absurd hm (Nat.not_lt_zero _)
    | succ d ih_lp =>
      intro i hm hi
      refine J.iload_n g dX11_sorts_2 rfl rfl ?_
      refine J.iload_n g dX11_sorts_3 rfl rfl ?_
      refine J.icmp_geN g dX11_sorts_4 (tgt := 56) (by decide) (by omega) (by omega) (fun c_4 => ?_) (fun c_4 => ?_)
      · exact J.vret g hE () rfl trivial (by rw [show n - 1 = i by omega]) ⟨Nat.le_of_ble_eq_true rfl, Nat.le_of_ble_eq_true rfl⟩ dX11_sorts_56
      · refine J.aload_n g dX11_sorts_7 rfl rfl ?_
        refine J.iload_n g dX11_sorts_8 rfl rfl ?_
        refine J.ialdN g 0 rfl (by omega) (by decide) dX11_sorts_9 ?_
        refine J.istore_n g dX11_sorts_10 rfl rfl rfl ?_
        try dsimp only [List.set_cons_zero, List.set_cons_succ]
        refine J.iload_n g dX11_sorts_11 rfl rfl ?_
        refine J.istore g dX11_sorts_12 rfl rfl ?_
        try dsimp only [List.set_cons_zero, List.set_cons_succ]
        have lq : ∀ (d : Nat) (p : Nat) (h : Nat → Nat), p < d → (p ≤ i + 1) → (jins (jsrt f i (i + 1)) p h = jsrt f (i + 1)) → (∀ j, j < n → h j < 24) → J γ l x [(sa, .inl (γ.2 0, 12, .inl (fun j => nI (h j))))] [some (.ref sa), some (.int (nI n)), some (.int (nI (i + 1))), some (.int (nI (jsrt f i (i + 1)))), some (.int (nI p))] [] 0 0 14 := by
          intro d
          induction d with
          | zero => intro p h hm; exact absurd hm (Nat.not_lt_zero _)
          | succ d ih_lq =>
            intro p h hm hp hr hb2
            refine J.iload g dX11_sorts_14 rfl ?_
            refine J.if_leN g dX11_sorts_16 (tgt := 45) (by decide) (by omega) (fun c_16 => ?_) (fun c_16 => ?_)
            · obtain rfl : p = 0 := by omega
              have hq := hr.symm
              refine J.aload_n g dX11_sorts_45 rfl rfl ?_
              refine J.iload g dX11_sorts_46 rfl ?_
              refine J.iload_n g dX11_sorts_48 rfl rfl ?_
              refine J.iastN g 0 rfl (by omega) (by decide) dX11_sorts_49 ?_
              try dsimp only [List.set_cons_zero, List.set_cons_succ]
              refine J.iincN g 1 dX11_sorts_50 rfl rfl ?_
              try dsimp only [List.set_cons_zero, List.set_cons_succ]
              refine J.goto g dX11_sorts_53 (tgt := 2) (by decide) ?_
              have ih2 := ih_lp (i + 1) (by omega) (by omega)
              rw [hq] at ih2
              exact J.lvle (jle_s (jle_s (jle_s (jle_n (jle_n jle_0))))) ih2
            · obtain ⟨q, rfl⟩ : ∃ q, p = q + 1 := ⟨p - 1, by omega⟩
              refine J.aload_n g dX11_sorts_19 rfl rfl ?_
              refine J.iload g dX11_sorts_20 rfl ?_
              refine J.iconstN g 1 dX11_sorts_22 ?_
              refine J.isubN g dX11_sorts_23 (by omega) ?_
              refine J.ialdN g 0 rfl (by omega) (by decide) dX11_sorts_24 ?_
              refine J.iload_n g dX11_sorts_25 rfl rfl ?_
              have q1 := hb2 q (by omega)
              have q2 := jsrt_24 hf i (by omega) (i + 1) (by omega)
              rw [Nat.add_sub_cancel]
              refine J.icmp_leN g dX11_sorts_26 (tgt := 45) (by decide) (by omega) (by omega) (fun c_26 => ?_) (fun c_26 => ?_)
              · have hq : jsrt f (i + 1) = va_up h (q + 1) (jsrt f i (i + 1)) := by rw [← hr, jins, if_neg (by omega)]
                refine J.aload_n g dX11_sorts_45 rfl rfl ?_
                refine J.iload g dX11_sorts_46 rfl ?_
                refine J.iload_n g dX11_sorts_48 rfl rfl ?_
                refine J.iastN g 0 rfl (by omega) (by decide) dX11_sorts_49 ?_
                try dsimp only [List.set_cons_zero, List.set_cons_succ]
                refine J.iincN g 1 dX11_sorts_50 rfl rfl ?_
                try dsimp only [List.set_cons_zero, List.set_cons_succ]
                refine J.goto g dX11_sorts_53 (tgt := 2) (by decide) ?_
                have ih2 := ih_lp (i + 1) (by omega) (by omega)
                rw [hq] at ih2
                exact J.lvle (jle_s (jle_s (jle_s (jle_n (jle_n jle_0))))) ih2
              · refine J.aload_n g dX11_sorts_29 rfl rfl ?_
                refine J.iload g dX11_sorts_30 rfl ?_
                refine J.aload_n g dX11_sorts_32 rfl rfl ?_
                refine J.iload g dX11_sorts_33 rfl ?_
                refine J.iconstN g 1 dX11_sorts_35 ?_
                refine J.isubN g dX11_sorts_36 (by omega) ?_
                refine J.ialdN g 0 rfl (by omega) (by decide) dX11_sorts_37 ?_
                refine J.iastN g 0 rfl (by omega) (by decide) dX11_sorts_38 ?_
                try dsimp only [List.set_cons_zero, List.set_cons_succ]
                refine J.idecN g dX11_sorts_39 rfl rfl (by omega) ?_
                try dsimp only [List.set_cons_zero, List.set_cons_succ]
                refine J.goto g dX11_sorts_42 (tgt := 14) (by decide) ?_
                exact J.lvle (jle_s (jle_s (jle_s (jle_s (jle_s jle_0))))) (ih_lq _ _ (by omega) (by omega) (by rw [← hr, jins, if_pos c_26]; rfl) (fun j hj => by unfold va_up; split <;> first | exact hb2 q (by omega) | exact hb2 j hj))
        exact J.lvle (jle_s (jle_s (jle_s (jle_s (jle_s jle_0))))) (lq _ (i + 1) (jsrt f i) (Nat.lt_succ_self _) (Nat.le_refl _) rfl (jsrt_24 hf i (by omega)))
  exact J.lvle (jle_s (jle_s (jle_s (jle_n (jle_n jle_0))))) (lp _ 0 (Nat.lt_succ_self _) (Nat.zero_le _))
set_option maxHeartbeats 4000000 in
set_option maxRecDepth 100000 in
theorem c_X11_isLess (l : Launch) (γ : jγ) (mo mta mtd msz mto mfr mso mnu mfa mpl mro mnw mrd mkp msn mbf mlv mik msm msu mbe mfe mmy mof msf mlr mty mfm mrn mrb mln mtb : Nat) (mth mfw mse : Int32) (mwd : Int64) (cd n : Nat) (f w : Nat → Nat) (LF TF : Nat → Nat) (hw : mIs cd n f w) (hf : ∀ j, j < n → TF j < 24) (hf2 : ∀ j, j < n → LF j < 24) : jM (S := Unit) l γ yX11_isLess cX11_isLess 2 (some .boolean) ({ frames := 1, cells := 0, slots := 0, locals := 20 } : Room) [.ref mo] [(mo, .inr (11, [.int mth, .ref mta, .int (nI mtd), .int (nI msz), .int (nI mto), .int (nI mfr), .int (nI mso), .int (nI mnu), .int (nI mfa), .int mfw, .int (nI mpl), .int (nI mro), .long mwd, .ref mnw, .ref mrd, .ref mkp, .ref msn, .ref mbf, .ref mlv, .ref mik, .int (nI msm), .ref msu, .ref mbe, .ref mfe, .ref mmy, .ref mof, .ref msf, .ref mlr, .ref mty, .ref mfm, .ref mrn, .ref mrb, .int (nI mln), .ref mtb, .int mse])), (mnw, .inl (γ.2 0, 17, .inl (fun j => nI (w j)))), (mlr, .inl (γ.2 0, 12, .inl (fun j => nI (LF j)))), (mty, .inl (γ.2 0, 12, .inl (fun j => nI (TF j))))] (fun w0 => some (.int (jB (jlt TF LF n 0)))) (fun w0 => [(mo, .inr (11, [.int mth, .ref mta, .int (nI mtd), .int (nI msz), .int (nI mto), .int (nI mfr), .int (nI mso), .int (nI mnu), .int (nI mfa), .int mfw, .int (nI mpl), .int (nI mro), .long mwd, .ref mnw, .ref mrd, .ref mkp, .ref msn, .ref mbf, .ref mlv, .ref mik, .int (nI msm), .ref msu, .ref mbe, .ref mfe, .ref mmy, .ref mof, .ref msf, .ref mlr, .ref mty, .ref mfm, .ref mrn, .ref mrb, .int (nI mln), .ref mtb, .int mse])), (mnw, .inl (γ.2 0, 17, .inl (fun j => nI (w j)))), (mlr, .inl (γ.2 0, 12, .inl (fun j => nI (LF j)))), (mty, .inl (γ.2 0, 12, .inl (fun j => nI (TF j))))]) (fun w0 => True) := by
  refine jM.of [some (.ref mo), none] rfl (Nat.le_of_ble_eq_true rfl) (by decide) ?_
  intro x g hE hin
  have hwg := hw.g
  have hw5 := hw.2.2.2.2.2.1
  have hwf := hw.2.2.2.2.2.2
  have hw3 := hw.2.2.1
  refine J.iconstN g 0 dX11_isLess_0 ?_
  refine J.istore_n g dX11_isLess_1 rfl rfl rfl ?_
  try dsimp only [List.set_cons_zero, List.set_cons_succ]
  have lp : ∀ (d : Nat) (i : Nat), n - i < d → (i ≤ n) → (jlt TF LF n 0 = jlt TF LF (n - i) i) → J γ l x [(mo, .inr (11, [.int mth, .ref mta, .int (nI mtd), .int (nI msz), .int (nI mto), .int (nI mfr), .int (nI mso), .int (nI mnu), .int (nI mfa), .int mfw, .int (nI mpl), .int (nI mro), .long mwd, .ref mnw, .ref mrd, .ref mkp, .ref msn, .ref mbf, .ref mlv, .ref mik, .int (nI msm), .ref msu, .ref mbe, .ref mfe, .ref mmy, .ref mof, .ref msf, .ref mlr, .ref mty, .ref mfm, .ref mrn, .ref mrb, .int (nI mln), .ref mtb, .int mse])), (mnw, .inl (γ.2 0, 17, .inl (fun j => nI (w j)))), (mlr, .inl (γ.2 0, 12, .inl (fun j => nI (LF j)))), (mty, .inl (γ.2 0, 12, .inl (fun j => nI (TF j))))] [some (.ref mo), some (.int (nI i))] [] 0 0 2 := by
    intro d
    induction d with
    | zero => intro i hm; exact absurd hm (Nat.not_lt_zero _)
    | succ d ih_lp =>
      intro i hm hi hr
      refine J.iload_n g dX11_isLess_2 rfl rfl ?_
      refine J.aload_n g dX11_isLess_3 rfl rfl ?_
      refine J.callV0 g (c_X11_places l γ _ _ _ _ _ _ _ _ _ _ _ _ _ _ _ _ _ _ _ _ _ _ _ _ _ _ _ _ _ _ _ _ _ _ _ _ _ _ _ _ hw) jy_X11_places lm_X11_190 (q0 := 0) rfl jX11.1 ⟨⟨Nat.le_of_ble_eq_true rfl, Nat.le_of_ble_eq_true rfl⟩, Nat.le_of_ble_eq_true rfl, Nat.le_of_ble_eq_true rfl⟩ (Nat.le_of_ble_eq_true rfl) rfl [0, 1] rfl rfl dX11_isLess_4 ?_
      intro _ _
      dsimp only [jpush]
      refine J.icmp_geN g dX11_isLess_7 (tgt := 31) (by decide) (by omega) (by omega) (fun c_7 => ?_) (fun c_7 => ?_)
      · refine J.iload_n g dX11_isLess_31 rfl rfl ?_
        refine J.aload_n g dX11_isLess_32 rfl rfl ?_
        refine J.callV0 g (c_X11_places l γ _ _ _ _ _ _ _ _ _ _ _ _ _ _ _ _ _ _ _ _ _ _ _ _ _ _ _ _ _ _ _ _ _ _ _ _ _ _ _ _ hw) jy_X11_places lm_X11_190 (q0 := 0) rfl jX11.1 ⟨⟨Nat.le_of_ble_eq_true rfl, Nat.le_of_ble_eq_true rfl⟩, Nat.le_of_ble_eq_true rfl, Nat.le_of_ble_eq_true rfl⟩ (Nat.le_of_ble_eq_true rfl) rfl [0, 1] rfl rfl dX11_isLess_33 ?_
        intro _ _
        dsimp only [jpush]
        refine J.icmp_geN g dX11_isLess_36 (tgt := 58) (by decide) (by omega) (by omega) (fun c_36 => ?_) (fun c_36 => ?_)
        · refine J.iconstN g 0 dX11_isLess_58 ?_
          exact J.zret (by first | rfl | exact j_nz _) g hE () (jB_f (by first | exact hr.trans (jlt_0 (by omega)) | exact hr.trans ((jlt_n (by omega) (by omega)).trans (decide_eq_true (by omega))) | exact hr.trans ((jlt_n (by omega) (by omega)).trans (decide_eq_false (by omega))))) trivial rfl ⟨Nat.le_of_ble_eq_true rfl, Nat.le_of_ble_eq_true rfl⟩ dX11_isLess_59
        · refine J.aload_n g dX11_isLess_39 rfl rfl ?_
          refine J.get g jX11 28 (by decide) lf_X11_128 0 rfl rfl dX11_isLess_40 ?_
          refine J.iload_n g dX11_isLess_43 rfl rfl ?_
          refine J.ialdN g 3 rfl (by omega) (by decide) dX11_isLess_44 ?_
          refine J.aload_n g dX11_isLess_45 rfl rfl ?_
          refine J.get g jX11 27 (by decide) lf_X11_125 0 rfl rfl dX11_isLess_46 ?_
          refine J.iload_n g dX11_isLess_49 rfl rfl ?_
          refine J.ialdN g 2 rfl (by omega) (by decide) dX11_isLess_50 ?_
          refine J.icmp_geN g dX11_isLess_51 (tgt := 58) (by decide) (by have q1 := hf i (by omega); omega) (by have q2 := hf2 i (by omega); omega) (fun c_51 => ?_) (fun c_51 => ?_)
          · refine J.iconstN g 0 dX11_isLess_58 ?_
            exact J.zret (by first | rfl | exact j_nz _) g hE () (jB_f (by first | exact hr.trans (jlt_0 (by omega)) | exact hr.trans ((jlt_n (by omega) (by omega)).trans (decide_eq_true (by omega))) | exact hr.trans ((jlt_n (by omega) (by omega)).trans (decide_eq_false (by omega))))) trivial rfl ⟨Nat.le_of_ble_eq_true rfl, Nat.le_of_ble_eq_true rfl⟩ dX11_isLess_59
          · refine J.iconstN g 1 dX11_isLess_54 ?_
            refine J.goto g dX11_isLess_55 (tgt := 59) (by decide) ?_
            exact J.zret (by first | rfl | exact j_nz _) g hE () (jB_t (by first | exact hr.trans (jlt_0 (by omega)) | exact hr.trans ((jlt_n (by omega) (by omega)).trans (decide_eq_true (by omega))) | exact hr.trans ((jlt_n (by omega) (by omega)).trans (decide_eq_false (by omega))))) trivial rfl ⟨Nat.le_of_ble_eq_true rfl, Nat.le_of_ble_eq_true rfl⟩ dX11_isLess_59
      · have q1 := hf i (by omega)
        have q2 := hf2 i (by omega)
        refine J.aload_n g dX11_isLess_10 rfl rfl ?_
        refine J.get g jX11 28 (by decide) lf_X11_128 0 rfl rfl dX11_isLess_11 ?_
        refine J.iload_n g dX11_isLess_14 rfl rfl ?_
        refine J.ialdN g 3 rfl (by omega) (by decide) dX11_isLess_15 ?_
        refine J.aload_n g dX11_isLess_16 rfl rfl ?_
        refine J.get g jX11 27 (by decide) lf_X11_125 0 rfl rfl dX11_isLess_17 ?_
        refine J.iload_n g dX11_isLess_20 rfl rfl ?_
        refine J.ialdN g 2 rfl (by omega) (by decide) dX11_isLess_21 ?_
        refine J.icmp_neN g dX11_isLess_22 (tgt := 31) (by decide) (by omega) (by omega) (fun c_22 => ?_) (fun c_22 => ?_)
        · refine J.iload_n g dX11_isLess_31 rfl rfl ?_
          refine J.aload_n g dX11_isLess_32 rfl rfl ?_
          refine J.callV0 g (c_X11_places l γ _ _ _ _ _ _ _ _ _ _ _ _ _ _ _ _ _ _ _ _ _ _ _ _ _ _ _ _ _ _ _ _ _ _ _ _ _ _ _ _ hw) jy_X11_places lm_X11_190 (q0 := 0) rfl jX11.1 ⟨⟨Nat.le_of_ble_eq_true rfl, Nat.le_of_ble_eq_true rfl⟩, Nat.le_of_ble_eq_true rfl, Nat.le_of_ble_eq_true rfl⟩ (Nat.le_of_ble_eq_true rfl) rfl [0, 1] rfl rfl dX11_isLess_33 ?_
          intro _ _
          dsimp only [jpush]
          refine J.icmp_geN g dX11_isLess_36 (tgt := 58) (by decide) (by omega) (by omega) (fun c_36 => ?_) (fun c_36 => ?_)
          · refine J.iconstN g 0 dX11_isLess_58 ?_
            exact J.zret (by first | rfl | exact j_nz _) g hE () (jB_f (by first | exact hr.trans (jlt_0 (by omega)) | exact hr.trans ((jlt_n (by omega) (by omega)).trans (decide_eq_true (by omega))) | exact hr.trans ((jlt_n (by omega) (by omega)).trans (decide_eq_false (by omega))))) trivial rfl ⟨Nat.le_of_ble_eq_true rfl, Nat.le_of_ble_eq_true rfl⟩ dX11_isLess_59
          · refine J.aload_n g dX11_isLess_39 rfl rfl ?_
            refine J.get g jX11 28 (by decide) lf_X11_128 0 rfl rfl dX11_isLess_40 ?_
            refine J.iload_n g dX11_isLess_43 rfl rfl ?_
            refine J.ialdN g 3 rfl (by omega) (by decide) dX11_isLess_44 ?_
            refine J.aload_n g dX11_isLess_45 rfl rfl ?_
            refine J.get g jX11 27 (by decide) lf_X11_125 0 rfl rfl dX11_isLess_46 ?_
            refine J.iload_n g dX11_isLess_49 rfl rfl ?_
            refine J.ialdN g 2 rfl (by omega) (by decide) dX11_isLess_50 ?_
            refine J.icmp_geN g dX11_isLess_51 (tgt := 58) (by decide) (by have q1 := hf i (by omega); omega) (by have q2 := hf2 i (by omega); omega) (fun c_51 => ?_) (fun c_51 => ?_)
            · refine J.iconstN g 0 dX11_isLess_58 ?_
              exact J.zret (by first | rfl | exact j_nz _) g hE () (jB_f (by first | exact hr.trans (jlt_0 (by omega)) | exact hr.trans ((jlt_n (by omega) (by omega)).trans (decide_eq_true (by omega))) | exact hr.trans ((jlt_n (by omega) (by omega)).trans (decide_eq_false (by omega))))) trivial rfl ⟨Nat.le_of_ble_eq_true rfl, Nat.le_of_ble_eq_true rfl⟩ dX11_isLess_59
            · refine J.iconstN g 1 dX11_isLess_54 ?_
              refine J.goto g dX11_isLess_55 (tgt := 59) (by decide) ?_
              exact J.zret (by first | rfl | exact j_nz _) g hE () (jB_t (by first | exact hr.trans (jlt_0 (by omega)) | exact hr.trans ((jlt_n (by omega) (by omega)).trans (decide_eq_true (by omega))) | exact hr.trans ((jlt_n (by omega) (by omega)).trans (decide_eq_false (by omega))))) trivial rfl ⟨Nat.le_of_ble_eq_true rfl, Nat.le_of_ble_eq_true rfl⟩ dX11_isLess_59
        · refine J.iincN g 1 dX11_isLess_25 rfl rfl ?_
          try dsimp only [List.set_cons_zero, List.set_cons_succ]
          refine J.goto g dX11_isLess_28 (tgt := 2) (by decide) ?_
          exact J.lvle (jle_s (jle_s jle_0)) (ih_lp (i + 1) (by omega) (by omega) (hr.trans (jlt_e (by omega) (by omega))))
  exact J.lvle (jle_s (jle_s jle_0)) (lp _ 0 (Nat.lt_succ_self _) (Nat.zero_le _) rfl)
set_option maxHeartbeats 4000000 in
set_option maxRecDepth 100000 in
theorem c_X11_like_yes (l : Launch) (γ : jγ) (mo mta mtd msz mto mfr mso mnu mfa mpl mro mnw mrd mkp msn mbf mlv mik msm msu mbe mfe mmy mof msf mlr mty mfm mrn mrb mln mtb : Nat) (mth mfw mse : Int32) (mwd : Int64) (cd n : Nat) (f w : Nat → Nat) (LF TF : Nat → Nat) (p : Nat) (hw : mIs cd n f w) (hp : p < n) : jM (S := (Nat → Nat) × (Nat → Nat)) l γ yX11_like cX11_like 4 (some .int) ({ frames := 47, cells := 0, slots := 0, locals := 1143 } : Room) [.ref mo, .int (nI p)] [(mo, .inr (11, [.int mth, .ref mta, .int (nI mtd), .int (nI msz), .int (nI mto), .int (nI mfr), .int (nI mso), .int (nI mnu), .int (nI mfa), .int mfw, .int (nI mpl), .int (nI mro), .long mwd, .ref mnw, .ref mrd, .ref mkp, .ref msn, .ref mbf, .ref mlv, .ref mik, .int (nI msm), .ref msu, .ref mbe, .ref mfe, .ref mmy, .ref mof, .ref msf, .ref mlr, .ref mty, .ref mfm, .ref mrn, .ref mrb, .int (nI mln), .ref mtb, .int mse])), (mnw, .inl (γ.2 0, 17, .inl (fun j => nI (w j)))), (mlr, .inl (γ.2 0, 12, .inl (fun j => nI (LF j)))), (mty, .inl (γ.2 0, 12, .inl (fun j => nI (TF j))))] (fun u => some (.int (nI (jlk (god cd) (gex cd) (jmf cd) f n (gex cd - 1) p)))) (fun u => [(mo, .inr (11, [.int (nI 0), .ref mta, .int (nI mtd), .int (nI msz), .int (nI mto), .int (nI mfr), .int (nI mso), .int (nI mnu), .int (nI mfa), .int mfw, .int (nI mpl), .int (nI mro), .long mwd, .ref mnw, .ref mrd, .ref mkp, .ref msn, .ref mbf, .ref mlv, .ref mik, .int (nI msm), .ref msu, .ref mbe, .ref mfe, .ref mmy, .ref mof, .ref msf, .ref mlr, .ref mty, .ref mfm, .ref mrn, .ref mrb, .int (nI mln), .ref mtb, .int mse])), (mnw, .inl (γ.2 0, 17, .inl (fun j => nI (w j)))), (mlr, .inl (γ.2 0, 12, .inl (fun j => nI (u.1 j)))), (mty, .inl (γ.2 0, 12, .inl (fun j => nI (u.2 j))))]) (fun u => True) := by
  refine jM.of [some (.ref mo), some (.int (nI p)), none, none] rfl (Nat.le_of_ble_eq_true rfl) (by decide) ?_
  intro x g hE hin
  have hwg := hw.g
  have hw5 := hw.2.2.2.2.2.1
  have hwf := hw.2.2.2.2.2.2
  have hw3 := hw.2.2.1
  have h0 : cd ≠ 0 := fun z => by subst z; have h9 : god 0 = 0 := (by decide +kernel); have := hwf p hp; omega
  have hex := gex_pos cd hw.1 h0
  have hf24 : ∀ j, j < n → f j < 24 := fun j hj => by have := hwf j hj; omega
  have hT : jtab (god cd) (jmf cd) (jaf cd) := jtab_cd hw.1
  refine J.aload_n g dX11_like_0 rfl rfl ?_
  refine J.iconstN g 0 dX11_like_1 ?_
  refine J.put g jX11 0 (by decide) lf_X11_1 0 rfl rfl (Nat.le_of_ble_eq_true rfl) rfl rfl dX11_like_2 ?_
  try dsimp only [List.set_cons_zero, List.set_cons_succ]
  refine J.aload_n g dX11_like_5 rfl rfl ?_
  refine J.iload_n g dX11_like_6 rfl rfl ?_
  refine J.callV0 g (c_X11_isPlace l γ _ _ _ _ _ _ _ _ _ _ _ _ _ _ _ _ _ _ _ _ _ _ _ _ _ _ _ _ _ _ _ _ _ _ _ _ _ _ _ _ _ hw) jy_X11_isPlace lm_X11_216 (q0 := 0) rfl jX11.1 ⟨⟨Nat.le_of_ble_eq_true rfl, Nat.le_of_ble_eq_true rfl⟩, Nat.le_of_ble_eq_true rfl, Nat.le_of_ble_eq_true rfl⟩ (Nat.le_of_ble_eq_true rfl) rfl [0, 1] rfl rfl dX11_like_7 ?_
  intro _ _
  dsimp only [jpush]
  refine J.if_neB g dX11_like_10 (tgt := 15) (by decide) (fun c_10 => ?_) (fun c_10 => absurd c_10 (by rw [jhas_n _ (by omega), decide_eq_true hp] at c_10; cases c_10))
  refine J.iconstN g 1 dX11_like_15 ?_
  refine J.istore_n g dX11_like_16 rfl rfl rfl ?_
  try dsimp only [List.set_cons_zero, List.set_cons_succ]
  have lp : ∀ (d : Nat) (u9 : Nat) (L1 T1 : Nat → Nat), gex cd + 1 - u9 < d → (1 ≤ u9 ∧ u9 ≤ gex cd + 1) → (2 ≤ u9 → ∀ j, j < n → L1 j = jlk (god cd) (gex cd) (jmf cd) f n (u9 - 2) j) → J γ l x [(mo, .inr (11, [.int (nI 0), .ref mta, .int (nI mtd), .int (nI msz), .int (nI mto), .int (nI mfr), .int (nI mso), .int (nI mnu), .int (nI mfa), .int mfw, .int (nI mpl), .int (nI mro), .long mwd, .ref mnw, .ref mrd, .ref mkp, .ref msn, .ref mbf, .ref mlv, .ref mik, .int (nI msm), .ref msu, .ref mbe, .ref mfe, .ref mmy, .ref mof, .ref msf, .ref mlr, .ref mty, .ref mfm, .ref mrn, .ref mrb, .int (nI mln), .ref mtb, .int mse])), (mnw, .inl (γ.2 0, 17, .inl (fun j => nI (w j)))), (mlr, .inl (γ.2 0, 12, .inl (fun j => nI (L1 j)))), (mty, .inl (γ.2 0, 12, .inl (fun j => nI (T1 j))))] [some (.ref mo), some (.int (nI p)), some (.int (nI u9)), none] [] 0 0 17 := by
    intro d
    induction d with
    | zero => intro u9 L1 T1 hm; exact absurd hm (Nat.not_lt_zero _)
    | succ d ih_lp =>
      intro u9 L1 T1 hm hu hh
      refine J.iload_n g dX11_like_17 rfl rfl ?_
      refine J.aload_n g dX11_like_18 rfl rfl ?_
      refine J.callV0 g (c_X11_exponent l γ _ _ _ _ _ _ _ _ _ _ _ _ _ _ _ _ _ _ _ _ _ _ _ _ _ _ _ _ _ _ _ _ _ _ _ _ _ _ _ _ hw) jy_X11_exponent lm_X11_210 (q0 := 0) rfl jX11.1 ⟨⟨Nat.le_of_ble_eq_true rfl, Nat.le_of_ble_eq_true rfl⟩, Nat.le_of_ble_eq_true rfl, Nat.le_of_ble_eq_true rfl⟩ (Nat.le_of_ble_eq_true rfl) rfl [0, 1] rfl rfl dX11_like_19 ?_
      intro _ _
      dsimp only [jpush]
      refine J.icmp_gtN g dX11_like_22 (tgt := 135) (by decide) (by omega) (by omega) (fun c_22 => ?_) (fun c_22 => ?_)
      · refine J.aload_n g dX11_like_135 rfl rfl ?_
        refine J.get g jX11 27 (by decide) lf_X11_125 0 rfl rfl dX11_like_136 ?_
        refine J.iload_n g dX11_like_139 rfl rfl ?_
        refine J.ialdN g 2 rfl (by omega) (by decide) dX11_like_140 ?_
        exact J.iret g hE (L1, T1) (by rw [hh (by omega) p hp, show u9 - 2 = gex cd - 1 by omega]) trivial rfl ⟨Nat.le_of_ble_eq_true rfl, Nat.le_of_ble_eq_true rfl⟩ dX11_like_141
      · refine J.iload_n g dX11_like_25 rfl rfl ?_
        refine J.aload_n g dX11_like_26 rfl rfl ?_
        refine J.callV0 g (c_X11_exponent l γ _ _ _ _ _ _ _ _ _ _ _ _ _ _ _ _ _ _ _ _ _ _ _ _ _ _ _ _ _ _ _ _ _ _ _ _ _ _ _ _ hw) jy_X11_exponent lm_X11_210 (q0 := 0) rfl jX11.1 ⟨⟨Nat.le_of_ble_eq_true rfl, Nat.le_of_ble_eq_true rfl⟩, Nat.le_of_ble_eq_true rfl, Nat.le_of_ble_eq_true rfl⟩ (Nat.le_of_ble_eq_true rfl) rfl [0, 1] rfl rfl dX11_like_27 ?_
        intro _ _
        dsimp only [jpush]
        refine J.callS0 g (c_X11_divisor l γ 40 u9 (gex cd) (by omega) (by omega) (by omega)) jy_X11_divisor lm_X11_197 ⟨⟨Nat.le_of_ble_eq_true rfl, Nat.le_of_ble_eq_true rfl⟩, Nat.le_of_ble_eq_true rfl, Nat.le_of_ble_eq_true rfl⟩ (Nat.le_of_ble_eq_true rfl) rfl [] rfl rfl dX11_like_30 ?_
        intro _ _
        dsimp only [jpush]
        have hun : junit (gex cd) u9 = decide (Nat.gcd u9 (gex cd) = 1) := mgcd_unit u9 (by omega) _ (by omega) (by omega) (by omega)
        have hgle := Nat.gcd_le_left u9 (show 0 < gex cd by omega)
        refine J.iconstN g 1 dX11_like_33 ?_
        refine J.icmp_eqN g dX11_like_34 (tgt := 40) (by decide) (by omega) (by omega) (fun c_34 => ?_) (fun c_34 => ?_)
        · refine J.iconstN g 0 dX11_like_40 ?_
          refine J.istore_n g dX11_like_41 rfl rfl rfl ?_
          try dsimp only [List.set_cons_zero, List.set_cons_succ]
          have lq : ∀ (d : Nat) (k : Nat) (T2 : Nat → Nat), n - k < d → (k ≤ n) → (∀ j, j < k → T2 j = jmul (god cd) (jmf cd) (f j) u9) → J γ l x [(mo, .inr (11, [.int (nI 0), .ref mta, .int (nI mtd), .int (nI msz), .int (nI mto), .int (nI mfr), .int (nI mso), .int (nI mnu), .int (nI mfa), .int mfw, .int (nI mpl), .int (nI mro), .long mwd, .ref mnw, .ref mrd, .ref mkp, .ref msn, .ref mbf, .ref mlv, .ref mik, .int (nI msm), .ref msu, .ref mbe, .ref mfe, .ref mmy, .ref mof, .ref msf, .ref mlr, .ref mty, .ref mfm, .ref mrn, .ref mrb, .int (nI mln), .ref mtb, .int mse])), (mnw, .inl (γ.2 0, 17, .inl (fun j => nI (w j)))), (mlr, .inl (γ.2 0, 12, .inl (fun j => nI (L1 j)))), (mty, .inl (γ.2 0, 12, .inl (fun j => nI (T2 j))))] [some (.ref mo), some (.int (nI p)), some (.int (nI u9)), some (.int (nI k))] [] 0 0 42 := by
            intro d
            induction d with
            | zero => intro k T2 hm; exact absurd hm (Nat.not_lt_zero _)
            | succ d ih_lq =>
              intro k T2 hm hk h2
              refine J.iload_n g dX11_like_42 rfl rfl ?_
              refine J.aload_n g dX11_like_43 rfl rfl ?_
              refine J.callV0 g (c_X11_places l γ _ _ _ _ _ _ _ _ _ _ _ _ _ _ _ _ _ _ _ _ _ _ _ _ _ _ _ _ _ _ _ _ _ _ _ _ _ _ _ _ hw) jy_X11_places lm_X11_190 (q0 := 0) rfl jX11.1 ⟨⟨Nat.le_of_ble_eq_true rfl, Nat.le_of_ble_eq_true rfl⟩, Nat.le_of_ble_eq_true rfl, Nat.le_of_ble_eq_true rfl⟩ (Nat.le_of_ble_eq_true rfl) rfl [0, 1] rfl rfl dX11_like_44 ?_
              intro _ _
              dsimp only [jpush]
              refine J.icmp_geN g dX11_like_47 (tgt := 75) (by decide) (by omega) (by omega) (fun c_47 => ?_) (fun c_47 => ?_)
              · refine J.aload_n g dX11_like_75 rfl rfl ?_
                refine J.get g jX11 28 (by decide) lf_X11_128 0 rfl rfl dX11_like_76 ?_
                refine J.aload_n g dX11_like_79 rfl rfl ?_
                refine J.callV0 g (c_X11_places l γ _ _ _ _ _ _ _ _ _ _ _ _ _ _ _ _ _ _ _ _ _ _ _ _ _ _ _ _ _ _ _ _ _ _ _ _ _ _ _ _ hw) jy_X11_places lm_X11_190 (q0 := 0) rfl jX11.1 ⟨⟨Nat.le_of_ble_eq_true rfl, Nat.le_of_ble_eq_true rfl⟩, Nat.le_of_ble_eq_true rfl, Nat.le_of_ble_eq_true rfl⟩ (Nat.le_of_ble_eq_true rfl) rfl [0, 1] rfl rfl dX11_like_80 ?_
                intro _ _
                dsimp only [jpush]
                refine J.callS g (c_X11_sorts l γ _ _ _ (by omega) (fun j hj => by rw [h2 j (by omega)]; have := jmul_lt hw.1 (hwf j hj) u9; omega)) jy_X11_sorts lm_X11_252 ⟨⟨Nat.le_of_ble_eq_true rfl, Nat.le_of_ble_eq_true rfl⟩, Nat.le_of_ble_eq_true rfl, Nat.le_of_ble_eq_true rfl⟩ (Nat.le_of_ble_eq_true rfl) rfl [3] rfl (fun _ => rfl) rfl dX11_like_83 ?_
                intro _ _
                dsimp only [jput, List.set_cons_zero, List.set_cons_succ, Option.toList, List.append, List.cons_append, List.nil_append, List.append_nil]
                obtain ⟨gt, hgt⟩ : ∃ z, z = jsrt T2 (n - 1) := ⟨_, rfl⟩
                rw [← hgt]
                have hs : ∀ j, j < n → gt j = jlku (god cd) (jmf cd) f n u9 j := fun j hj => by rw [hgt]; exact jsrt_congr1 (fun i hi => h2 i (by omega)) j hj
                have hs24 : ∀ j, j < n → gt j < 24 := fun j hj => by rw [hs j hj]; exact jsrt_24 (fun i hi => by have := jmul_lt hw.1 (hwf i hi) u9; omega) (n - 1) (by omega) j hj
                refine J.iload_n g dX11_like_86 rfl rfl ?_
                refine J.iconstN g 1 dX11_like_87 ?_
                refine J.icmp_leN g dX11_like_88 (tgt := 101) (by decide) (by omega) (by omega) (fun c_88 => ?_) (fun c_88 => ?_)
                · have hfin : ∀ j, j < n → gt j = jlk (god cd) (gex cd) (jmf cd) f n (u9 + 1 - 2) j := by obtain rfl : u9 = 1 := (by omega); intro j hj; rw [hs j hj]; exact jsrt_congr1 (fun i hi => jmul_1 hw.1 (hwf i hi)) j hj
                  refine J.iconstN g 0 dX11_like_101 ?_
                  refine J.istore_n g dX11_like_102 rfl rfl rfl ?_
                  try dsimp only [List.set_cons_zero, List.set_cons_succ]
                  have lr1 : ∀ (d : Nat) (k : Nat) (L2 : Nat → Nat), n - k < d → (k ≤ n) → (∀ j, j < k → L2 j = gt j) → J γ l x [(mo, .inr (11, [.int (nI 0), .ref mta, .int (nI mtd), .int (nI msz), .int (nI mto), .int (nI mfr), .int (nI mso), .int (nI mnu), .int (nI mfa), .int mfw, .int (nI mpl), .int (nI mro), .long mwd, .ref mnw, .ref mrd, .ref mkp, .ref msn, .ref mbf, .ref mlv, .ref mik, .int (nI msm), .ref msu, .ref mbe, .ref mfe, .ref mmy, .ref mof, .ref msf, .ref mlr, .ref mty, .ref mfm, .ref mrn, .ref mrb, .int (nI mln), .ref mtb, .int mse])), (mnw, .inl (γ.2 0, 17, .inl (fun j => nI (w j)))), (mlr, .inl (γ.2 0, 12, .inl (fun j => nI (L2 j)))), (mty, .inl (γ.2 0, 12, .inl (fun j => nI (gt j))))] [some (.ref mo), some (.int (nI p)), some (.int (nI u9)), some (.int (nI k))] [] 0 0 103 := by
                    intro d
                    induction d with
                    | zero => intro k L2 hm; exact absurd hm (Nat.not_lt_zero _)
                    | succ d ih_lr1 =>
                      intro k L2 hm hk3 h3
                      refine J.iload_n g dX11_like_103 rfl rfl ?_
                      refine J.aload_n g dX11_like_104 rfl rfl ?_
                      refine J.callV0 g (c_X11_places l γ _ _ _ _ _ _ _ _ _ _ _ _ _ _ _ _ _ _ _ _ _ _ _ _ _ _ _ _ _ _ _ _ _ _ _ _ _ _ _ _ hw) jy_X11_places lm_X11_190 (q0 := 0) rfl jX11.1 ⟨⟨Nat.le_of_ble_eq_true rfl, Nat.le_of_ble_eq_true rfl⟩, Nat.le_of_ble_eq_true rfl, Nat.le_of_ble_eq_true rfl⟩ (Nat.le_of_ble_eq_true rfl) rfl [0, 1] rfl rfl dX11_like_105 ?_
                      intro _ _
                      dsimp only [jpush]
                      refine J.icmp_geN g dX11_like_108 (tgt := 129) (by decide) (by omega) (by omega) (fun c_108 => ?_) (fun c_108 => ?_)
                      · have hnx : ∀ j, j < n → L2 j = jlk (god cd) (gex cd) (jmf cd) f n (u9 + 1 - 2) j := fun j hj => (h3 j (by omega)).trans (hfin j hj)
                        refine J.iincN g 1 dX11_like_129 rfl rfl ?_
                        try dsimp only [List.set_cons_zero, List.set_cons_succ]
                        refine J.goto g dX11_like_132 (tgt := 17) (by decide) ?_
                        exact J.lvle (jle_s (jle_s (jle_s (jle_n jle_0)))) (ih_lp (u9 + 1) _ _ (by omega) (by omega) (fun _ => hnx))
                      · refine J.aload_n g dX11_like_111 rfl rfl ?_
                        refine J.get g jX11 27 (by decide) lf_X11_125 0 rfl rfl dX11_like_112 ?_
                        refine J.iload_n g dX11_like_115 rfl rfl ?_
                        refine J.aload_n g dX11_like_116 rfl rfl ?_
                        refine J.get g jX11 28 (by decide) lf_X11_128 0 rfl rfl dX11_like_117 ?_
                        refine J.iload_n g dX11_like_120 rfl rfl ?_
                        refine J.ialdN g 3 rfl (by omega) (by decide) dX11_like_121 ?_
                        refine J.iastN g 2 rfl (by omega) (by decide) dX11_like_122 ?_
                        try dsimp only [List.set_cons_zero, List.set_cons_succ]
                        refine J.iincN g 1 dX11_like_123 rfl rfl ?_
                        try dsimp only [List.set_cons_zero, List.set_cons_succ]
                        refine J.goto g dX11_like_126 (tgt := 103) (by decide) ?_
                        exact J.lvle (jle_s (jle_s (jle_s (jle_s jle_0)))) (ih_lr1 (k + 1) _ (by omega) (by omega) (lt_s (fun j hj => (up_ne (by omega)).trans (h3 j hj)) up_at))
                  exact J.lvle (jle_s (jle_s (jle_s (jle_s jle_0)))) (lr1 _ 0 L1 (Nat.lt_succ_self _) (Nat.zero_le _) (fun j h => absurd h (Nat.not_lt_zero _)))
                · refine J.aload_n g dX11_like_91 rfl rfl ?_
                  refine J.callV0 g (c_X11_isLess l γ _ _ _ _ _ _ _ _ _ _ _ _ _ _ _ _ _ _ _ _ _ _ _ _ _ _ _ _ _ _ _ _ _ _ _ _ _ _ _ _ _ _ hw hs24 (fun j hj => by rw [hh (by omega) j hj]; exact jlk_24 hT hf24 (by omega) _ j hj)) jy_X11_isLess lm_X11_256 (q0 := 0) rfl jX11.1 ⟨⟨Nat.le_of_ble_eq_true rfl, Nat.le_of_ble_eq_true rfl⟩, Nat.le_of_ble_eq_true rfl, Nat.le_of_ble_eq_true rfl⟩ (Nat.le_of_ble_eq_true rfl) rfl [0, 1, 2, 3] rfl rfl dX11_like_92 ?_
                  intro _ _
                  dsimp only [jpush]
                  have hjl : jlt gt L1 n 0 = jlt (jlku (god cd) (jmf cd) f n u9) (jlk (god cd) (gex cd) (jmf cd) f n (u9 - 2)) n 0 := jlt_congr n 0 (fun j _ hj => hs j (by omega)) (fun j _ hj => hh (by omega) j (by omega))
                  rw [hjl]
                  refine J.if_neB g dX11_like_95 (tgt := 101) (by decide) (fun c_95 => ?_) (fun c_95 => ?_)
                  · have hfin : ∀ j, j < n → gt j = jlk (god cd) (gex cd) (jmf cd) f n (u9 + 1 - 2) j := fun j hj => by rw [show u9 + 1 - 2 = u9 - 1 by omega, jlk_1 (by omega) ⟨by rw [hun, decide_eq_true (by rw [Nat.gcd_comm]; exact c_34)], c_95⟩]; exact hs j hj
                    refine J.iconstN g 0 dX11_like_101 ?_
                    refine J.istore_n g dX11_like_102 rfl rfl rfl ?_
                    try dsimp only [List.set_cons_zero, List.set_cons_succ]
                    have lr2 : ∀ (d : Nat) (k : Nat) (L2 : Nat → Nat), n - k < d → (k ≤ n) → (∀ j, j < k → L2 j = gt j) → J γ l x [(mo, .inr (11, [.int (nI 0), .ref mta, .int (nI mtd), .int (nI msz), .int (nI mto), .int (nI mfr), .int (nI mso), .int (nI mnu), .int (nI mfa), .int mfw, .int (nI mpl), .int (nI mro), .long mwd, .ref mnw, .ref mrd, .ref mkp, .ref msn, .ref mbf, .ref mlv, .ref mik, .int (nI msm), .ref msu, .ref mbe, .ref mfe, .ref mmy, .ref mof, .ref msf, .ref mlr, .ref mty, .ref mfm, .ref mrn, .ref mrb, .int (nI mln), .ref mtb, .int mse])), (mnw, .inl (γ.2 0, 17, .inl (fun j => nI (w j)))), (mlr, .inl (γ.2 0, 12, .inl (fun j => nI (L2 j)))), (mty, .inl (γ.2 0, 12, .inl (fun j => nI (gt j))))] [some (.ref mo), some (.int (nI p)), some (.int (nI u9)), some (.int (nI k))] [] 0 0 103 := by
                      intro d
                      induction d with
                      | zero => intro k L2 hm; exact absurd hm (Nat.not_lt_zero _)
                      | succ d ih_lr2 =>
                        intro k L2 hm hk3 h3
                        refine J.iload_n g dX11_like_103 rfl rfl ?_
                        refine J.aload_n g dX11_like_104 rfl rfl ?_
                        refine J.callV0 g (c_X11_places l γ _ _ _ _ _ _ _ _ _ _ _ _ _ _ _ _ _ _ _ _ _ _ _ _ _ _ _ _ _ _ _ _ _ _ _ _ _ _ _ _ hw) jy_X11_places lm_X11_190 (q0 := 0) rfl jX11.1 ⟨⟨Nat.le_of_ble_eq_true rfl, Nat.le_of_ble_eq_true rfl⟩, Nat.le_of_ble_eq_true rfl, Nat.le_of_ble_eq_true rfl⟩ (Nat.le_of_ble_eq_true rfl) rfl [0, 1] rfl rfl dX11_like_105 ?_
                        intro _ _
                        dsimp only [jpush]
                        refine J.icmp_geN g dX11_like_108 (tgt := 129) (by decide) (by omega) (by omega) (fun c_108 => ?_) (fun c_108 => ?_)
                        · have hnx : ∀ j, j < n → L2 j = jlk (god cd) (gex cd) (jmf cd) f n (u9 + 1 - 2) j := fun j hj => (h3 j (by omega)).trans (hfin j hj)
                          refine J.iincN g 1 dX11_like_129 rfl rfl ?_
                          try dsimp only [List.set_cons_zero, List.set_cons_succ]
                          refine J.goto g dX11_like_132 (tgt := 17) (by decide) ?_
                          exact J.lvle (jle_s (jle_s (jle_s (jle_n jle_0)))) (ih_lp (u9 + 1) _ _ (by omega) (by omega) (fun _ => hnx))
                        · refine J.aload_n g dX11_like_111 rfl rfl ?_
                          refine J.get g jX11 27 (by decide) lf_X11_125 0 rfl rfl dX11_like_112 ?_
                          refine J.iload_n g dX11_like_115 rfl rfl ?_
                          refine J.aload_n g dX11_like_116 rfl rfl ?_
                          refine J.get g jX11 28 (by decide) lf_X11_128 0 rfl rfl dX11_like_117 ?_
                          refine J.iload_n g dX11_like_120 rfl rfl ?_
                          refine J.ialdN g 3 rfl (by omega) (by decide) dX11_like_121 ?_
                          refine J.iastN g 2 rfl (by omega) (by decide) dX11_like_122 ?_
                          try dsimp only [List.set_cons_zero, List.set_cons_succ]
                          refine J.iincN g 1 dX11_like_123 rfl rfl ?_
                          try dsimp only [List.set_cons_zero, List.set_cons_succ]
                          refine J.goto g dX11_like_126 (tgt := 103) (by decide) ?_
                          exact J.lvle (jle_s (jle_s (jle_s (jle_s jle_0)))) (ih_lr2 (k + 1) _ (by omega) (by omega) (lt_s (fun j hj => (up_ne (by omega)).trans (h3 j hj)) up_at))
                    exact J.lvle (jle_s (jle_s (jle_s (jle_s jle_0)))) (lr2 _ 0 L1 (Nat.lt_succ_self _) (Nat.zero_le _) (fun j h => absurd h (Nat.not_lt_zero _)))
                  · have hnx : ∀ j, j < n → L1 j = jlk (god cd) (gex cd) (jmf cd) f n (u9 + 1 - 2) j := fun j hj => by rw [show u9 + 1 - 2 = u9 - 1 by omega, jlk_0 (by omega) (fun q => by rw [c_95] at q; cases q.2)]; exact hh (by omega) j hj
                    refine J.goto g dX11_like_98 (tgt := 129) (by decide) ?_
                    refine J.iincN g 1 dX11_like_129 rfl rfl ?_
                    try dsimp only [List.set_cons_zero, List.set_cons_succ]
                    refine J.goto g dX11_like_132 (tgt := 17) (by decide) ?_
                    exact J.lvle (jle_s (jle_s (jle_s (jle_n jle_0)))) (ih_lp (u9 + 1) _ _ (by omega) (by omega) (fun _ => hnx))
              · refine J.aload_n g dX11_like_50 rfl rfl ?_
                refine J.get g jX11 28 (by decide) lf_X11_128 0 rfl rfl dX11_like_51 ?_
                refine J.iload_n g dX11_like_54 rfl rfl ?_
                refine J.aload_n g dX11_like_55 rfl rfl ?_
                refine J.aload_n g dX11_like_56 rfl rfl ?_
                refine J.get g jX11 13 (by decide) lf_X11_85 0 rfl rfl dX11_like_57 ?_
                refine J.iconstN g 5 dX11_like_60 ?_
                refine J.iload_n g dX11_like_61 rfl rfl ?_
                refine J.iaddN g dX11_like_62 ?_
                refine J.ialdN g 1 rfl (by omega) (by decide) dX11_like_63 ?_
                rw [hw5 k (by omega)]
                refine J.iload_n g dX11_like_64 rfl rfl ?_
                refine J.callV0 g (c_X11_often l γ _ _ _ _ _ _ _ _ _ _ _ _ _ _ _ _ _ _ _ _ _ _ _ _ _ _ _ _ _ _ _ _ _ _ _ _ _ _ _ _ _ _ hw (hwf k (by omega)) (by omega)) jy_X11_often lm_X11_249 (q0 := 0) rfl jX11.1 ⟨⟨Nat.le_of_ble_eq_true rfl, Nat.le_of_ble_eq_true rfl⟩, Nat.le_of_ble_eq_true rfl, Nat.le_of_ble_eq_true rfl⟩ (Nat.le_of_ble_eq_true rfl) rfl [0, 1] rfl rfl dX11_like_65 ?_
                intro _ _
                dsimp only [jpush]
                refine J.iastN g 3 rfl (by omega) (by decide) dX11_like_68 ?_
                try dsimp only [List.set_cons_zero, List.set_cons_succ]
                refine J.iincN g 1 dX11_like_69 rfl rfl ?_
                try dsimp only [List.set_cons_zero, List.set_cons_succ]
                refine J.goto g dX11_like_72 (tgt := 42) (by decide) ?_
                exact J.lvle (jle_s (jle_s (jle_s (jle_s jle_0)))) (ih_lq (k + 1) _ (by omega) (by omega) (lt_s (fun j hj => (up_ne (by omega)).trans (h2 j hj)) up_at))
          exact J.lvle (jle_s (jle_s (jle_s (jle_s jle_0)))) (lq _ 0 T1 (Nat.lt_succ_self _) (Nat.zero_le _) (fun j h => absurd h (Nat.not_lt_zero _)))
        · have hnx : ∀ j, j < n → L1 j = jlk (god cd) (gex cd) (jmf cd) f n (u9 + 1 - 2) j := by rcases Nat.lt_or_ge 1 u9 with z | z; (· intro j hj; rw [show u9 + 1 - 2 = u9 - 1 by omega, jlk_0 (by omega) (fun q => by rw [hun, decide_eq_false (fun z => c_34 (by rw [Nat.gcd_comm]; exact z))] at q; cases q.1)]; exact hh (by omega) j hj); (· exfalso; obtain rfl : u9 = 1 := (by omega); exact c_34 (Nat.gcd_one_right _))
          refine J.goto g dX11_like_37 (tgt := 129) (by decide) ?_
          refine J.iincN g 1 dX11_like_129 rfl rfl ?_
          try dsimp only [List.set_cons_zero, List.set_cons_succ]
          refine J.goto g dX11_like_132 (tgt := 17) (by decide) ?_
          exact J.lvle (jle_s (jle_s (jle_s (jle_n jle_0)))) (ih_lp (u9 + 1) _ _ (by omega) (by omega) (fun _ => hnx))
  exact J.lvle (jle_s (jle_s (jle_s (jle_n jle_0)))) (lp _ 1 LF TF (Nat.lt_succ_self _) (by omega) (fun h => absurd h (by omega)))
set_option maxHeartbeats 4000000 in
set_option maxRecDepth 100000 in
theorem c_X11_like_no (l : Launch) (γ : jγ) (mo mta mtd msz mto mfr mso mnu mfa mpl mro mnw mrd mkp msn mbf mlv mik msm msu mbe mfe mmy mof msf mlr mty mfm mrn mrb mln mtb : Nat) (mth mfw mse : Int32) (mwd : Int64) (cd n : Nat) (f w : Nat → Nat) (a : Int32) (hw : mIs cd n f w) (hi : jhas a n = false) : jM (S := Unit) l γ yX11_like cX11_like 4 (some .int) ({ frames := 47, cells := 0, slots := 0, locals := 1143 } : Room) [.ref mo, .int a] [(mo, .inr (11, [.int mth, .ref mta, .int (nI mtd), .int (nI msz), .int (nI mto), .int (nI mfr), .int (nI mso), .int (nI mnu), .int (nI mfa), .int mfw, .int (nI mpl), .int (nI mro), .long mwd, .ref mnw, .ref mrd, .ref mkp, .ref msn, .ref mbf, .ref mlv, .ref mik, .int (nI msm), .ref msu, .ref mbe, .ref mfe, .ref mmy, .ref mof, .ref msf, .ref mlr, .ref mty, .ref mfm, .ref mrn, .ref mrb, .int (nI mln), .ref mtb, .int mse])), (mnw, .inl (γ.2 0, 17, .inl (fun j => nI (w j))))] (fun w0 => some (.int (-1))) (fun w0 => [(mo, .inr (11, [.int (nI 0), .ref mta, .int (nI mtd), .int (nI msz), .int (nI mto), .int (nI mfr), .int (nI mso), .int (nI mnu), .int (nI mfa), .int mfw, .int (nI mpl), .int (nI mro), .long mwd, .ref mnw, .ref mrd, .ref mkp, .ref msn, .ref mbf, .ref mlv, .ref mik, .int (nI msm), .ref msu, .ref mbe, .ref mfe, .ref mmy, .ref mof, .ref msf, .ref mlr, .ref mty, .ref mfm, .ref mrn, .ref mrb, .int (nI mln), .ref mtb, .int mse])), (mnw, .inl (γ.2 0, 17, .inl (fun j => nI (w j))))]) (fun w0 => True) := by
  refine jM.of [some (.ref mo), some (.int a), none, none] rfl (Nat.le_of_ble_eq_true rfl) (by decide) ?_
  intro x g hE hin
  have hwg := hw.g
  have hw5 := hw.2.2.2.2.2.1
  have hwf := hw.2.2.2.2.2.2
  have hw3 := hw.2.2.1
  refine J.aload_n g dX11_like_0 rfl rfl ?_
  refine J.iconstN g 0 dX11_like_1 ?_
  refine J.put g jX11 0 (by decide) lf_X11_1 0 rfl rfl (Nat.le_of_ble_eq_true rfl) rfl rfl dX11_like_2 ?_
  try dsimp only [List.set_cons_zero, List.set_cons_succ]
  refine J.aload_n g dX11_like_5 rfl rfl ?_
  refine J.iload_n g dX11_like_6 rfl rfl ?_
  refine J.callV0 g (c_X11_isPlace l γ _ _ _ _ _ _ _ _ _ _ _ _ _ _ _ _ _ _ _ _ _ _ _ _ _ _ _ _ _ _ _ _ _ _ _ _ _ _ _ _ _ hw) jy_X11_isPlace lm_X11_216 (q0 := 0) rfl jX11.1 ⟨⟨Nat.le_of_ble_eq_true rfl, Nat.le_of_ble_eq_true rfl⟩, Nat.le_of_ble_eq_true rfl, Nat.le_of_ble_eq_true rfl⟩ (Nat.le_of_ble_eq_true rfl) rfl [0, 1] rfl rfl dX11_like_7 ?_
  intro _ _
  dsimp only [jpush]
  refine J.if_neB g dX11_like_10 (tgt := 15) (by decide) (fun c_10 => absurd c_10 (by rw [hi] at c_10; cases c_10)) (fun c_10 => ?_)
  refine J.iconst (v := -1) g dX11_like_13 (by decide) ?_
  exact J.iret g hE () rfl trivial rfl ⟨Nat.le_of_ble_eq_true rfl, Nat.le_of_ble_eq_true rfl⟩ dX11_like_14
