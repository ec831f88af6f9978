set_option maxHeartbeats 4000000 in
set_option maxRecDepth 100000 in
theorem c_X11_readGroup (l : Launch) (γ : jγ) (mo mta mtd msz mfa mpl mro mnw mrd mkp msn mbf mlv mik msm msu mbe mfe mmy mof msf mlr mty mfm mrn mrb mln mtb : Nat) (mth mfw mse : Int32)  (t r : Nat → Nat) (q : jRS) (v : mV) (hB : ∀ j, t j < 256) (hz : msz ≤ 340) (hq : mR msz q v r mro) (h4 : v.2.2.1 = 2) (hc0 : q.2.1.1 = 0) (hn0 : q.2.2.2.1 = 0) (hJ : jRB q) (htf : ∃ tf : Nat → Int32, t = jbs tf) : jM (S := mO) l γ yX11_readGroup cX11_readGroup 1 (some .boolean) ({ frames := 2, cells := 0, slots := 0, locals := 45 } : Room) [.ref mo] [(mo, .inr (11, [.int mth, .ref mta, .int (nI mtd), .int (nI msz), .int (nI v.1), .int (nI v.2.1), .int (nI v.2.2.1), .int (nI v.2.2.2.1), .int (nI mfa), .int mfw, .int (nI mpl), .int (nI mro), .long v.2.2.2.2, .ref mnw, .ref mrd, .ref mkp, .ref msn, .ref mbf, .ref mlv, .ref mik, .int (nI msm), .ref msu, .ref mbe, .ref mfe, .ref mmy, .ref mof, .ref msf, .ref mlr, .ref mty, .ref mfm, .ref mrn, .ref mrb, .int (nI mln), .ref mtb, .int mse])), (mta, .inl (γ.2 0, 340, .inl (fun j => nI (t j)))), (mrd, .inl (γ.2 0, 17, .inl (fun j => nI (r j))))] (fun u => some (.int (jB u.2.2.2))) (fun u => [(mo, .inr (11, [.int mth, .ref mta, .int (nI mtd), .int (nI msz), .int (nI u.1.1), .int (nI u.1.2.1), .int (nI u.1.2.2.1), .int (nI u.1.2.2.2.1), .int (nI u.2.2.1.1), .int u.2.2.1.2.2, .int (nI u.2.2.1.2.1), .int (nI mro), .long u.1.2.2.2.2, .ref mnw, .ref mrd, .ref mkp, .ref msn, .ref mbf, .ref mlv, .ref mik, .int (nI msm), .ref msu, .ref mbe, .ref mfe, .ref mmy, .ref mof, .ref msf, .ref mlr, .ref mty, .ref mfm, .ref mrn, .ref mrb, .int (nI mln), .ref mtb, .int mse])), (mta, .inl (γ.2 0, 340, .inl (fun j => nI (t j)))), (mrd, .inl (γ.2 0, 17, .inl (fun j => nI (u.2.1 j))))]) (fun u => mRes t msz mro q.1.2.2.1 (jrGrp t msz 3 0 1 (jrTok t msz q)) (mfa, mpl, mfw) u) := by
  refine jM.of [some (.ref mo)] rfl (Nat.le_of_ble_eq_true rfl) (by decide) ?_
  intro x g hE hin
  have hqs := hq.to.2.1
  obtain ⟨tf, htf⟩ := htf
  refine J.aload_n g dX11_readGroup_0 rfl rfl ?_
  refine J.callV g (c_X11_next l γ _ _ _ _ _ _ _ _ _ _ _ _ _ _ _ _ _ _ _ _ _ _ _ _ _ _ _ _ _ _ _ _ _ _ _ _ _ hB hz hq.to.1) jy_X11_next lm_X11_143 (q0 := 0) rfl jX11.1 ⟨⟨Nat.le_of_ble_eq_true rfl, Nat.le_of_ble_eq_true rfl⟩, Nat.le_of_ble_eq_true rfl, Nat.le_of_ble_eq_true rfl⟩ (Nat.le_of_ble_eq_true rfl) rfl [0, 1] rfl (fun _ => rfl) rfl dX11_readGroup_1 ?_
  intro u_1 h_1
  dsimp only [jput, List.set_cons_zero, List.set_cons_succ, Option.toList, List.append, List.cons_append, List.nil_append, List.append_nil]
  have hr1 := hq.next (t := t) (by omega) (by omega) h_1
  have hr1s := hr1.to.2.1
  have hg0 : gpt (jrTok t msz q).2.1.1 = 0 := by show gpt q.2.1.1 = 0; rw [hc0]; decide +kernel
  refine J.aload_n g dX11_readGroup_4 rfl rfl ?_
  refine J.get g jX11 6 (by decide) lf_X11_31 0 rfl rfl dX11_readGroup_5 ?_
  refine J.iconstN g 3 dX11_readGroup_8 ?_
  refine J.icmp_eqN g dX11_readGroup_9 (tgt := 18) (by decide) (by omega) (by omega) (fun c_9 => ?_) (fun c_9 => ?_)
  · have lp : ∀ (d : Nat) (v9 : mV) (r9 : Nat → Nat) (q9 : jRS), 3 - gpt q9.2.1.1 < d → (mR msz q9 v9 r9 mro) → (q9.2.2.2.1 = 0) → (jRB q9) → (q.1.2.2.1 ≤ q9.1.2.2.1) → (gpt q9.2.1.1 = 0 → v9.2.2.1 = 3) → (jrGrp t msz 3 0 1 (jrTok t msz q) = jrGrp t msz (3 - gpt q9.2.1.1) (gpt q9.2.1.1) (if gpt q9.2.1.1 = 0 then 1 else god q9.2.1.1) q9) → J γ l x [(mo, .inr (11, [.int mth, .ref mta, .int (nI mtd), .int (nI msz), .int (nI v9.1), .int (nI v9.2.1), .int (nI v9.2.2.1), .int (nI v9.2.2.2.1), .int (nI mfa), .int mfw, .int (nI mpl), .int (nI mro), .long v9.2.2.2.2, .ref mnw, .ref mrd, .ref mkp, .ref msn, .ref mbf, .ref mlv, .ref mik, .int (nI msm), .ref msu, .ref mbe, .ref mfe, .ref mmy, .ref mof, .ref msf, .ref mlr, .ref mty, .ref mfm, .ref mrn, .ref mrb, .int (nI mln), .ref mtb, .int mse])), (mta, .inl (γ.2 0, 340, .inl (fun j => nI (t j)))), (mrd, .inl (γ.2 0, 17, .inl (fun j => nI (r9 j))))] [some (.ref mo)] [] 0 0 18 := by
      intro d
      induction d with
      | zero => intro v9 r9 q9 hm; exact absurd hm (Nat.not_lt_zero _)
      | succ d ih_lp =>
        intro v9 r9 q9 hm hr hn9 hJ9 hps hi0 hR
        have hrs := hr.to.2.1
        have hg := hr.is.g
        have hnn := hr.num
        have hg3 := hr.is.2.1
        have hnb := hJ9.1.2.2.2
        refine J.aload_n g dX11_readGroup_18 rfl rfl ?_
        refine J.get g jX11 6 (by decide) lf_X11_31 0 rfl rfl dX11_readGroup_19 ?_
        refine J.iconstN g 3 dX11_readGroup_22 ?_
        refine J.icmp_neN g dX11_readGroup_23 (tgt := 120) (by decide) (by omega) (by omega) (fun c_23 => ?_) (fun c_23 => ?_)
        · refine J.iconstN g 1 dX11_readGroup_120 ?_
          exact J.zret (by first | rfl | exact j_nz _) g hE (v9, r9, (mfa, mpl, mfw), true) (jB_t (by rfl)) (mRes_t hr (by rw [hR]; rcases Nat.lt_or_ge (gpt q9.2.1.1) 3 with z | z; (· rw [show 3 - gpt q9.2.1.1 = (3 - (gpt q9.2.1.1 + 1)) + 1 by omega, jrGrp, if_pos ⟨fun w => c_23 (hi0 w), fun w => c_23 (hnn.1.mp w)⟩]); (· rw [show 3 - gpt q9.2.1.1 = 0 by omega]; rfl)) (fun z => c_23 (hi0 (by rw [z]; decide +kernel))) hps) rfl ⟨Nat.le_of_ble_eq_true rfl, Nat.le_of_ble_eq_true rfl⟩ dX11_readGroup_121
        · have hk2 : q9.1.2.1 = 2 := hnn.1.mpr (by omega)
          have hnu := hnn.2 (by omega)
          have hnub : v9.2.2.2.1 < 2 ^ 12 := by rw [hnu]; exact hnb
          refine J.aload_n g dX11_readGroup_26 rfl rfl ?_
          refine J.get g jX11 14 (by decide) lf_X11_88 0 rfl rfl dX11_readGroup_27 ?_
          refine J.iconstN g 0 dX11_readGroup_30 ?_
          refine J.ialdN g 2 rfl (by omega) (by decide) dX11_readGroup_31 ?_
          refine J.iconstN g 3 dX11_readGroup_32 ?_
          refine J.icmp_neN g dX11_readGroup_33 (tgt := 42) (by decide) (by omega) (by omega) (fun c_33 => ?_) (fun c_33 => ?_)
          · refine J.aload_n g dX11_readGroup_42 rfl rfl ?_
            refine J.get g jX11 7 (by decide) lf_X11_45 0 rfl rfl dX11_readGroup_43 ?_
            refine J.iconstN g 2 dX11_readGroup_46 ?_
            refine J.icmp_ltN g dX11_readGroup_47 (tgt := 80) (by decide) (by omega) (by omega) (fun c_47 => ?_) (fun c_47 => ?_)
            · refine J.aload_n g dX11_readGroup_80 rfl rfl ?_
              refine J.iconstN g 2 dX11_readGroup_81 ?_
              refine J.callV g (c_X11_bad l γ _ _ _ _ _ _ _ _ _ _ _ _ _ _ _ _ _ _ _ _ _ _ _ _ _ _ _ _ _ _ _ _ _ _ _ _ _ (by omega)) jy_X11_bad lm_X11_146 (q0 := 0) rfl jX11.1 ⟨⟨Nat.le_of_ble_eq_true rfl, Nat.le_of_ble_eq_true rfl⟩, Nat.le_of_ble_eq_true rfl, Nat.le_of_ble_eq_true rfl⟩ (Nat.le_of_ble_eq_true rfl) rfl [0] rfl (fun _ => rfl) rfl dX11_readGroup_82 ?_
              intro _ _
              dsimp only [jput, List.set_cons_zero, List.set_cons_succ, Option.toList, List.append, List.cons_append, List.nil_append, List.append_nil]
              exact J.zret (by first | rfl | exact j_nz _) g hE (v9, r9, (2, v9.2.1, nI mro), false) rfl (mRes_f (q := q9) (k := 2) (pl := q9.1.2.2.1) hr (by rw [hR, show 3 - gpt q9.2.1.1 = (3 - (gpt q9.2.1.1 + 1)) + 1 by omega, jrGrp, if_neg (fun z => z.2 hk2), if_neg (fun z => z hk2), if_pos (by first | omega | (rw [hod, ← hnu]; omega))]) rfl hr.to.2.2.1 (by decide)) (by rw [if_neg (by omega)]) ⟨Nat.le_of_ble_eq_true rfl, Nat.le_of_ble_eq_true rfl⟩ dX11_readGroup_85
            · refine J.aload_n g dX11_readGroup_50 rfl rfl ?_
              refine J.get g jX11 14 (by decide) lf_X11_88 0 rfl rfl dX11_readGroup_51 ?_
              refine J.iconstN g 0 dX11_readGroup_54 ?_
              refine J.ialdN g 2 rfl (by omega) (by decide) dX11_readGroup_55 ?_
              refine J.if_neN g dX11_readGroup_56 (tgt := 63) (by decide) (by omega) (fun c_56 => ?_) (fun c_56 => ?_)
              · have hod : (if gpt q9.2.1.1 = 0 then 1 else god q9.2.1.1) = mord r9 := by rw [if_neg (by omega), hr.is.ord]
                have hord : mord r9 ≤ 24 := by rw [hr.is.ord]; exact hg.1
                refine J.aload_n g dX11_readGroup_63 rfl rfl ?_
                refine J.get g jX11 14 (by decide) lf_X11_88 0 rfl rfl dX11_readGroup_64 ?_
                refine J.callS0 g (c_X11_orderOf l γ _ _ (by omega)) jy_X11_orderOf lm_X11_149 ⟨⟨Nat.le_of_ble_eq_true rfl, Nat.le_of_ble_eq_true rfl⟩, Nat.le_of_ble_eq_true rfl, Nat.le_of_ble_eq_true rfl⟩ (Nat.le_of_ble_eq_true rfl) rfl [2] rfl rfl dX11_readGroup_67 ?_
                intro _ _
                dsimp only [jpush]
                refine J.aload_n g dX11_readGroup_70 rfl rfl ?_
                refine J.get g jX11 7 (by decide) lf_X11_45 0 rfl rfl dX11_readGroup_71 ?_
                refine J.imulN g dX11_readGroup_74 ?_
                refine J.bipush (v := nI 24) g dX11_readGroup_75 (by decide +kernel) ?_
                refine J.icmp_leN g dX11_readGroup_77 (tgt := 86) (by decide) (by first | omega | (have := Nat.mul_le_mul hord (show v9.2.2.2.1 ≤ 2 ^ 12 by omega); omega)) (by omega) (fun c_77 => ?_) (fun c_77 => ?_)
                · have h24 : (if gpt q9.2.1.1 = 0 then 1 else god q9.2.1.1) * q9.1.2.2.2 ≤ 24 := by rw [hod, ← hnu]; omega
                  have hod1 : 1 ≤ (if gpt q9.2.1.1 = 0 then 1 else god q9.2.1.1) := by (split; (· omega); (· rename_i z; exact god_pos hr.is.1 (fun w => by rw [w] at z; exact z (by decide +kernel))))
                  have hnu24 : q9.1.2.2.2 ≤ 24 := Nat.le_trans (Nat.le_mul_of_pos_left _ hod1) h24
                  have hm := g_more q9.2.1.1 hr.is.1 q9.1.2.2.2 (by omega) (by omega) (by omega) h24
                  refine J.aload_n g dX11_readGroup_86 rfl rfl ?_
                  refine J.get g jX11 14 (by decide) lf_X11_88 0 rfl rfl dX11_readGroup_87 ?_
                  refine J.iconstN g 1 dX11_readGroup_90 ?_
                  refine J.aload_n g dX11_readGroup_91 rfl rfl ?_
                  refine J.get g jX11 14 (by decide) lf_X11_88 0 rfl rfl dX11_readGroup_92 ?_
                  refine J.iconstN g 0 dX11_readGroup_95 ?_
                  refine J.ialdN g 2 rfl (by omega) (by decide) dX11_readGroup_96 ?_
                  refine J.iaddN g dX11_readGroup_97 ?_
                  refine J.aload_n g dX11_readGroup_98 rfl rfl ?_
                  refine J.get g jX11 7 (by decide) lf_X11_45 0 rfl rfl dX11_readGroup_99 ?_
                  refine J.iastN g 2 rfl (by omega) (by decide) dX11_readGroup_102 ?_
                  try dsimp only [List.set_cons_zero, List.set_cons_succ]
                  refine J.aload_n g dX11_readGroup_103 rfl rfl ?_
                  refine J.get g jX11 14 (by decide) lf_X11_88 0 rfl rfl dX11_readGroup_104 ?_
                  refine J.iconstN g 0 dX11_readGroup_107 ?_
                  refine J.dup2 g dX11_readGroup_108 rfl rfl ?_
                  refine J.ialdN g 2 rfl (by omega) (by decide) dX11_readGroup_109 ?_
                  refine J.iconstN g 1 dX11_readGroup_110 ?_
                  refine J.iaddN g dX11_readGroup_111 ?_
                  refine J.iastN g 2 rfl (by omega) (by decide) dX11_readGroup_112 ?_
                  try dsimp only [List.set_cons_zero, List.set_cons_succ]
                  have hmm : mIs (q9.2.1.1 ||| q9.1.2.2.2 <<< (5 * gpt q9.2.1.1)) q9.2.2.2.1 q9.2.2.2.2 (va_up (va_up r9 (1 + r9 0) v9.2.2.2.1) 0 (va_up r9 (1 + r9 0) v9.2.2.2.1 0 + 1)) := by rw [hn9]; exact mIs_more (by have := hr.is; rw [hn9] at this; exact this) (by rw [← hnu]; omega) (by omega) h24 (fun j hj => by unfold va_up; by_cases z : j = 0; (· rw [if_pos z, if_pos z, if_neg (by omega), hg3]); (· rw [if_neg z, if_neg z, hg3, hnu]))
                  have hgt : gpt (jrTok t msz (q9.1, (q9.2.1.1 ||| q9.1.2.2.2 <<< (5 * gpt q9.2.1.1), q9.2.1.2), q9.2.2)).2.1.1 = gpt q9.2.1.1 + 1 := hm.2.1
                  have hgn : ¬ gpt (q9.2.1.1 ||| q9.1.2.2.2 <<< (5 * gpt q9.2.1.1)) = 0 := by rw [hm.2.1]; omega
                  have hJn : jRB (jrTok t msz (q9.1, (q9.2.1.1 ||| q9.1.2.2.2 <<< (5 * gpt q9.2.1.1), q9.2.1.2), q9.2.2)) := by rw [htf]; exact jRB.tok hz ⟨hJ9.1, ⟨(g_small _ hm.1).1, hJ9.2.1.2⟩, hJ9.2.2⟩
                  have hR2 : jrGrp t msz 3 0 1 (jrTok t msz q) = jrGrp t msz (3 - gpt (q9.2.1.1 ||| q9.1.2.2.2 <<< (5 * gpt q9.2.1.1))) (gpt (q9.2.1.1 ||| q9.1.2.2.2 <<< (5 * gpt q9.2.1.1))) (if gpt (q9.2.1.1 ||| q9.1.2.2.2 <<< (5 * gpt q9.2.1.1)) = 0 then 1 else god (q9.2.1.1 ||| q9.1.2.2.2 <<< (5 * gpt q9.2.1.1))) (jrTok t msz (q9.1, (q9.2.1.1 ||| q9.1.2.2.2 <<< (5 * gpt q9.2.1.1), q9.2.1.2), q9.2.2)) := by rw [hR, if_neg hgn, hm.2.1, hm.2.2.2.2]; conv => lhs; rw [show 3 - gpt q9.2.1.1 = (3 - (gpt q9.2.1.1 + 1)) + 1 by omega, jrGrp, if_neg (fun z => z.2 hk2), if_neg (fun z => z hk2), if_neg (by omega)]
                  refine J.aload_n g dX11_readGroup_113 rfl rfl ?_
                  refine J.callV g (c_X11_next l γ _ _ _ _ _ _ _ _ _ _ _ _ _ _ _ _ _ _ _ _ _ _ _ _ _ _ _ _ _ _ _ _ _ _ _ _ _ hB hz hr.to.1) jy_X11_next lm_X11_143 (q0 := 0) rfl jX11.1 ⟨⟨Nat.le_of_ble_eq_true rfl, Nat.le_of_ble_eq_true rfl⟩, Nat.le_of_ble_eq_true rfl, Nat.le_of_ble_eq_true rfl⟩ (Nat.le_of_ble_eq_true rfl) rfl [0, 1] rfl (fun _ => rfl) rfl dX11_readGroup_114 ?_
                  intro u_114 h_114
                  dsimp only [jput, List.set_cons_zero, List.set_cons_succ, Option.toList, List.append, List.cons_append, List.nil_append, List.append_nil]
                  have hrn : mR msz (jrTok t msz (q9.1, (q9.2.1.1 ||| q9.1.2.2.2 <<< (5 * gpt q9.2.1.1), q9.2.1.2), q9.2.2)) u_114 _ mro := mR.next (v := v9) (r := _) ⟨hr.1, hmm, hr.2.2⟩ (by omega) (by omega) h_114
                  refine J.goto g dX11_readGroup_117 (tgt := 18) (by decide) ?_
                  exact J.lvle (jle_s jle_0) (ih_lp u_114 _ (jrTok t msz (q9.1, (q9.2.1.1 ||| q9.1.2.2.2 <<< (5 * gpt q9.2.1.1), q9.2.1.2), q9.2.2)) (by omega) hrn hn9 hJn (by have := hr.pos (t := t) (by omega) (by omega); have h9 : (jrTok t msz (q9.1, (q9.2.1.1 ||| q9.1.2.2.2 <<< (5 * gpt q9.2.1.1), q9.2.1.2), q9.2.2)).1.2.2.1 = (jrTok t msz q9).1.2.2.1 := rfl; omega) (fun z => absurd z hgn) hR2)
                · refine J.aload_n g dX11_readGroup_80 rfl rfl ?_
                  refine J.iconstN g 2 dX11_readGroup_81 ?_
                  refine J.callV g (c_X11_bad l γ _ _ _ _ _ _ _ _ _ _ _ _ _ _ _ _ _ _ _ _ _ _ _ _ _ _ _ _ _ _ _ _ _ _ _ _ _ (by omega)) jy_X11_bad lm_X11_146 (q0 := 0) rfl jX11.1 ⟨⟨Nat.le_of_ble_eq_true rfl, Nat.le_of_ble_eq_true rfl⟩, Nat.le_of_ble_eq_true rfl, Nat.le_of_ble_eq_true rfl⟩ (Nat.le_of_ble_eq_true rfl) rfl [0] rfl (fun _ => rfl) rfl dX11_readGroup_82 ?_
                  intro _ _
                  dsimp only [jput, List.set_cons_zero, List.set_cons_succ, Option.toList, List.append, List.cons_append, List.nil_append, List.append_nil]
                  exact J.zret (by first | rfl | exact j_nz _) g hE (v9, r9, (2, v9.2.1, nI mro), false) rfl (mRes_f (q := q9) (k := 2) (pl := q9.1.2.2.1) hr (by rw [hR, show 3 - gpt q9.2.1.1 = (3 - (gpt q9.2.1.1 + 1)) + 1 by omega, jrGrp, if_neg (fun z => z.2 hk2), if_neg (fun z => z hk2), if_pos (by first | omega | (rw [hod, ← hnu]; omega))]) rfl hr.to.2.2.1 (by decide)) (by rw [if_neg (by omega)]) ⟨Nat.le_of_ble_eq_true rfl, Nat.le_of_ble_eq_true rfl⟩ dX11_readGroup_85
              · have hod : (if gpt q9.2.1.1 = 0 then 1 else god q9.2.1.1) = 1 := if_pos (by omega)
                refine J.iconstN g 1 dX11_readGroup_59 ?_
                refine J.goto g dX11_readGroup_60 (tgt := 70) (by decide) ?_
                refine J.aload_n g dX11_readGroup_70 rfl rfl ?_
                refine J.get g jX11 7 (by decide) lf_X11_45 0 rfl rfl dX11_readGroup_71 ?_
                refine J.imulN g dX11_readGroup_74 ?_
                refine J.bipush (v := nI 24) g dX11_readGroup_75 (by decide +kernel) ?_
                refine J.icmp_leN g dX11_readGroup_77 (tgt := 86) (by decide) (by first | omega | (have := Nat.mul_le_mul hord (show v9.2.2.2.1 ≤ 2 ^ 12 by omega); omega)) (by omega) (fun c_77 => ?_) (fun c_77 => ?_)
                · have h24 : (if gpt q9.2.1.1 = 0 then 1 else god q9.2.1.1) * q9.1.2.2.2 ≤ 24 := by rw [hod, ← hnu]; omega
                  have hod1 : 1 ≤ (if gpt q9.2.1.1 = 0 then 1 else god q9.2.1.1) := by (split; (· omega); (· rename_i z; exact god_pos hr.is.1 (fun w => by rw [w] at z; exact z (by decide +kernel))))
                  have hnu24 : q9.1.2.2.2 ≤ 24 := Nat.le_trans (Nat.le_mul_of_pos_left _ hod1) h24
                  have hm := g_more q9.2.1.1 hr.is.1 q9.1.2.2.2 (by omega) (by omega) (by omega) h24
                  refine J.aload_n g dX11_readGroup_86 rfl rfl ?_
                  refine J.get g jX11 14 (by decide) lf_X11_88 0 rfl rfl dX11_readGroup_87 ?_
                  refine J.iconstN g 1 dX11_readGroup_90 ?_
                  refine J.aload_n g dX11_readGroup_91 rfl rfl ?_
                  refine J.get g jX11 14 (by decide) lf_X11_88 0 rfl rfl dX11_readGroup_92 ?_
                  refine J.iconstN g 0 dX11_readGroup_95 ?_
                  refine J.ialdN g 2 rfl (by omega) (by decide) dX11_readGroup_96 ?_
                  refine J.iaddN g dX11_readGroup_97 ?_
                  refine J.aload_n g dX11_readGroup_98 rfl rfl ?_
                  refine J.get g jX11 7 (by decide) lf_X11_45 0 rfl rfl dX11_readGroup_99 ?_
                  refine J.iastN g 2 rfl (by omega) (by decide) dX11_readGroup_102 ?_
                  try dsimp only [List.set_cons_zero, List.set_cons_succ]
                  refine J.aload_n g dX11_readGroup_103 rfl rfl ?_
                  refine J.get g jX11 14 (by decide) lf_X11_88 0 rfl rfl dX11_readGroup_104 ?_
                  refine J.iconstN g 0 dX11_readGroup_107 ?_
                  refine J.dup2 g dX11_readGroup_108 rfl rfl ?_
                  refine J.ialdN g 2 rfl (by omega) (by decide) dX11_readGroup_109 ?_
                  refine J.iconstN g 1 dX11_readGroup_110 ?_
                  refine J.iaddN g dX11_readGroup_111 ?_
                  refine J.iastN g 2 rfl (by omega) (by decide) dX11_readGroup_112 ?_
                  try dsimp only [List.set_cons_zero, List.set_cons_succ]
                  have hmm : mIs (q9.2.1.1 ||| q9.1.2.2.2 <<< (5 * gpt q9.2.1.1)) q9.2.2.2.1 q9.2.2.2.2 (va_up (va_up r9 (1 + r9 0) v9.2.2.2.1) 0 (va_up r9 (1 + r9 0) v9.2.2.2.1 0 + 1)) := by rw [hn9]; exact mIs_more (by have := hr.is; rw [hn9] at this; exact this) (by rw [← hnu]; omega) (by omega) h24 (fun j hj => by unfold va_up; by_cases z : j = 0; (· rw [if_pos z, if_pos z, if_neg (by omega), hg3]); (· rw [if_neg z, if_neg z, hg3, hnu]))
                  have hgt : gpt (jrTok t msz (q9.1, (q9.2.1.1 ||| q9.1.2.2.2 <<< (5 * gpt q9.2.1.1), q9.2.1.2), q9.2.2)).2.1.1 = gpt q9.2.1.1 + 1 := hm.2.1
                  have hgn : ¬ gpt (q9.2.1.1 ||| q9.1.2.2.2 <<< (5 * gpt q9.2.1.1)) = 0 := by rw [hm.2.1]; omega
                  have hJn : jRB (jrTok t msz (q9.1, (q9.2.1.1 ||| q9.1.2.2.2 <<< (5 * gpt q9.2.1.1), q9.2.1.2), q9.2.2)) := by rw [htf]; exact jRB.tok hz ⟨hJ9.1, ⟨(g_small _ hm.1).1, hJ9.2.1.2⟩, hJ9.2.2⟩
                  have hR2 : jrGrp t msz 3 0 1 (jrTok t msz q) = jrGrp t msz (3 - gpt (q9.2.1.1 ||| q9.1.2.2.2 <<< (5 * gpt q9.2.1.1))) (gpt (q9.2.1.1 ||| q9.1.2.2.2 <<< (5 * gpt q9.2.1.1))) (if gpt (q9.2.1.1 ||| q9.1.2.2.2 <<< (5 * gpt q9.2.1.1)) = 0 then 1 else god (q9.2.1.1 ||| q9.1.2.2.2 <<< (5 * gpt q9.2.1.1))) (jrTok t msz (q9.1, (q9.2.1.1 ||| q9.1.2.2.2 <<< (5 * gpt q9.2.1.1), q9.2.1.2), q9.2.2)) := by rw [hR, if_neg hgn, hm.2.1, hm.2.2.2.2]; conv => lhs; rw [show 3 - gpt q9.2.1.1 = (3 - (gpt q9.2.1.1 + 1)) + 1 by omega, jrGrp, if_neg (fun z => z.2 hk2), if_neg (fun z => z hk2), if_neg (by omega)]
                  refine J.aload_n g dX11_readGroup_113 rfl rfl ?_
                  refine J.callV g (c_X11_next l γ _ _ _ _ _ _ _ _ _ _ _ _ _ _ _ _ _ _ _ _ _ _ _ _ _ _ _ _ _ _ _ _ _ _ _ _ _ hB hz hr.to.1) jy_X11_next lm_X11_143 (q0 := 0) rfl jX11.1 ⟨⟨Nat.le_of_ble_eq_true rfl, Nat.le_of_ble_eq_true rfl⟩, Nat.le_of_ble_eq_true rfl, Nat.le_of_ble_eq_true rfl⟩ (Nat.le_of_ble_eq_true rfl) rfl [0, 1] rfl (fun _ => rfl) rfl dX11_readGroup_114 ?_
                  intro u_114 h_114
                  dsimp only [jput, List.set_cons_zero, List.set_cons_succ, Option.toList, List.append, List.cons_append, List.nil_append, List.append_nil]
                  have hrn : mR msz (jrTok t msz (q9.1, (q9.2.1.1 ||| q9.1.2.2.2 <<< (5 * gpt q9.2.1.1), q9.2.1.2), q9.2.2)) u_114 _ mro := mR.next (v := v9) (r := _) ⟨hr.1, hmm, hr.2.2⟩ (by omega) (by omega) h_114
                  refine J.goto g dX11_readGroup_117 (tgt := 18) (by decide) ?_
                  exact J.lvle (jle_s jle_0) (ih_lp u_114 _ (jrTok t msz (q9.1, (q9.2.1.1 ||| q9.1.2.2.2 <<< (5 * gpt q9.2.1.1), q9.2.1.2), q9.2.2)) (by omega) hrn hn9 hJn (by have := hr.pos (t := t) (by omega) (by omega); have h9 : (jrTok t msz (q9.1, (q9.2.1.1 ||| q9.1.2.2.2 <<< (5 * gpt q9.2.1.1), q9.2.1.2), q9.2.2)).1.2.2.1 = (jrTok t msz q9).1.2.2.1 := rfl; omega) (fun z => absurd z hgn) hR2)
                · refine J.aload_n g dX11_readGroup_80 rfl rfl ?_
                  refine J.iconstN g 2 dX11_readGroup_81 ?_
                  refine J.callV g (c_X11_bad l γ _ _ _ _ _ _ _ _ _ _ _ _ _ _ _ _ _ _ _ _ _ _ _ _ _ _ _ _ _ _ _ _ _ _ _ _ _ (by omega)) jy_X11_bad lm_X11_146 (q0 := 0) rfl jX11.1 ⟨⟨Nat.le_of_ble_eq_true rfl, Nat.le_of_ble_eq_true rfl⟩, Nat.le_of_ble_eq_true rfl, Nat.le_of_ble_eq_true rfl⟩ (Nat.le_of_ble_eq_true rfl) rfl [0] rfl (fun _ => rfl) rfl dX11_readGroup_82 ?_
                  intro _ _
                  dsimp only [jput, List.set_cons_zero, List.set_cons_succ, Option.toList, List.append, List.cons_append, List.nil_append, List.append_nil]
                  exact J.zret (by first | rfl | exact j_nz _) g hE (v9, r9, (2, v9.2.1, nI mro), false) rfl (mRes_f (q := q9) (k := 2) (pl := q9.1.2.2.1) hr (by rw [hR, show 3 - gpt q9.2.1.1 = (3 - (gpt q9.2.1.1 + 1)) + 1 by omega, jrGrp, if_neg (fun z => z.2 hk2), if_neg (fun z => z hk2), if_pos (by first | omega | (rw [hod, ← hnu]; omega))]) rfl hr.to.2.2.1 (by decide)) (by rw [if_neg (by omega)]) ⟨Nat.le_of_ble_eq_true rfl, Nat.le_of_ble_eq_true rfl⟩ dX11_readGroup_85
          · refine J.aload_n g dX11_readGroup_36 rfl rfl ?_
            refine J.iconstN g 1 dX11_readGroup_37 ?_
            refine J.callV g (c_X11_bad l γ _ _ _ _ _ _ _ _ _ _ _ _ _ _ _ _ _ _ _ _ _ _ _ _ _ _ _ _ _ _ _ _ _ _ _ _ _ (by omega)) jy_X11_bad lm_X11_146 (q0 := 0) rfl jX11.1 ⟨⟨Nat.le_of_ble_eq_true rfl, Nat.le_of_ble_eq_true rfl⟩, Nat.le_of_ble_eq_true rfl, Nat.le_of_ble_eq_true rfl⟩ (Nat.le_of_ble_eq_true rfl) rfl [0] rfl (fun _ => rfl) rfl dX11_readGroup_38 ?_
            intro _ _
            dsimp only [jput, List.set_cons_zero, List.set_cons_succ, Option.toList, List.append, List.cons_append, List.nil_append, List.append_nil]
            exact J.zret (by first | rfl | exact j_nz _) g hE (v9, r9, (1, v9.2.1, nI mro), false) rfl (mRes_f (q := q9) (k := 1) (pl := q9.1.2.2.1) hr (by rw [hR, show 3 - gpt q9.2.1.1 = 0 by omega]; show jrSemi t msz q9 = _; rw [jrSemi, if_neg (by omega)]) rfl hr.to.2.2.1 (by decide)) (by rw [ite_self]) ⟨Nat.le_of_ble_eq_true rfl, Nat.le_of_ble_eq_true rfl⟩ dX11_readGroup_41
    exact J.lvle (jle_s jle_0) (lp _ u_1 r (jrTok t msz q) (Nat.lt_succ_self _) hr1 hn0 (by rw [htf]; exact hJ.tok hz) (by have := hq.pos (t := t) (by omega) (by omega); omega) (fun _ => by omega) (by rw [show gpt (jrTok t msz q).2.1.1 = 0 from hg0]; rfl))
  · refine J.aload_n g dX11_readGroup_12 rfl rfl ?_
    refine J.iconstN g 1 dX11_readGroup_13 ?_
    refine J.callV g (c_X11_bad l γ _ _ _ _ _ _ _ _ _ _ _ _ _ _ _ _ _ _ _ _ _ _ _ _ _ _ _ _ _ _ _ _ _ _ _ _ _ (by omega)) jy_X11_bad lm_X11_146 (q0 := 0) rfl jX11.1 ⟨⟨Nat.le_of_ble_eq_true rfl, Nat.le_of_ble_eq_true rfl⟩, Nat.le_of_ble_eq_true rfl, Nat.le_of_ble_eq_true rfl⟩ (Nat.le_of_ble_eq_true rfl) rfl [0] rfl (fun _ => rfl) rfl dX11_readGroup_14 ?_
    intro _ _
    dsimp only [jput, List.set_cons_zero, List.set_cons_succ, Option.toList, List.append, List.cons_append, List.nil_append, List.append_nil]
    exact J.zret (by first | rfl | exact j_nz _) g hE (u_1, r, (1, u_1.2.1, nI mro), false) rfl (mRes_f (q := jrTok t msz q) (k := 1) (pl := (jrTok t msz q).1.2.2.1) hr1 (by rw [jrGrp, if_neg (fun z => z.1 rfl), if_pos (fun z => c_9 (by have := hr1.num.1.mp z; omega))]) rfl hr1.to.2.2.1 (by decide)) (by rw [ite_self]) ⟨Nat.le_of_ble_eq_true rfl, Nat.le_of_ble_eq_true rfl⟩ dX11_readGroup_17
