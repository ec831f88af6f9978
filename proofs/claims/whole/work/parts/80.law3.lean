set_option maxHeartbeats 8000000 in
set_option maxRecDepth 100000 in
theorem lc_atoms {l : Launch} {γ : jγ} {x : jE} {ca ma : Nat → Nat} {oa b L i cs sl : Nat} {xs : Nat → Int32} {a1 : Int32} (g : jG γ x ({ frames := 2048, cells := 601024, slots := 7293034, locals := 84000 } : Room) code RL (some .boolean)) (hX : jScr x b L xs) (hL : L ≤ 3072) (hi : i + 6 ≤ L) (hcs : cs + 1 ≤ 601024) (hsl : sl + 6 ≤ 7293034) (h1 : xs (i + 1) = a1) {dsd : Int32} {tl : Nat} {tf : Nat → Int32} {q : jRS} {cd pt od ex : Nat} {mf af : Nat → Nat} {n : Nat} {f : Nat → Nat} {trn : Nat} {trf : Nat → Nat} {oon : Nat} {oof : Nat → Nat} {nx pl : Nat} {ln : Nat → Nat} {rf : Nat → Nat → Nat} {ic il : Nat → Nat} {ik : Nat → Bool} {iff : Nat → Nat → Nat} {pn : Nat} {M W : Nat → Nat → Nat} {s0 s1 s2 s3 : Nat → Nat} {sgc wh : Nat} {m0 m1 m2 : Nat → Nat} {rn : Nat} {rfp : Nat → Nat} {sg : Nat} {C : Nat → Nat} {gl : Nat} {gf : Nat → Nat} {fl : Nat} {ff : Nat → Nat} {mth mfw mse : Int32} {mwd : Int64} {mtd msz mto mfr mso mnu mfa mpl mro msm mln : Nat} {t w r9 KF SS bf lv9 : Nat → Nat} {mik : Nat → Bool} {su : Nat → Nat} {be : Nat → Bool} {fe my : Nat → Int32} {O9 : Nat → Nat} {S9 : Nat → Bool} {LF TF C9 rn9 rb TB : Nat → Nat} {o9 : Nat → Int64} (hR : lR tl tf q cd pt od ex mf af n f nx pl ln rf ic il ik iff sgc wh m0 m1 m2 rn rfp sg C fl ff mfw mtd mfa msm t w KF SS mik)
    (K : ∀ {dsd : Int32} {tl : Nat} {tf : Nat → Int32} {q : jRS} {cd pt od ex : Nat} {mf af : Nat → Nat} {n : Nat} {f : Nat → Nat} {trn : Nat} {trf : Nat → Nat} {oon : Nat} {oof : Nat → Nat} {nx pl : Nat} {ln : Nat → Nat} {rf : Nat → Nat → Nat} {ic il : Nat → Nat} {ik : Nat → Bool} {iff : Nat → Nat → Nat} {pn : Nat} {M W : Nat → Nat → Nat} {s0 s1 s2 s3 : Nat → Nat} {sgc wh : Nat} {m0 m1 m2 : Nat → Nat} {rn : Nat} {rfp : Nat → Nat} {sg : Nat} {C : Nat → Nat} {gl : Nat} {gf : Nat → Nat} {fl : Nat} {ff : Nat → Nat} {mth mfw mse : Int32} {mwd : Int64} {mtd msz mto mfr mso mnu mfa mpl mro msm mln : Nat} {t w r9 KF SS bf lv9 : Nat → Nat} {mik : Nat → Bool} {su : Nat → Nat} {be : Nat → Bool} {fe my : Nat → Int32} {O9 : Nat → Nat} {S9 : Nat → Bool} {LF TF C9 rn9 rb TB : Nat → Nat} {o9 : Nat → Int64}, lR tl tf q cd pt od ex mf af n f nx pl ln rf ic il ik iff sgc wh m0 m1 m2 rn rfp sg C fl ff mfw mtd mfa msm t w KF SS mik → J γ l x (lW γ ca ma oa dsd tl tf q cd pt od ex mf af n f trn trf oon oof nx pl ln rf ic il ik iff pn M W s0 s1 s2 s3 sgc wh m0 m1 m2 rn rfp sg C gl gf fl ff mth mfw mse mwd mtd msz mto mfr mso mnu mfa mpl mro msm mln t w r9 KF SS bf lv9 mik su be fe my O9 S9 LF TF C9 rn9 rb TB o9) [some (.ref b), some (.ref (ca 0)), some (.ref (ma 0)), some (.ref oa), some (.int (nI i)), none, none] [] (cs + 1) (sl + 6) 1075) : J γ l x (lW γ ca ma oa dsd tl tf q cd pt od ex mf af n f trn trf oon oof nx pl ln rf ic il ik iff pn M W s0 s1 s2 s3 sgc wh m0 m1 m2 rn rfp sg C gl gf fl ff mth mfw mse mwd mtd msz mto mfr mso mnu mfa mpl mro msm mln t w r9 KF SS bf lv9 mik su be fe my O9 S9 LF TF C9 rn9 rb TB o9) [some (.ref b), some (.ref (ca 0)), some (.ref (ma 0)), some (.ref oa), some (.int (nI i)), none, none] [] cs sl 674 := by
  obtain ⟨⟨htl, ht, hmtd⟩, ⟨hq, hmfa, hmfw⟩, hG, hI, ⟨hnx, hpl, hln, hpR, hmsm⟩, ⟨hmik, him⟩, ⟨hsgc, hPB, hPf, hPV⟩, hsg, hMV⟩ := id hR
  subst ht
  obtain rfl : tl = mtd := hmtd.symm
  subst hmfa
  subst hmfw
  obtain rfl : pl = msm := hmsm.symm
  obtain rfl : ik = mik := hmik.symm
  obtain ⟨hcd, hpt, hod, hex, hmfe, hafe⟩ := id hG
  subst hpt
  subst hod
  subst hex
  have hT := hG.tab
  have hn := hI.2.2.2.2.1
  have hfo := hI.2.2.2.2.2.2
  have hsm := g_small cd hcd
  have hf : ∀ j, j < n → f j < 24 := fun j hj => Nat.lt_of_lt_of_le (hfo j hj) hsm.2.1
  have hJ := jpl_cd hG
  have hO := jop_cd hG
  have hinv : ∀ a, a < god cd → ∀ c, c < god cd → jpl (god cd) mf (jpl (god cd) mf c a) (jop (god cd) af a) = c := fun a ha c hc => by rw [hJ, hO]; exact gP_can hcd ha hc
  have hcs0 : cs ≤ 601024 := by omega
  have hsl0 : sl ≤ 7293034 := by omega
  dsimp only [lW]
  cases hw : mIn a1 (nI 0) (nI 1) with
  | false =>
    refine J.aload_n g dL_law_674 rfl rfl ?_
    refine J.aload_n g dL_law_675 rfl rfl ?_
    refine J.iload g dL_law_676 rfl ?_
    refine J.iconstN g 1 dL_law_678 ?_
    refine J.iaddN g dL_law_679 ?_
    refine J.sld g hX (k := i + 1) (by omega) (by omega) h1 dL_law_680 ?_
    refine J.callV0 g (c_X10_atoms_no l γ _ _ _ _ _ _ _ _ _ _ _ _ _ _ _ _ _ _ _ _ _ _ _ _ _ _ hn hT hf (Or.inr (mIn01_f hw))) jy_X10_atoms lm_L_88 (q0 := 0) rfl jX10.1 ⟨⟨Nat.le_of_ble_eq_true rfl, Nat.le_of_ble_eq_true rfl⟩, hcs0, hsl0⟩ (Nat.le_of_ble_eq_true rfl) rfl [0, 6, 7, 8, 9, 10] rfl rfl dL_law_681 ?_
    intro _ _
    dsimp only [jpush]
    refine J.aload_n g dL_law_684 rfl rfl ?_
    refine J.aload_n g dL_law_685 rfl rfl ?_
    refine J.iload g dL_law_686 rfl ?_
    refine J.iconstN g 1 dL_law_688 ?_
    refine J.iaddN g dL_law_689 ?_
    refine J.sld g hX (k := i + 1) (by omega) (by omega) h1 dL_law_690 ?_
    refine J.callV g (c_X11_atoms_no l γ _ _ _ _ _ _ _ _ _ _ _ _ _ _ _ _ _ _ _ _ _ _ _ _ _ _ _ _ _ _ _ _ _ _ _ _ _ _ _ _ _ hI (Or.inl hw)) jy_X11_atoms lm_L_91 (q0 := 86) rfl jX11.1 ⟨⟨Nat.le_of_ble_eq_true rfl, Nat.le_of_ble_eq_true rfl⟩, hcs0, hsl0⟩ (Nat.le_of_ble_eq_true rfl) rfl [86, 88] rfl (fun _ => rfl) rfl dL_law_691 ?_
    intro _ _
    dsimp only [jput, List.set_cons_zero, List.set_cons_succ, Option.toList, List.append, List.cons_append, List.nil_append, List.append_nil]
    refine J.icmp_eq g dL_law_694 (tgt := 1075) (by decide) (fun c_694 => ?_) (fun c_694 => (c_694 (rfl)).elim)
    exact J.widen (Nat.le_add_right cs 1) (Nat.le_add_right sl 6) (K (hR))
  | true =>
    by_cases h0 : n = 0
    ·
      have hz1 : ¬ jsa (god cd) mf f n = 0 := by unfold jsa; rw [if_pos h0]; decide
      refine J.aload_n g dL_law_674 rfl rfl ?_
      refine J.aload_n g dL_law_675 rfl rfl ?_
      refine J.iload g dL_law_676 rfl ?_
      refine J.iconstN g 1 dL_law_678 ?_
      refine J.iaddN g dL_law_679 ?_
      refine J.sld g hX (k := i + 1) (by omega) (by omega) h1 dL_law_680 ?_
      refine J.callV0 g (c_X10_atoms_no l γ _ _ _ _ _ _ _ _ _ _ _ _ _ _ _ _ _ _ _ _ _ _ _ _ _ _ hn hT hf (Or.inl hz1)) jy_X10_atoms lm_L_88 (q0 := 0) rfl jX10.1 ⟨⟨Nat.le_of_ble_eq_true rfl, Nat.le_of_ble_eq_true rfl⟩, hcs0, hsl0⟩ (Nat.le_of_ble_eq_true rfl) rfl [0, 6, 7, 8, 9, 10] rfl rfl dL_law_681 ?_
      intro _ _
      dsimp only [jpush]
      refine J.aload_n g dL_law_684 rfl rfl ?_
      refine J.aload_n g dL_law_685 rfl rfl ?_
      refine J.iload g dL_law_686 rfl ?_
      refine J.iconstN g 1 dL_law_688 ?_
      refine J.iaddN g dL_law_689 ?_
      refine J.sld g hX (k := i + 1) (by omega) (by omega) h1 dL_law_690 ?_
      refine J.callV g (c_X11_atoms_no l γ _ _ _ _ _ _ _ _ _ _ _ _ _ _ _ _ _ _ _ _ _ _ _ _ _ _ _ _ _ _ _ _ _ _ _ _ _ _ _ _ _ hI (Or.inr h0)) jy_X11_atoms lm_L_91 (q0 := 86) rfl jX11.1 ⟨⟨Nat.le_of_ble_eq_true rfl, Nat.le_of_ble_eq_true rfl⟩, hcs0, hsl0⟩ (Nat.le_of_ble_eq_true rfl) rfl [86, 88] rfl (fun _ => rfl) rfl dL_law_691 ?_
      intro _ _
      dsimp only [jput, List.set_cons_zero, List.set_cons_succ, Option.toList, List.append, List.cons_append, List.nil_append, List.append_nil]
      refine J.icmp_eq g dL_law_694 (tgt := 1075) (by decide) (fun c_694 => ?_) (fun c_694 => (c_694 (rfl)).elim)
      exact J.widen (Nat.le_add_right cs 1) (Nat.le_add_right sl 6) (K (hR))
    ·
      have hja : jsa (god cd) mf f n = nI (gS cd f n (2 ^ n - 1)) := by rw [jsa_t hJ]; unfold jsa; rw [if_neg h0]; rfl
      have hg24 := gS_lt1 (s := 2 ^ n - 1) hcd n hfo
      have hgp : 0 < god cd := Nat.lt_of_le_of_lt (Nat.zero_le _) (hfo 0 (by omega))
      by_cases hz : gS cd f n (2 ^ n - 1) = 0
      ·
        have hz0 : jsa (god cd) mf f n = 0 := by rw [hja, hz]; rfl
        refine J.aload_n g dL_law_674 rfl rfl ?_
        refine J.aload_n g dL_law_675 rfl rfl ?_
        refine J.iload g dL_law_676 rfl ?_
        refine J.iconstN g 1 dL_law_678 ?_
        refine J.iaddN g dL_law_679 ?_
        refine J.sld g hX (k := i + 1) (by omega) (by omega) h1 dL_law_680 ?_
        refine J.callV g (c_X10_atoms_yes l γ _ _ _ _ _ _ _ _ _ _ _ _ _ _ _ _ _ _ _ _ _ _ _ _ _ _ _ _ _ _ _ _ _ _ _ _ _ _ hn hT hf hG hsgc hPB hPf hPV hz0 (mIn01_t hw).1 (mIn01_t hw).2) jy_X10_atoms lm_L_88 (q0 := 0) rfl jX10.1 ⟨⟨Nat.le_of_ble_eq_true rfl, Nat.le_of_ble_eq_true rfl⟩, hcs0, hsl0⟩ (Nat.le_of_ble_eq_true rfl) rfl [0, 74, 75, 76, 77, 78, 79, 6, 7, 8, 9, 10] rfl (fun _ => rfl) rfl dL_law_681 ?_
        intro u_681 h_681
        dsimp only [jput, List.set_cons_zero, List.set_cons_succ, Option.toList, List.append, List.cons_append, List.nil_append, List.append_nil]
        refine J.aload_n g dL_law_684 rfl rfl ?_
        refine J.aload_n g dL_law_685 rfl rfl ?_
        refine J.iload g dL_law_686 rfl ?_
        refine J.iconstN g 1 dL_law_688 ?_
        refine J.iaddN g dL_law_689 ?_
        refine J.sld g hX (k := i + 1) (by omega) (by omega) h1 dL_law_690 ?_
        refine J.callV g (c_X11_atoms_yes l γ _ _ _ _ _ _ _ _ _ _ _ _ _ _ _ _ _ _ _ _ _ _ _ _ _ _ _ _ _ _ _ _ _ _ _ _ _ _ _ _ _ _ _ _ _ hI hw h0) jy_X11_atoms lm_L_91 (q0 := 86) rfl jX11.1 ⟨⟨Nat.le_of_ble_eq_true rfl, Nat.le_of_ble_eq_true rfl⟩, hcs0, hsl0⟩ (Nat.le_of_ble_eq_true rfl) rfl [86, 88, 95, 96, 97, 98] rfl (fun _ => rfl) rfl dL_law_691 ?_
        intro u_691 h_691
        dsimp only [jput, List.set_cons_zero, List.set_cons_succ, Option.toList, List.append, List.cons_append, List.nil_append, List.append_nil]
        refine J.icmp_eq g dL_law_694 (tgt := 1075) (by decide) (fun c_694 => ?_) (fun c_694 => (c_694 (by have hp := parting_eq (r := u_681.1) (m0 := u_681.2.1) (m1 := u_681.2.2.1) (m2 := u_681.2.2.2) hn hgp hfo h_681.1 h_681.2.1 h_681.2.2 hz; unfold mNo; rw [if_pos hz, if_pos hz, hp.1, hp.2.1])).elim)
        exact J.widen (Nat.le_add_right cs 1) (Nat.le_add_right sl 6) (K (⟨⟨htl, rfl, rfl⟩, ⟨hq, rfl, rfl⟩, hG, hI, ⟨hnx, hpl, hln, hpR, rfl⟩, ⟨rfl, him⟩, ⟨hsm.1, h_681.2.1, (fun j hj => by rw [h_681.1 j hj]; exact hf j hj), fun _ => h_681.2.2⟩, ⟨hsg, hMV⟩⟩))
      ·
        have hz1 : ¬ jsa (god cd) mf f n = 0 := by rw [hja]; exact nI_ne0 (by omega) (by omega)
        refine J.aload_n g dL_law_674 rfl rfl ?_
        refine J.aload_n g dL_law_675 rfl rfl ?_
        refine J.iload g dL_law_676 rfl ?_
        refine J.iconstN g 1 dL_law_678 ?_
        refine J.iaddN g dL_law_679 ?_
        refine J.sld g hX (k := i + 1) (by omega) (by omega) h1 dL_law_680 ?_
        refine J.callV0 g (c_X10_atoms_no l γ _ _ _ _ _ _ _ _ _ _ _ _ _ _ _ _ _ _ _ _ _ _ _ _ _ _ hn hT hf (Or.inl hz1)) jy_X10_atoms lm_L_88 (q0 := 0) rfl jX10.1 ⟨⟨Nat.le_of_ble_eq_true rfl, Nat.le_of_ble_eq_true rfl⟩, hcs0, hsl0⟩ (Nat.le_of_ble_eq_true rfl) rfl [0, 6, 7, 8, 9, 10] rfl rfl dL_law_681 ?_
        intro _ _
        dsimp only [jpush]
        refine J.aload_n g dL_law_684 rfl rfl ?_
        refine J.aload_n g dL_law_685 rfl rfl ?_
        refine J.iload g dL_law_686 rfl ?_
        refine J.iconstN g 1 dL_law_688 ?_
        refine J.iaddN g dL_law_689 ?_
        refine J.sld g hX (k := i + 1) (by omega) (by omega) h1 dL_law_690 ?_
        refine J.callV g (c_X11_atoms_yes l γ _ _ _ _ _ _ _ _ _ _ _ _ _ _ _ _ _ _ _ _ _ _ _ _ _ _ _ _ _ _ _ _ _ _ _ _ _ _ _ _ _ _ _ _ _ hI hw h0) jy_X11_atoms lm_L_91 (q0 := 86) rfl jX11.1 ⟨⟨Nat.le_of_ble_eq_true rfl, Nat.le_of_ble_eq_true rfl⟩, hcs0, hsl0⟩ (Nat.le_of_ble_eq_true rfl) rfl [86, 88, 95, 96, 97, 98] rfl (fun _ => rfl) rfl dL_law_691 ?_
        intro u_691 h_691
        dsimp only [jput, List.set_cons_zero, List.set_cons_succ, Option.toList, List.append, List.cons_append, List.nil_append, List.append_nil]
        refine J.icmp_eq g dL_law_694 (tgt := 1075) (by decide) (fun c_694 => ?_) (fun c_694 => (c_694 (by unfold mNo; rw [if_neg hz, if_neg hz, ite_self])).elim)
        exact J.widen (Nat.le_add_right cs 1) (Nat.le_add_right sl 6) (K (hR))
set_option maxHeartbeats 8000000 in
set_option maxRecDepth 100000 in
theorem lc_atom {l : Launch} {γ : jγ} {x : jE} {ca ma : Nat → Nat} {oa b L i cs sl : Nat} {xs : Nat → Int32} {a1 : Int32} (g : jG γ x ({ frames := 2048, cells := 601024, slots := 7293034, locals := 84000 } : Room) code RL (some .boolean)) (hX : jScr x b L xs) (hL : L ≤ 3072) (hi : i + 6 ≤ L) (hcs : cs + 1 ≤ 601024) (hsl : sl + 6 ≤ 7293034) (h1 : xs (i + 1) = a1) {dsd : Int32} {tl : Nat} {tf : Nat → Int32} {q : jRS} {cd pt od ex : Nat} {mf af : Nat → Nat} {n : Nat} {f : Nat → Nat} {trn : Nat} {trf : Nat → Nat} {oon : Nat} {oof : Nat → Nat} {nx pl : Nat} {ln : Nat → Nat} {rf : Nat → Nat → Nat} {ic il : Nat → Nat} {ik : Nat → Bool} {iff : Nat → Nat → Nat} {pn : Nat} {M W : Nat → Nat → Nat} {s0 s1 s2 s3 : Nat → Nat} {sgc wh : Nat} {m0 m1 m2 : Nat → Nat} {rn : Nat} {rfp : Nat → Nat} {sg : Nat} {C : Nat → Nat} {gl : Nat} {gf : Nat → Nat} {fl : Nat} {ff : Nat → Nat} {mth mfw mse : Int32} {mwd : Int64} {mtd msz mto mfr mso mnu mfa mpl mro msm mln : Nat} {t w r9 KF SS bf lv9 : Nat → Nat} {mik : Nat → Bool} {su : Nat → Nat} {be : Nat → Bool} {fe my : Nat → Int32} {O9 : Nat → Nat} {S9 : Nat → Bool} {LF TF C9 rn9 rb TB : Nat → Nat} {o9 : Nat → Int64} (hR : lR tl tf q cd pt od ex mf af n f nx pl ln rf ic il ik iff sgc wh m0 m1 m2 rn rfp sg C fl ff mfw mtd mfa msm t w KF SS mik)
    (K : ∀ {dsd : Int32} {tl : Nat} {tf : Nat → Int32} {q : jRS} {cd pt od ex : Nat} {mf af : Nat → Nat} {n : Nat} {f : Nat → Nat} {trn : Nat} {trf : Nat → Nat} {oon : Nat} {oof : Nat → Nat} {nx pl : Nat} {ln : Nat → Nat} {rf : Nat → Nat → Nat} {ic il : Nat → Nat} {ik : Nat → Bool} {iff : Nat → Nat → Nat} {pn : Nat} {M W : Nat → Nat → Nat} {s0 s1 s2 s3 : Nat → Nat} {sgc wh : Nat} {m0 m1 m2 : Nat → Nat} {rn : Nat} {rfp : Nat → Nat} {sg : Nat} {C : Nat → Nat} {gl : Nat} {gf : Nat → Nat} {fl : Nat} {ff : Nat → Nat} {mth mfw mse : Int32} {mwd : Int64} {mtd msz mto mfr mso mnu mfa mpl mro msm mln : Nat} {t w r9 KF SS bf lv9 : Nat → Nat} {mik : Nat → Bool} {su : Nat → Nat} {be : Nat → Bool} {fe my : Nat → Int32} {O9 : Nat → Nat} {S9 : Nat → Bool} {LF TF C9 rn9 rb TB : Nat → Nat} {o9 : Nat → Int64}, lR tl tf q cd pt od ex mf af n f nx pl ln rf ic il ik iff sgc wh m0 m1 m2 rn rfp sg C fl ff mfw mtd mfa msm t w KF SS mik → J γ l x (lW γ ca ma oa dsd tl tf q cd pt od ex mf af n f trn trf oon oof nx pl ln rf ic il ik iff pn M W s0 s1 s2 s3 sgc wh m0 m1 m2 rn rfp sg C gl gf fl ff mth mfw mse mwd mtd msz mto mfr mso mnu mfa mpl mro msm mln t w r9 KF SS bf lv9 mik su be fe my O9 S9 LF TF C9 rn9 rb TB o9) [some (.ref b), some (.ref (ca 0)), some (.ref (ma 0)), some (.ref oa), some (.int (nI i)), none, none] [] (cs + 1) (sl + 6) 1075) : J γ l x (lW γ ca ma oa dsd tl tf q cd pt od ex mf af n f trn trf oon oof nx pl ln rf ic il ik iff pn M W s0 s1 s2 s3 sgc wh m0 m1 m2 rn rfp sg C gl gf fl ff mth mfw mse mwd mtd msz mto mfr mso mnu mfa mpl mro msm mln t w r9 KF SS bf lv9 mik su be fe my O9 S9 LF TF C9 rn9 rb TB o9) [some (.ref b), some (.ref (ca 0)), some (.ref (ma 0)), some (.ref oa), some (.int (nI i)), none, none] [] cs sl 699 := by
  obtain ⟨⟨htl, ht, hmtd⟩, ⟨hq, hmfa, hmfw⟩, hG, hI, ⟨hnx, hpl, hln, hpR, hmsm⟩, ⟨hmik, him⟩, ⟨hsgc, hPB, hPf, hPV⟩, hsg, hMV⟩ := id hR
  subst ht
  obtain rfl : tl = mtd := hmtd.symm
  subst hmfa
  subst hmfw
  obtain rfl : pl = msm := hmsm.symm
  obtain rfl : ik = mik := hmik.symm
  obtain ⟨hcd, hpt, hod, hex, hmfe, hafe⟩ := id hG
  subst hpt
  subst hod
  subst hex
  have hT := hG.tab
  have hn := hI.2.2.2.2.1
  have hfo := hI.2.2.2.2.2.2
  have hsm := g_small cd hcd
  have hf : ∀ j, j < n → f j < 24 := fun j hj => Nat.lt_of_lt_of_le (hfo j hj) hsm.2.1
  have hJ := jpl_cd hG
  have hO := jop_cd hG
  have hinv : ∀ a, a < god cd → ∀ c, c < god cd → jpl (god cd) mf (jpl (god cd) mf c a) (jop (god cd) af a) = c := fun a ha c hc => by rw [hJ, hO]; exact gP_can hcd ha hc
  have hcs0 : cs ≤ 601024 := by omega
  have hsl0 : sl ≤ 7293034 := by omega
  dsimp only [lW]
  by_cases h0 : n = 0
  ·
    have hz1 : ¬ jsa (god cd) mf f n = 0 := by unfold jsa; rw [if_pos h0]; decide
    refine J.aload_n g dL_law_699 rfl rfl ?_
    refine J.aload_n g dL_law_700 rfl rfl ?_
    refine J.iload g dL_law_701 rfl ?_
    refine J.iconstN g 1 dL_law_703 ?_
    refine J.iaddN g dL_law_704 ?_
    refine J.sld g hX (k := i + 1) (by omega) (by omega) h1 dL_law_705 ?_
    refine J.callV0 g (c_X10_atom_no l γ _ _ _ _ _ _ _ _ _ _ _ _ _ _ _ _ _ _ _ _ _ _ _ _ _ _ hn hT hf (Or.inl hz1)) jy_X10_atom lm_L_92 (q0 := 0) rfl jX10.1 ⟨⟨Nat.le_of_ble_eq_true rfl, Nat.le_of_ble_eq_true rfl⟩, hcs0, hsl0⟩ (Nat.le_of_ble_eq_true rfl) rfl [0, 6, 7, 8, 9, 10] rfl rfl dL_law_706 ?_
    intro _ _
    dsimp only [jpush]
    refine J.aload_n g dL_law_709 rfl rfl ?_
    refine J.aload_n g dL_law_710 rfl rfl ?_
    refine J.iload g dL_law_711 rfl ?_
    refine J.iconstN g 1 dL_law_713 ?_
    refine J.iaddN g dL_law_714 ?_
    refine J.sld g hX (k := i + 1) (by omega) (by omega) h1 dL_law_715 ?_
    refine J.callV g (c_X11_atom_0 l γ _ _ _ _ _ _ _ _ _ _ _ _ _ _ _ _ _ _ _ _ _ _ _ _ _ _ _ _ _ _ _ _ _ _ _ _ _ _ _ _ _ hI h0) jy_X11_atom lm_L_95 (q0 := 86) rfl jX11.1 ⟨⟨Nat.le_of_ble_eq_true rfl, Nat.le_of_ble_eq_true rfl⟩, hcs0, hsl0⟩ (Nat.le_of_ble_eq_true rfl) rfl [86, 88] rfl (fun _ => rfl) rfl dL_law_716 ?_
    intro _ _
    dsimp only [jput, List.set_cons_zero, List.set_cons_succ, Option.toList, List.append, List.cons_append, List.nil_append, List.append_nil]
    refine J.icmp_eq g dL_law_719 (tgt := 1075) (by decide) (fun c_719 => ?_) (fun c_719 => (c_719 (rfl)).elim)
    exact J.widen (Nat.le_add_right cs 1) (Nat.le_add_right sl 6) (K (hR))
  ·
    have hja : jsa (god cd) mf f n = nI (gS cd f n (2 ^ n - 1)) := by rw [jsa_t hJ]; unfold jsa; rw [if_neg h0]; rfl
    have hg24 := gS_lt1 (s := 2 ^ n - 1) hcd n hfo
    have hgp : 0 < god cd := Nat.lt_of_le_of_lt (Nat.zero_le _) (hfo 0 (by omega))
    by_cases hz : gS cd f n (2 ^ n - 1) = 0
    ·
      have hz0 : jsa (god cd) mf f n = 0 := by rw [hja, hz]; rfl
      by_cases hneg : a1 < 0
      ·
        refine J.aload_n g dL_law_699 rfl rfl ?_
        refine J.aload_n g dL_law_700 rfl rfl ?_
        refine J.iload g dL_law_701 rfl ?_
        refine J.iconstN g 1 dL_law_703 ?_
        refine J.iaddN g dL_law_704 ?_
        refine J.sld g hX (k := i + 1) (by omega) (by omega) h1 dL_law_705 ?_
        refine J.callV0 g (c_X10_atom_no l γ _ _ _ _ _ _ _ _ _ _ _ _ _ _ _ _ _ _ _ _ _ _ _ _ _ _ hn hT hf (Or.inr hneg)) jy_X10_atom lm_L_92 (q0 := 0) rfl jX10.1 ⟨⟨Nat.le_of_ble_eq_true rfl, Nat.le_of_ble_eq_true rfl⟩, hcs0, hsl0⟩ (Nat.le_of_ble_eq_true rfl) rfl [0, 6, 7, 8, 9, 10] rfl rfl dL_law_706 ?_
        intro _ _
        dsimp only [jpush]
        refine J.aload_n g dL_law_709 rfl rfl ?_
        refine J.aload_n g dL_law_710 rfl rfl ?_
        refine J.iload g dL_law_711 rfl ?_
        refine J.iconstN g 1 dL_law_713 ?_
        refine J.iaddN g dL_law_714 ?_
        refine J.sld g hX (k := i + 1) (by omega) (by omega) h1 dL_law_715 ?_
        refine J.callV g (c_X11_atom_no l γ _ _ _ _ _ _ _ _ _ _ _ _ _ _ _ _ _ _ _ _ _ _ _ _ _ _ _ _ _ _ _ _ _ _ _ _ _ _ _ _ _ _ _ _ _ hI h0 (fun z => by rw [jhas_f1 hneg] at z; cases z.2)) jy_X11_atom lm_L_95 (q0 := 86) rfl jX11.1 ⟨⟨Nat.le_of_ble_eq_true rfl, Nat.le_of_ble_eq_true rfl⟩, hcs0, hsl0⟩ (Nat.le_of_ble_eq_true rfl) rfl [86, 88, 95, 96, 97, 98] rfl (fun _ => rfl) rfl dL_law_716 ?_
        intro u_716 h_716
        dsimp only [jput, List.set_cons_zero, List.set_cons_succ, Option.toList, List.append, List.cons_append, List.nil_append, List.append_nil]
        refine J.icmp_eq g dL_law_719 (tgt := 1075) (by decide) (fun c_719 => ?_) (fun c_719 => (c_719 (rfl)).elim)
        exact J.widen (Nat.le_add_right cs 1) (Nat.le_add_right sl 6) (K (hR))
      ·
        obtain ⟨k, hk, rfl⟩ := nI_of hneg
        by_cases hm9 : k < mMx cd f n (2 ^ n - 1)
        ·
          refine J.aload_n g dL_law_699 rfl rfl ?_
          refine J.aload_n g dL_law_700 rfl rfl ?_
          refine J.iload g dL_law_701 rfl ?_
          refine J.iconstN g 1 dL_law_703 ?_
          refine J.iaddN g dL_law_704 ?_
          refine J.sld g hX (k := i + 1) (by omega) (by omega) h1 dL_law_705 ?_
          refine J.callV g (c_X10_atom_yes l γ _ _ _ _ _ _ _ _ _ _ _ _ _ _ _ _ _ _ _ _ _ _ _ _ _ _ _ _ _ _ _ _ _ _ _ _ _ _ hn hT hf hG hsgc hPB hPf hPV hz0 hk) jy_X10_atom lm_L_92 (q0 := 0) rfl jX10.1 ⟨⟨Nat.le_of_ble_eq_true rfl, Nat.le_of_ble_eq_true rfl⟩, hcs0, hsl0⟩ (Nat.le_of_ble_eq_true rfl) rfl [0, 74, 75, 76, 77, 78, 79, 6, 7, 8, 9, 10] rfl (fun _ => rfl) rfl dL_law_706 ?_
          intro u_706 h_706
          dsimp only [jput, List.set_cons_zero, List.set_cons_succ, Option.toList, List.append, List.cons_append, List.nil_append, List.append_nil]
          refine J.aload_n g dL_law_709 rfl rfl ?_
          refine J.aload_n g dL_law_710 rfl rfl ?_
          refine J.iload g dL_law_711 rfl ?_
          refine J.iconstN g 1 dL_law_713 ?_
          refine J.iaddN g dL_law_714 ?_
          refine J.sld g hX (k := i + 1) (by omega) (by omega) h1 dL_law_715 ?_
          refine J.callV g (c_X11_atom_yes l γ _ _ _ _ _ _ _ _ _ _ _ _ _ _ _ _ _ _ _ _ _ _ _ _ _ _ _ _ _ _ _ _ _ _ _ _ _ _ _ _ _ _ _ _ _ hI h0 hz hm9) jy_X11_atom lm_L_95 (q0 := 86) rfl jX11.1 ⟨⟨Nat.le_of_ble_eq_true rfl, Nat.le_of_ble_eq_true rfl⟩, hcs0, hsl0⟩ (Nat.le_of_ble_eq_true rfl) rfl [86, 88, 95, 96, 97, 98] rfl (fun _ => rfl) rfl dL_law_716 ?_
          intro u_716 h_716
          dsimp only [jput, List.set_cons_zero, List.set_cons_succ, Option.toList, List.append, List.cons_append, List.nil_append, List.append_nil]
          refine J.icmp_eq g dL_law_719 (tgt := 1075) (by decide) (fun c_719 => ?_) (fun c_719 => (c_719 (by have hp := parting_eq (r := u_706.1) (m0 := u_706.2.1) (m1 := u_706.2.2.1) (m2 := u_706.2.2.2) hn hgp hfo h_706.1 h_706.2.1 h_706.2.2 hz; rw [hp.2.1, if_pos hm9]; exact hp.2.2 k hm9)).elim)
          exact J.widen (Nat.le_add_right cs 1) (Nat.le_add_right sl 6) (K (⟨⟨htl, rfl, rfl⟩, ⟨hq, rfl, rfl⟩, hG, hI, ⟨hnx, hpl, hln, hpR, rfl⟩, ⟨rfl, him⟩, ⟨hsm.1, h_706.2.1, (fun j hj => by rw [h_706.1 j hj]; exact hf j hj), fun _ => h_706.2.2⟩, ⟨hsg, hMV⟩⟩))
        ·
          refine J.aload_n g dL_law_699 rfl rfl ?_
          refine J.aload_n g dL_law_700 rfl rfl ?_
          refine J.iload g dL_law_701 rfl ?_
          refine J.iconstN g 1 dL_law_703 ?_
          refine J.iaddN g dL_law_704 ?_
          refine J.sld g hX (k := i + 1) (by omega) (by omega) h1 dL_law_705 ?_
          refine J.callV g (c_X10_atom_yes l γ _ _ _ _ _ _ _ _ _ _ _ _ _ _ _ _ _ _ _ _ _ _ _ _ _ _ _ _ _ _ _ _ _ _ _ _ _ _ hn hT hf hG hsgc hPB hPf hPV hz0 hk) jy_X10_atom lm_L_92 (q0 := 0) rfl jX10.1 ⟨⟨Nat.le_of_ble_eq_true rfl, Nat.le_of_ble_eq_true rfl⟩, hcs0, hsl0⟩ (Nat.le_of_ble_eq_true rfl) rfl [0, 74, 75, 76, 77, 78, 79, 6, 7, 8, 9, 10] rfl (fun _ => rfl) rfl dL_law_706 ?_
          intro u_706 h_706
          dsimp only [jput, List.set_cons_zero, List.set_cons_succ, Option.toList, List.append, List.cons_append, List.nil_append, List.append_nil]
          refine J.aload_n g dL_law_709 rfl rfl ?_
          refine J.aload_n g dL_law_710 rfl rfl ?_
          refine J.iload g dL_law_711 rfl ?_
          refine J.iconstN g 1 dL_law_713 ?_
          refine J.iaddN g dL_law_714 ?_
          refine J.sld g hX (k := i + 1) (by omega) (by omega) h1 dL_law_715 ?_
          refine J.callV g (c_X11_atom_no l γ _ _ _ _ _ _ _ _ _ _ _ _ _ _ _ _ _ _ _ _ _ _ _ _ _ _ _ _ _ _ _ _ _ _ _ _ _ _ _ _ _ _ _ _ _ hI h0 (fun z => hm9 (by have z2 := z.2; rw [jhas_n _ hk] at z2; exact of_decide_eq_true z2))) jy_X11_atom lm_L_95 (q0 := 86) rfl jX11.1 ⟨⟨Nat.le_of_ble_eq_true rfl, Nat.le_of_ble_eq_true rfl⟩, hcs0, hsl0⟩ (Nat.le_of_ble_eq_true rfl) rfl [86, 88, 95, 96, 97, 98] rfl (fun _ => rfl) rfl dL_law_716 ?_
          intro u_716 h_716
          dsimp only [jput, List.set_cons_zero, List.set_cons_succ, Option.toList, List.append, List.cons_append, List.nil_append, List.append_nil]
          refine J.icmp_eq g dL_law_719 (tgt := 1075) (by decide) (fun c_719 => ?_) (fun c_719 => (c_719 (by have hp := parting_eq (r := u_706.1) (m0 := u_706.2.1) (m1 := u_706.2.2.1) (m2 := u_706.2.2.2) hn hgp hfo h_706.1 h_706.2.1 h_706.2.2 hz; rw [hp.2.1, if_neg hm9])).elim)
          exact J.widen (Nat.le_add_right cs 1) (Nat.le_add_right sl 6) (K (⟨⟨htl, rfl, rfl⟩, ⟨hq, rfl, rfl⟩, hG, hI, ⟨hnx, hpl, hln, hpR, rfl⟩, ⟨rfl, him⟩, ⟨hsm.1, h_706.2.1, (fun j hj => by rw [h_706.1 j hj]; exact hf j hj), fun _ => h_706.2.2⟩, ⟨hsg, hMV⟩⟩))
    ·
      have hz1 : ¬ jsa (god cd) mf f n = 0 := by rw [hja]; exact nI_ne0 (by omega) (by omega)
      refine J.aload_n g dL_law_699 rfl rfl ?_
      refine J.aload_n g dL_law_700 rfl rfl ?_
      refine J.iload g dL_law_701 rfl ?_
      refine J.iconstN g 1 dL_law_703 ?_
      refine J.iaddN g dL_law_704 ?_
      refine J.sld g hX (k := i + 1) (by omega) (by omega) h1 dL_law_705 ?_
      refine J.callV0 g (c_X10_atom_no l γ _ _ _ _ _ _ _ _ _ _ _ _ _ _ _ _ _ _ _ _ _ _ _ _ _ _ hn hT hf (Or.inl hz1)) jy_X10_atom lm_L_92 (q0 := 0) rfl jX10.1 ⟨⟨Nat.le_of_ble_eq_true rfl, Nat.le_of_ble_eq_true rfl⟩, hcs0, hsl0⟩ (Nat.le_of_ble_eq_true rfl) rfl [0, 6, 7, 8, 9, 10] rfl rfl dL_law_706 ?_
      intro _ _
      dsimp only [jpush]
      refine J.aload_n g dL_law_709 rfl rfl ?_
      refine J.aload_n g dL_law_710 rfl rfl ?_
      refine J.iload g dL_law_711 rfl ?_
      refine J.iconstN g 1 dL_law_713 ?_
      refine J.iaddN g dL_law_714 ?_
      refine J.sld g hX (k := i + 1) (by omega) (by omega) h1 dL_law_715 ?_
      refine J.callV g (c_X11_atom_no l γ _ _ _ _ _ _ _ _ _ _ _ _ _ _ _ _ _ _ _ _ _ _ _ _ _ _ _ _ _ _ _ _ _ _ _ _ _ _ _ _ _ _ _ _ _ hI h0 (fun z => hz z.1)) jy_X11_atom lm_L_95 (q0 := 86) rfl jX11.1 ⟨⟨Nat.le_of_ble_eq_true rfl, Nat.le_of_ble_eq_true rfl⟩, hcs0, hsl0⟩ (Nat.le_of_ble_eq_true rfl) rfl [86, 88, 95, 96, 97, 98] rfl (fun _ => rfl) rfl dL_law_716 ?_
      intro u_716 h_716
      dsimp only [jput, List.set_cons_zero, List.set_cons_succ, Option.toList, List.append, List.cons_append, List.nil_append, List.append_nil]
      refine J.icmp_eq g dL_law_719 (tgt := 1075) (by decide) (fun c_719 => ?_) (fun c_719 => (c_719 (rfl)).elim)
      exact J.widen (Nat.le_add_right cs 1) (Nat.le_add_right sl 6) (K (hR))
set_option maxHeartbeats 8000000 in
set_option maxRecDepth 100000 in
theorem lc_signed {l : Launch} {γ : jγ} {x : jE} {ca ma : Nat → Nat} {oa b L i cs sl : Nat} {xs : Nat → Int32} {a1 : Int32} (g : jG γ x ({ frames := 2048, cells := 601024, slots := 7293034, locals := 84000 } : Room) code RL (some .boolean)) (hX : jScr x b L xs) (hL : L ≤ 3072) (hi : i + 6 ≤ L) (hcs : cs + 1 ≤ 601024) (hsl : sl + 6 ≤ 7293034) (h1 : xs (i + 1) = a1) {dsd : Int32} {tl : Nat} {tf : Nat → Int32} {q : jRS} {cd pt od ex : Nat} {mf af : Nat → Nat} {n : Nat} {f : Nat → Nat} {trn : Nat} {trf : Nat → Nat} {oon : Nat} {oof : Nat → Nat} {nx pl : Nat} {ln : Nat → Nat} {rf : Nat → Nat → Nat} {ic il : Nat → Nat} {ik : Nat → Bool} {iff : Nat → Nat → Nat} {pn : Nat} {M W : Nat → Nat → Nat} {s0 s1 s2 s3 : Nat → Nat} {sgc wh : Nat} {m0 m1 m2 : Nat → Nat} {rn : Nat} {rfp : Nat → Nat} {sg : Nat} {C : Nat → Nat} {gl : Nat} {gf : Nat → Nat} {fl : Nat} {ff : Nat → Nat} {mth mfw mse : Int32} {mwd : Int64} {mtd msz mto mfr mso mnu mfa mpl mro msm mln : Nat} {t w r9 KF SS bf lv9 : Nat → Nat} {mik : Nat → Bool} {su : Nat → Nat} {be : Nat → Bool} {fe my : Nat → Int32} {O9 : Nat → Nat} {S9 : Nat → Bool} {LF TF C9 rn9 rb TB : Nat → Nat} {o9 : Nat → Int64} (hR : lR tl tf q cd pt od ex mf af n f nx pl ln rf ic il ik iff sgc wh m0 m1 m2 rn rfp sg C fl ff mfw mtd mfa msm t w KF SS mik)
    (K : ∀ {dsd : Int32} {tl : Nat} {tf : Nat → Int32} {q : jRS} {cd pt od ex : Nat} {mf af : Nat → Nat} {n : Nat} {f : Nat → Nat} {trn : Nat} {trf : Nat → Nat} {oon : Nat} {oof : Nat → Nat} {nx pl : Nat} {ln : Nat → Nat} {rf : Nat → Nat → Nat} {ic il : Nat → Nat} {ik : Nat → Bool} {iff : Nat → Nat → Nat} {pn : Nat} {M W : Nat → Nat → Nat} {s0 s1 s2 s3 : Nat → Nat} {sgc wh : Nat} {m0 m1 m2 : Nat → Nat} {rn : Nat} {rfp : Nat → Nat} {sg : Nat} {C : Nat → Nat} {gl : Nat} {gf : Nat → Nat} {fl : Nat} {ff : Nat → Nat} {mth mfw mse : Int32} {mwd : Int64} {mtd msz mto mfr mso mnu mfa mpl mro msm mln : Nat} {t w r9 KF SS bf lv9 : Nat → Nat} {mik : Nat → Bool} {su : Nat → Nat} {be : Nat → Bool} {fe my : Nat → Int32} {O9 : Nat → Nat} {S9 : Nat → Bool} {LF TF C9 rn9 rb TB : Nat → Nat} {o9 : Nat → Int64}, lR tl tf q cd pt od ex mf af n f nx pl ln rf ic il ik iff sgc wh m0 m1 m2 rn rfp sg C fl ff mfw mtd mfa msm t w KF SS mik → J γ l x (lW γ ca ma oa dsd tl tf q cd pt od ex mf af n f trn trf oon oof nx pl ln rf ic il ik iff pn M W s0 s1 s2 s3 sgc wh m0 m1 m2 rn rfp sg C gl gf fl ff mth mfw mse mwd mtd msz mto mfr mso mnu mfa mpl mro msm mln t w r9 KF SS bf lv9 mik su be fe my O9 S9 LF TF C9 rn9 rb TB o9) [some (.ref b), some (.ref (ca 0)), some (.ref (ma 0)), some (.ref oa), some (.int (nI i)), none, none] [] (cs + 1) (sl + 6) 1075) : J γ l x (lW γ ca ma oa dsd tl tf q cd pt od ex mf af n f trn trf oon oof nx pl ln rf ic il ik iff pn M W s0 s1 s2 s3 sgc wh m0 m1 m2 rn rfp sg C gl gf fl ff mth mfw mse mwd mtd msz mto mfr mso mnu mfa mpl mro msm mln t w r9 KF SS bf lv9 mik su be fe my O9 S9 LF TF C9 rn9 rb TB o9) [some (.ref b), some (.ref (ca 0)), some (.ref (ma 0)), some (.ref oa), some (.int (nI i)), none, none] [] cs sl 724 := by
  obtain ⟨⟨htl, ht, hmtd⟩, ⟨hq, hmfa, hmfw⟩, hG, hI, ⟨hnx, hpl, hln, hpR, hmsm⟩, ⟨hmik, him⟩, ⟨hsgc, hPB, hPf, hPV⟩, hsg, hMV⟩ := id hR
  subst ht
  obtain rfl : tl = mtd := hmtd.symm
  subst hmfa
  subst hmfw
  obtain rfl : pl = msm := hmsm.symm
  obtain rfl : ik = mik := hmik.symm
  obtain ⟨hcd, hpt, hod, hex, hmfe, hafe⟩ := id hG
  subst hpt
  subst hod
  subst hex
  have hT := hG.tab
  have hn := hI.2.2.2.2.1
  have hfo := hI.2.2.2.2.2.2
  have hsm := g_small cd hcd
  have hf : ∀ j, j < n → f j < 24 := fun j hj => Nat.lt_of_lt_of_le (hfo j hj) hsm.2.1
  have hJ := jpl_cd hG
  have hO := jop_cd hG
  have hinv : ∀ a, a < god cd → ∀ c, c < god cd → jpl (god cd) mf (jpl (god cd) mf c a) (jop (god cd) af a) = c := fun a ha c hc => by rw [hJ, hO]; exact gP_can hcd ha hc
  have hcs0 : cs ≤ 601024 := by omega
  have hsl0 : sl ≤ 7293034 := by omega
  dsimp only [lW]
  cases hc : jhas a1 (god cd) with
  | false =>
    refine J.aload_n g dL_law_724 rfl rfl ?_
    refine J.aload_n g dL_law_725 rfl rfl ?_
    refine J.iload g dL_law_726 rfl ?_
    refine J.iconstN g 1 dL_law_728 ?_
    refine J.iaddN g dL_law_729 ?_
    refine J.sld g hX (k := i + 1) (by omega) (by omega) h1 dL_law_730 ?_
    refine J.callV0 g (c_X10_signed_no l γ _ _ _ _ _ _ _ _ _ _ _ _ _ _ _ _ _ _ _ _ _ _ _ hsm.2.1 hc) jy_X10_signed lm_L_96 (q0 := 0) rfl jX10.1 ⟨⟨Nat.le_of_ble_eq_true rfl, Nat.le_of_ble_eq_true rfl⟩, hcs0, hsl0⟩ (Nat.le_of_ble_eq_true rfl) rfl [0, 6, 7, 8] rfl rfl dL_law_731 ?_
    intro _ _
    dsimp only [jpush]
    refine J.aload_n g dL_law_734 rfl rfl ?_
    refine J.aload_n g dL_law_735 rfl rfl ?_
    refine J.iload g dL_law_736 rfl ?_
    refine J.iconstN g 1 dL_law_738 ?_
    refine J.iaddN g dL_law_739 ?_
    refine J.sld g hX (k := i + 1) (by omega) (by omega) h1 dL_law_740 ?_
    refine J.callV g (c_X11_signed_no l γ _ _ _ _ _ _ _ _ _ _ _ _ _ _ _ _ _ _ _ _ _ _ _ _ _ _ _ _ _ _ _ _ _ _ _ _ _ _ _ _ _ hI hc) jy_X11_signed lm_L_99 (q0 := 86) rfl jX11.1 ⟨⟨Nat.le_of_ble_eq_true rfl, Nat.le_of_ble_eq_true rfl⟩, hcs0, hsl0⟩ (Nat.le_of_ble_eq_true rfl) rfl [86, 88] rfl (fun _ => rfl) rfl dL_law_741 ?_
    intro _ _
    dsimp only [jput, List.set_cons_zero, List.set_cons_succ, Option.toList, List.append, List.cons_append, List.nil_append, List.append_nil]
    refine J.icmp_eq g dL_law_744 (tgt := 1075) (by decide) (fun c_744 => ?_) (fun c_744 => (c_744 (rfl)).elim)
    exact J.widen (Nat.le_add_right cs 1) (Nat.le_add_right sl 6) (K (hR))
  | true =>
    obtain ⟨k, hk, rfl⟩ := jhas_t hc
    refine J.aload_n g dL_law_724 rfl rfl ?_
    refine J.aload_n g dL_law_725 rfl rfl ?_
    refine J.iload g dL_law_726 rfl ?_
    refine J.iconstN g 1 dL_law_728 ?_
    refine J.iaddN g dL_law_729 ?_
    refine J.sld g hX (k := i + 1) (by omega) (by omega) h1 dL_law_730 ?_
    refine J.callV g (c_X10_signed_yes l γ _ _ _ _ _ _ _ _ _ _ _ _ _ _ _ _ _ _ _ _ _ _ _ _ _ _ _ _ _ _ _ _ _ _ hn hT hf hk) jy_X10_signed lm_L_96 (q0 := 0) rfl jX10.1 ⟨⟨Nat.le_of_ble_eq_true rfl, Nat.le_of_ble_eq_true rfl⟩, hcs0, hsl0⟩ (Nat.le_of_ble_eq_true rfl) rfl [0, 69, 70, 71, 72, 73, 9, 10, 6, 7, 8] rfl (fun _ => rfl) rfl dL_law_731 ?_
    intro u_731 h_731
    dsimp only [jput, List.set_cons_zero, List.set_cons_succ, Option.toList, List.append, List.cons_append, List.nil_append, List.append_nil]
    refine J.aload_n g dL_law_734 rfl rfl ?_
    refine J.aload_n g dL_law_735 rfl rfl ?_
    refine J.iload g dL_law_736 rfl ?_
    refine J.iconstN g 1 dL_law_738 ?_
    refine J.iaddN g dL_law_739 ?_
    refine J.sld g hX (k := i + 1) (by omega) (by omega) h1 dL_law_740 ?_
    refine J.callV g (c_X11_signed_yes l γ _ _ _ _ _ _ _ _ _ _ _ _ _ _ _ _ _ _ _ _ _ _ _ _ _ _ _ _ _ _ _ _ _ _ _ _ _ _ _ _ _ _ _ hI hk) jy_X11_signed lm_L_99 (q0 := 86) rfl jX11.1 ⟨⟨Nat.le_of_ble_eq_true rfl, Nat.le_of_ble_eq_true rfl⟩, hcs0, hsl0⟩ (Nat.le_of_ble_eq_true rfl) rfl [86, 88, 99, 100] rfl (fun _ => rfl) rfl dL_law_741 ?_
    intro u_741 h_741
    dsimp only [jput, List.set_cons_zero, List.set_cons_succ, Option.toList, List.append, List.cons_append, List.nil_append, List.append_nil]
    refine J.icmp_eq g dL_law_744 (tgt := 1075) (by decide) (fun c_744 => ?_) (fun c_744 => (c_744 (by rw [jcsub_t hJ hO]; exact signed_eq hcd hfo hk)).elim)
    exact J.widen (Nat.le_add_right cs 1) (Nat.le_add_right sl 6) (K (hR))
set_option maxHeartbeats 8000000 in
set_option maxRecDepth 100000 in
theorem lc_sign {l : Launch} {γ : jγ} {x : jE} {ca ma : Nat → Nat} {oa b L i cs sl : Nat} {xs : Nat → Int32} {a1 a2 : Int32} (g : jG γ x ({ frames := 2048, cells := 601024, slots := 7293034, locals := 84000 } : Room) code RL (some .boolean)) (hX : jScr x b L xs) (hL : L ≤ 3072) (hi : i + 6 ≤ L) (hcs : cs + 1 ≤ 601024) (hsl : sl + 6 ≤ 7293034) (h1 : xs (i + 1) = a1) (h2 : xs (i + 2) = a2) {dsd : Int32} {tl : Nat} {tf : Nat → Int32} {q : jRS} {cd pt od ex : Nat} {mf af : Nat → Nat} {n : Nat} {f : Nat → Nat} {trn : Nat} {trf : Nat → Nat} {oon : Nat} {oof : Nat → Nat} {nx pl : Nat} {ln : Nat → Nat} {rf : Nat → Nat → Nat} {ic il : Nat → Nat} {ik : Nat → Bool} {iff : Nat → Nat → Nat} {pn : Nat} {M W : Nat → Nat → Nat} {s0 s1 s2 s3 : Nat → Nat} {sgc wh : Nat} {m0 m1 m2 : Nat → Nat} {rn : Nat} {rfp : Nat → Nat} {sg : Nat} {C : Nat → Nat} {gl : Nat} {gf : Nat → Nat} {fl : Nat} {ff : Nat → Nat} {mth mfw mse : Int32} {mwd : Int64} {mtd msz mto mfr mso mnu mfa mpl mro msm mln : Nat} {t w r9 KF SS bf lv9 : Nat → Nat} {mik : Nat → Bool} {su : Nat → Nat} {be : Nat → Bool} {fe my : Nat → Int32} {O9 : Nat → Nat} {S9 : Nat → Bool} {LF TF C9 rn9 rb TB : Nat → Nat} {o9 : Nat → Int64} (hR : lR tl tf q cd pt od ex mf af n f nx pl ln rf ic il ik iff sgc wh m0 m1 m2 rn rfp sg C fl ff mfw mtd mfa msm t w KF SS mik)
    (K : ∀ {dsd : Int32} {tl : Nat} {tf : Nat → Int32} {q : jRS} {cd pt od ex : Nat} {mf af : Nat → Nat} {n : Nat} {f : Nat → Nat} {trn : Nat} {trf : Nat → Nat} {oon : Nat} {oof : Nat → Nat} {nx pl : Nat} {ln : Nat → Nat} {rf : Nat → Nat → Nat} {ic il : Nat → Nat} {ik : Nat → Bool} {iff : Nat → Nat → Nat} {pn : Nat} {M W : Nat → Nat → Nat} {s0 s1 s2 s3 : Nat → Nat} {sgc wh : Nat} {m0 m1 m2 : Nat → Nat} {rn : Nat} {rfp : Nat → Nat} {sg : Nat} {C : Nat → Nat} {gl : Nat} {gf : Nat → Nat} {fl : Nat} {ff : Nat → Nat} {mth mfw mse : Int32} {mwd : Int64} {mtd msz mto mfr mso mnu mfa mpl mro msm mln : Nat} {t w r9 KF SS bf lv9 : Nat → Nat} {mik : Nat → Bool} {su : Nat → Nat} {be : Nat → Bool} {fe my : Nat → Int32} {O9 : Nat → Nat} {S9 : Nat → Bool} {LF TF C9 rn9 rb TB : Nat → Nat} {o9 : Nat → Int64}, lR tl tf q cd pt od ex mf af n f nx pl ln rf ic il ik iff sgc wh m0 m1 m2 rn rfp sg C fl ff mfw mtd mfa msm t w KF SS mik → J γ l x (lW γ ca ma oa dsd tl tf q cd pt od ex mf af n f trn trf oon oof nx pl ln rf ic il ik iff pn M W s0 s1 s2 s3 sgc wh m0 m1 m2 rn rfp sg C gl gf fl ff mth mfw mse mwd mtd msz mto mfr mso mnu mfa mpl mro msm mln t w r9 KF SS bf lv9 mik su be fe my O9 S9 LF TF C9 rn9 rb TB o9) [some (.ref b), some (.ref (ca 0)), some (.ref (ma 0)), some (.ref oa), some (.int (nI i)), none, none] [] (cs + 1) (sl + 6) 1075) : J γ l x (lW γ ca ma oa dsd tl tf q cd pt od ex mf af n f trn trf oon oof nx pl ln rf ic il ik iff pn M W s0 s1 s2 s3 sgc wh m0 m1 m2 rn rfp sg C gl gf fl ff mth mfw mse mwd mtd msz mto mfr mso mnu mfa mpl mro msm mln t w r9 KF SS bf lv9 mik su be fe my O9 S9 LF TF C9 rn9 rb TB o9) [some (.ref b), some (.ref (ca 0)), some (.ref (ma 0)), some (.ref oa), some (.int (nI i)), none, none] [] cs sl 749 := by
  obtain ⟨⟨htl, ht, hmtd⟩, ⟨hq, hmfa, hmfw⟩, hG, hI, ⟨hnx, hpl, hln, hpR, hmsm⟩, ⟨hmik, him⟩, ⟨hsgc, hPB, hPf, hPV⟩, hsg, hMV⟩ := id hR
  subst ht
  obtain rfl : tl = mtd := hmtd.symm
  subst hmfa
  subst hmfw
  obtain rfl : pl = msm := hmsm.symm
  obtain rfl : ik = mik := hmik.symm
  obtain ⟨hcd, hpt, hod, hex, hmfe, hafe⟩ := id hG
  subst hpt
  subst hod
  subst hex
  have hT := hG.tab
  have hn := hI.2.2.2.2.1
  have hfo := hI.2.2.2.2.2.2
  have hsm := g_small cd hcd
  have hf : ∀ j, j < n → f j < 24 := fun j hj => Nat.lt_of_lt_of_le (hfo j hj) hsm.2.1
  have hJ := jpl_cd hG
  have hO := jop_cd hG
  have hinv : ∀ a, a < god cd → ∀ c, c < god cd → jpl (god cd) mf (jpl (god cd) mf c a) (jop (god cd) af a) = c := fun a ha c hc => by rw [hJ, hO]; exact gP_can hcd ha hc
  have hcs0 : cs ≤ 601024 := by omega
  have hsl0 : sl ≤ 7293034 := by omega
  dsimp only [lW]
  cases hc : jhas a1 (god cd) with
  | false =>
    refine J.aload_n g dL_law_749 rfl rfl ?_
    refine J.aload_n g dL_law_750 rfl rfl ?_
    refine J.iload g dL_law_751 rfl ?_
    refine J.iconstN g 1 dL_law_753 ?_
    refine J.iaddN g dL_law_754 ?_
    refine J.sld g hX (k := i + 1) (by omega) (by omega) h1 dL_law_755 ?_
    refine J.aload_n g dL_law_756 rfl rfl ?_
    refine J.iload g dL_law_757 rfl ?_
    refine J.iconstN g 2 dL_law_759 ?_
    refine J.iaddN g dL_law_760 ?_
    refine J.sld g hX (k := i + 2) (by omega) (by omega) h2 dL_law_761 ?_
    refine J.callV0 g (c_X10_sign_no l γ _ _ _ _ _ _ _ _ _ _ _ _ _ _ _ _ _ _ _ _ _ _ _ _ _ _ _ hn hsm.2.1 (Or.inl hc)) jy_X10_sign lm_L_100 (q0 := 0) rfl jX10.1 ⟨⟨Nat.le_of_ble_eq_true rfl, Nat.le_of_ble_eq_true rfl⟩, hcs0, hsl0⟩ (Nat.le_of_ble_eq_true rfl) rfl [0, 9, 10, 6, 7, 8] rfl rfl dL_law_762 ?_
    intro _ _
    dsimp only [jpush]
    refine J.aload_n g dL_law_765 rfl rfl ?_
    refine J.aload_n g dL_law_766 rfl rfl ?_
    refine J.iload g dL_law_767 rfl ?_
    refine J.iconstN g 1 dL_law_769 ?_
    refine J.iaddN g dL_law_770 ?_
    refine J.sld g hX (k := i + 1) (by omega) (by omega) h1 dL_law_771 ?_
    refine J.aload_n g dL_law_772 rfl rfl ?_
    refine J.iload g dL_law_773 rfl ?_
    refine J.iconstN g 2 dL_law_775 ?_
    refine J.iaddN g dL_law_776 ?_
    refine J.sld g hX (k := i + 2) (by omega) (by omega) h2 dL_law_777 ?_
    refine J.callV g (c_X11_sign_no l γ _ _ _ _ _ _ _ _ _ _ _ _ _ _ _ _ _ _ _ _ _ _ _ _ _ _ _ _ _ _ _ _ _ _ _ _ _ _ _ _ _ _ hI (Or.inl hc)) jy_X11_sign lm_L_103 (q0 := 86) rfl jX11.1 ⟨⟨Nat.le_of_ble_eq_true rfl, Nat.le_of_ble_eq_true rfl⟩, hcs0, hsl0⟩ (Nat.le_of_ble_eq_true rfl) rfl [86, 88] rfl (fun _ => rfl) rfl dL_law_778 ?_
    intro _ _
    dsimp only [jput, List.set_cons_zero, List.set_cons_succ, Option.toList, List.append, List.cons_append, List.nil_append, List.append_nil]
    refine J.icmp_eq g dL_law_781 (tgt := 1075) (by decide) (fun c_781 => ?_) (fun c_781 => (c_781 (rfl)).elim)
    exact J.widen (Nat.le_add_right cs 1) (Nat.le_add_right sl 6) (K (hR))
  | true =>
    obtain ⟨k, hk, rfl⟩ := jhas_t hc
    cases hw : jhas a2 (n) with
    | false =>
      refine J.aload_n g dL_law_749 rfl rfl ?_
      refine J.aload_n g dL_law_750 rfl rfl ?_
      refine J.iload g dL_law_751 rfl ?_
      refine J.iconstN g 1 dL_law_753 ?_
      refine J.iaddN g dL_law_754 ?_
      refine J.sld g hX (k := i + 1) (by omega) (by omega) h1 dL_law_755 ?_
      refine J.aload_n g dL_law_756 rfl rfl ?_
      refine J.iload g dL_law_757 rfl ?_
      refine J.iconstN g 2 dL_law_759 ?_
      refine J.iaddN g dL_law_760 ?_
      refine J.sld g hX (k := i + 2) (by omega) (by omega) h2 dL_law_761 ?_
      refine J.callV0 g (c_X10_sign_no l γ _ _ _ _ _ _ _ _ _ _ _ _ _ _ _ _ _ _ _ _ _ _ _ _ _ _ _ hn hsm.2.1 (Or.inr hw)) jy_X10_sign lm_L_100 (q0 := 0) rfl jX10.1 ⟨⟨Nat.le_of_ble_eq_true rfl, Nat.le_of_ble_eq_true rfl⟩, hcs0, hsl0⟩ (Nat.le_of_ble_eq_true rfl) rfl [0, 9, 10, 6, 7, 8] rfl rfl dL_law_762 ?_
      intro _ _
      dsimp only [jpush]
      refine J.aload_n g dL_law_765 rfl rfl ?_
      refine J.aload_n g dL_law_766 rfl rfl ?_
      refine J.iload g dL_law_767 rfl ?_
      refine J.iconstN g 1 dL_law_769 ?_
      refine J.iaddN g dL_law_770 ?_
      refine J.sld g hX (k := i + 1) (by omega) (by omega) h1 dL_law_771 ?_
      refine J.aload_n g dL_law_772 rfl rfl ?_
      refine J.iload g dL_law_773 rfl ?_
      refine J.iconstN g 2 dL_law_775 ?_
      refine J.iaddN g dL_law_776 ?_
      refine J.sld g hX (k := i + 2) (by omega) (by omega) h2 dL_law_777 ?_
      refine J.callV g (c_X11_sign_no l γ _ _ _ _ _ _ _ _ _ _ _ _ _ _ _ _ _ _ _ _ _ _ _ _ _ _ _ _ _ _ _ _ _ _ _ _ _ _ _ _ _ _ hI (Or.inr hw)) jy_X11_sign lm_L_103 (q0 := 86) rfl jX11.1 ⟨⟨Nat.le_of_ble_eq_true rfl, Nat.le_of_ble_eq_true rfl⟩, hcs0, hsl0⟩ (Nat.le_of_ble_eq_true rfl) rfl [86, 88] rfl (fun _ => rfl) rfl dL_law_778 ?_
      intro _ _
      dsimp only [jput, List.set_cons_zero, List.set_cons_succ, Option.toList, List.append, List.cons_append, List.nil_append, List.append_nil]
      refine J.icmp_eq g dL_law_781 (tgt := 1075) (by decide) (fun c_781 => ?_) (fun c_781 => (c_781 (rfl)).elim)
      exact J.widen (Nat.le_add_right cs 1) (Nat.le_add_right sl 6) (K (hR))
    | true =>
      obtain ⟨k2, hk2, rfl⟩ := jhas_t hw
      refine J.aload_n g dL_law_749 rfl rfl ?_
      refine J.aload_n g dL_law_750 rfl rfl ?_
      refine J.iload g dL_law_751 rfl ?_
      refine J.iconstN g 1 dL_law_753 ?_
      refine J.iaddN g dL_law_754 ?_
      refine J.sld g hX (k := i + 1) (by omega) (by omega) h1 dL_law_755 ?_
      refine J.aload_n g dL_law_756 rfl rfl ?_
      refine J.iload g dL_law_757 rfl ?_
      refine J.iconstN g 2 dL_law_759 ?_
      refine J.iaddN g dL_law_760 ?_
      refine J.sld g hX (k := i + 2) (by omega) (by omega) h2 dL_law_761 ?_
      refine J.callV g (c_X10_sign_yes l γ _ _ _ _ _ _ _ _ _ _ _ _ _ _ _ _ _ _ _ _ _ _ _ _ _ _ _ _ _ _ _ _ _ _ _ hn hT hf hk hk2) jy_X10_sign lm_L_100 (q0 := 0) rfl jX10.1 ⟨⟨Nat.le_of_ble_eq_true rfl, Nat.le_of_ble_eq_true rfl⟩, hcs0, hsl0⟩ (Nat.le_of_ble_eq_true rfl) rfl [0, 69, 70, 71, 72, 73, 9, 10, 6, 7, 8] rfl (fun _ => rfl) rfl dL_law_762 ?_
      intro u_762 h_762
      dsimp only [jput, List.set_cons_zero, List.set_cons_succ, Option.toList, List.append, List.cons_append, List.nil_append, List.append_nil]
      refine J.aload_n g dL_law_765 rfl rfl ?_
      refine J.aload_n g dL_law_766 rfl rfl ?_
      refine J.iload g dL_law_767 rfl ?_
      refine J.iconstN g 1 dL_law_769 ?_
      refine J.iaddN g dL_law_770 ?_
      refine J.sld g hX (k := i + 1) (by omega) (by omega) h1 dL_law_771 ?_
      refine J.aload_n g dL_law_772 rfl rfl ?_
      refine J.iload g dL_law_773 rfl ?_
      refine J.iconstN g 2 dL_law_775 ?_
      refine J.iaddN g dL_law_776 ?_
      refine J.sld g hX (k := i + 2) (by omega) (by omega) h2 dL_law_777 ?_
      refine J.callV g (c_X11_sign_yes l γ _ _ _ _ _ _ _ _ _ _ _ _ _ _ _ _ _ _ _ _ _ _ _ _ _ _ _ _ _ _ _ _ _ _ _ _ _ _ _ _ _ _ _ _ hI hk hk2) jy_X11_sign lm_L_103 (q0 := 86) rfl jX11.1 ⟨⟨Nat.le_of_ble_eq_true rfl, Nat.le_of_ble_eq_true rfl⟩, hcs0, hsl0⟩ (Nat.le_of_ble_eq_true rfl) rfl [86, 88, 99, 100] rfl (fun _ => rfl) rfl dL_law_778 ?_
      intro u_778 h_778
      dsimp only [jput, List.set_cons_zero, List.set_cons_succ, Option.toList, List.append, List.cons_append, List.nil_append, List.append_nil]
      refine J.icmp_eq g dL_law_781 (tgt := 1075) (by decide) (fun c_781 => ?_) (fun c_781 => (c_781 (by rw [jsome_t hJ hO, funext (jfr_tt hJ hO n k)]; exact sign_eq hcd hfo hk hk2)).elim)
      exact J.widen (Nat.le_add_right cs 1) (Nat.le_add_right sl 6) (K (hR))
set_option maxHeartbeats 8000000 in
set_option maxRecDepth 100000 in
theorem lc_like {l : Launch} {γ : jγ} {x : jE} {ca ma : Nat → Nat} {oa b L i cs sl : Nat} {xs : Nat → Int32} {a1 : Int32} (g : jG γ x ({ frames := 2048, cells := 601024, slots := 7293034, locals := 84000 } : Room) code RL (some .boolean)) (hX : jScr x b L xs) (hL : L ≤ 3072) (hi : i + 6 ≤ L) (hcs : cs + 1 ≤ 601024) (hsl : sl + 6 ≤ 7293034) (h1 : xs (i + 1) = a1) {dsd : Int32} {tl : Nat} {tf : Nat → Int32} {q : jRS} {cd pt od ex : Nat} {mf af : Nat → Nat} {n : Nat} {f : Nat → Nat} {trn : Nat} {trf : Nat → Nat} {oon : Nat} {oof : Nat → Nat} {nx pl : Nat} {ln : Nat → Nat} {rf : Nat → Nat → Nat} {ic il : Nat → Nat} {ik : Nat → Bool} {iff : Nat → Nat → Nat} {pn : Nat} {M W : Nat → Nat → Nat} {s0 s1 s2 s3 : Nat → Nat} {sgc wh : Nat} {m0 m1 m2 : Nat → Nat} {rn : Nat} {rfp : Nat → Nat} {sg : Nat} {C : Nat → Nat} {gl : Nat} {gf : Nat → Nat} {fl : Nat} {ff : Nat → Nat} {mth mfw mse : Int32} {mwd : Int64} {mtd msz mto mfr mso mnu mfa mpl mro msm mln : Nat} {t w r9 KF SS bf lv9 : Nat → Nat} {mik : Nat → Bool} {su : Nat → Nat} {be : Nat → Bool} {fe my : Nat → Int32} {O9 : Nat → Nat} {S9 : Nat → Bool} {LF TF C9 rn9 rb TB : Nat → Nat} {o9 : Nat → Int64} (hR : lR tl tf q cd pt od ex mf af n f nx pl ln rf ic il ik iff sgc wh m0 m1 m2 rn rfp sg C fl ff mfw mtd mfa msm t w KF SS mik)
    (K : ∀ {dsd : Int32} {tl : Nat} {tf : Nat → Int32} {q : jRS} {cd pt od ex : Nat} {mf af : Nat → Nat} {n : Nat} {f : Nat → Nat} {trn : Nat} {trf : Nat → Nat} {oon : Nat} {oof : Nat → Nat} {nx pl : Nat} {ln : Nat → Nat} {rf : Nat → Nat → Nat} {ic il : Nat → Nat} {ik : Nat → Bool} {iff : Nat → Nat → Nat} {pn : Nat} {M W : Nat → Nat → Nat} {s0 s1 s2 s3 : Nat → Nat} {sgc wh : Nat} {m0 m1 m2 : Nat → Nat} {rn : Nat} {rfp : Nat → Nat} {sg : Nat} {C : Nat → Nat} {gl : Nat} {gf : Nat → Nat} {fl : Nat} {ff : Nat → Nat} {mth mfw mse : Int32} {mwd : Int64} {mtd msz mto mfr mso mnu mfa mpl mro msm mln : Nat} {t w r9 KF SS bf lv9 : Nat → Nat} {mik : Nat → Bool} {su : Nat → Nat} {be : Nat → Bool} {fe my : Nat → Int32} {O9 : Nat → Nat} {S9 : Nat → Bool} {LF TF C9 rn9 rb TB : Nat → Nat} {o9 : Nat → Int64}, lR tl tf q cd pt od ex mf af n f nx pl ln rf ic il ik iff sgc wh m0 m1 m2 rn rfp sg C fl ff mfw mtd mfa msm t w KF SS mik → J γ l x (lW γ ca ma oa dsd tl tf q cd pt od ex mf af n f trn trf oon oof nx pl ln rf ic il ik iff pn M W s0 s1 s2 s3 sgc wh m0 m1 m2 rn rfp sg C gl gf fl ff mth mfw mse mwd mtd msz mto mfr mso mnu mfa mpl mro msm mln t w r9 KF SS bf lv9 mik su be fe my O9 S9 LF TF C9 rn9 rb TB o9) [some (.ref b), some (.ref (ca 0)), some (.ref (ma 0)), some (.ref oa), some (.int (nI i)), none, none] [] (cs + 1) (sl + 6) 1075) : J γ l x (lW γ ca ma oa dsd tl tf q cd pt od ex mf af n f trn trf oon oof nx pl ln rf ic il ik iff pn M W s0 s1 s2 s3 sgc wh m0 m1 m2 rn rfp sg C gl gf fl ff mth mfw mse mwd mtd msz mto mfr mso mnu mfa mpl mro msm mln t w r9 KF SS bf lv9 mik su be fe my O9 S9 LF TF C9 rn9 rb TB o9) [some (.ref b), some (.ref (ca 0)), some (.ref (ma 0)), some (.ref oa), some (.int (nI i)), none, none] [] cs sl 786 := by
  obtain ⟨⟨htl, ht, hmtd⟩, ⟨hq, hmfa, hmfw⟩, hG, hI, ⟨hnx, hpl, hln, hpR, hmsm⟩, ⟨hmik, him⟩, ⟨hsgc, hPB, hPf, hPV⟩, hsg, hMV⟩ := id hR
  subst ht
  obtain rfl : tl = mtd := hmtd.symm
  subst hmfa
  subst hmfw
  obtain rfl : pl = msm := hmsm.symm
  obtain rfl : ik = mik := hmik.symm
  obtain ⟨hcd, hpt, hod, hex, hmfe, hafe⟩ := id hG
  subst hpt
  subst hod
  subst hex
  have hT := hG.tab
  have hn := hI.2.2.2.2.1
  have hfo := hI.2.2.2.2.2.2
  have hsm := g_small cd hcd
  have hf : ∀ j, j < n → f j < 24 := fun j hj => Nat.lt_of_lt_of_le (hfo j hj) hsm.2.1
  have hJ := jpl_cd hG
  have hO := jop_cd hG
  have hinv : ∀ a, a < god cd → ∀ c, c < god cd → jpl (god cd) mf (jpl (god cd) mf c a) (jop (god cd) af a) = c := fun a ha c hc => by rw [hJ, hO]; exact gP_can hcd ha hc
  have hcs0 : cs ≤ 601024 := by omega
  have hsl0 : sl ≤ 7293034 := by omega
  dsimp only [lW]
  cases hc : jhas a1 (n) with
  | false =>
    refine J.aload_n g dL_law_786 rfl rfl ?_
    refine J.aload_n g dL_law_787 rfl rfl ?_
    refine J.iload g dL_law_788 rfl ?_
    refine J.iconstN g 1 dL_law_790 ?_
    refine J.iaddN g dL_law_791 ?_
    refine J.sld g hX (k := i + 1) (by omega) (by omega) h1 dL_law_792 ?_
    refine J.callV0 g (c_X10_like_no l γ _ _ _ _ _ _ _ _ _ _ _ _ _ _ _ _ _ _ hn hc) jy_X10_like lm_L_104 (q0 := 0) rfl jX10.1 ⟨⟨Nat.le_of_ble_eq_true rfl, Nat.le_of_ble_eq_true rfl⟩, hcs0, hsl0⟩ (Nat.le_of_ble_eq_true rfl) rfl [0, 9, 10] rfl rfl dL_law_793 ?_
    intro _ _
    dsimp only [jpush]
    refine J.aload_n g dL_law_796 rfl rfl ?_
    refine J.aload_n g dL_law_797 rfl rfl ?_
    refine J.iload g dL_law_798 rfl ?_
    refine J.iconstN g 1 dL_law_800 ?_
    refine J.iaddN g dL_law_801 ?_
    refine J.sld g hX (k := i + 1) (by omega) (by omega) h1 dL_law_802 ?_
    refine J.callV g (c_X11_like_no l γ _ _ _ _ _ _ _ _ _ _ _ _ _ _ _ _ _ _ _ _ _ _ _ _ _ _ _ _ _ _ _ _ _ _ _ _ _ _ _ _ _ hI hc) jy_X11_like lm_L_107 (q0 := 86) rfl jX11.1 ⟨⟨Nat.le_of_ble_eq_true rfl, Nat.le_of_ble_eq_true rfl⟩, hcs0, hsl0⟩ (Nat.le_of_ble_eq_true rfl) rfl [86, 88] rfl (fun _ => rfl) rfl dL_law_803 ?_
    intro _ _
    dsimp only [jput, List.set_cons_zero, List.set_cons_succ, Option.toList, List.append, List.cons_append, List.nil_append, List.append_nil]
    refine J.icmp_eq g dL_law_806 (tgt := 1075) (by decide) (fun c_806 => ?_) (fun c_806 => (c_806 (rfl)).elim)
    exact J.widen (Nat.le_add_right cs 1) (Nat.le_add_right sl 6) (K (hR))
  | true =>
    obtain ⟨k, hk, rfl⟩ := jhas_t hc
    have hgp : 0 < god cd := Nat.lt_of_le_of_lt (Nat.zero_le _) (hfo k hk)
    have hne : cd ≠ 0 := fun z => by rw [z] at hgp; exact absurd hgp (by decide)
    refine J.aload_n g dL_law_786 rfl rfl ?_
    refine J.aload_n g dL_law_787 rfl rfl ?_
    refine J.iload g dL_law_788 rfl ?_
    refine J.iconstN g 1 dL_law_790 ?_
    refine J.iaddN g dL_law_791 ?_
    refine J.sld g hX (k := i + 1) (by omega) (by omega) h1 dL_law_792 ?_
    refine J.callV g (c_X10_like_yes l γ _ _ _ _ _ _ _ _ _ _ _ _ _ _ _ _ _ _ _ _ _ _ _ _ _ _ _ _ _ _ _ _ hn hT hf hk ⟨gex_pos cd hcd hne, hsm.2.2.1⟩) jy_X10_like lm_L_104 (q0 := 0) rfl jX10.1 ⟨⟨Nat.le_of_ble_eq_true rfl, Nat.le_of_ble_eq_true rfl⟩, hcs0, hsl0⟩ (Nat.le_of_ble_eq_true rfl) rfl [0, 9, 10, 6, 7, 8, 13, 14, 11, 12] rfl (fun _ => rfl) rfl dL_law_793 ?_
    intro u_793 h_793
    dsimp only [jput, List.set_cons_zero, List.set_cons_succ, Option.toList, List.append, List.cons_append, List.nil_append, List.append_nil]
    refine J.aload_n g dL_law_796 rfl rfl ?_
    refine J.aload_n g dL_law_797 rfl rfl ?_
    refine J.iload g dL_law_798 rfl ?_
    refine J.iconstN g 1 dL_law_800 ?_
    refine J.iaddN g dL_law_801 ?_
    refine J.sld g hX (k := i + 1) (by omega) (by omega) h1 dL_law_802 ?_
    refine J.callV g (c_X11_like_yes l γ _ _ _ _ _ _ _ _ _ _ _ _ _ _ _ _ _ _ _ _ _ _ _ _ _ _ _ _ _ _ _ _ _ _ _ _ _ _ _ _ _ _ _ hI hk) jy_X11_like lm_L_107 (q0 := 86) rfl jX11.1 ⟨⟨Nat.le_of_ble_eq_true rfl, Nat.le_of_ble_eq_true rfl⟩, hcs0, hsl0⟩ (Nat.le_of_ble_eq_true rfl) rfl [86, 88, 101, 102] rfl (fun _ => rfl) rfl dL_law_803 ?_
    intro u_803 h_803
    dsimp only [jput, List.set_cons_zero, List.set_cons_succ, Option.toList, List.append, List.cons_append, List.nil_append, List.append_nil]
    refine J.icmp_eq g dL_law_806 (tgt := 1075) (by decide) (fun c_806 => ?_) (fun c_806 => (c_806 (by rw [jlk_t hJ])).elim)
    exact J.widen (Nat.le_add_right cs 1) (Nat.le_add_right sl 6) (K (hR))
set_option maxHeartbeats 8000000 in
set_option maxRecDepth 100000 in
theorem lc_frees {l : Launch} {γ : jγ} {x : jE} {ca ma : Nat → Nat} {oa b L i cs sl : Nat} {xs : Nat → Int32} {a1 : Int32} (g : jG γ x ({ frames := 2048, cells := 601024, slots := 7293034, locals := 84000 } : Room) code RL (some .boolean)) (hX : jScr x b L xs) (hL : L ≤ 3072) (hi : i + 6 ≤ L) (hcs : cs + 1 ≤ 601024) (hsl : sl + 6 ≤ 7293034) (h1 : xs (i + 1) = a1) {dsd : Int32} {tl : Nat} {tf : Nat → Int32} {q : jRS} {cd pt od ex : Nat} {mf af : Nat → Nat} {n : Nat} {f : Nat → Nat} {trn : Nat} {trf : Nat → Nat} {oon : Nat} {oof : Nat → Nat} {nx pl : Nat} {ln : Nat → Nat} {rf : Nat → Nat → Nat} {ic il : Nat → Nat} {ik : Nat → Bool} {iff : Nat → Nat → Nat} {pn : Nat} {M W : Nat → Nat → Nat} {s0 s1 s2 s3 : Nat → Nat} {sgc wh : Nat} {m0 m1 m2 : Nat → Nat} {rn : Nat} {rfp : Nat → Nat} {sg : Nat} {C : Nat → Nat} {gl : Nat} {gf : Nat → Nat} {fl : Nat} {ff : Nat → Nat} {mth mfw mse : Int32} {mwd : Int64} {mtd msz mto mfr mso mnu mfa mpl mro msm mln : Nat} {t w r9 KF SS bf lv9 : Nat → Nat} {mik : Nat → Bool} {su : Nat → Nat} {be : Nat → Bool} {fe my : Nat → Int32} {O9 : Nat → Nat} {S9 : Nat → Bool} {LF TF C9 rn9 rb TB : Nat → Nat} {o9 : Nat → Int64} (hR : lR tl tf q cd pt od ex mf af n f nx pl ln rf ic il ik iff sgc wh m0 m1 m2 rn rfp sg C fl ff mfw mtd mfa msm t w KF SS mik)
    (K : ∀ {dsd : Int32} {tl : Nat} {tf : Nat → Int32} {q : jRS} {cd pt od ex : Nat} {mf af : Nat → Nat} {n : Nat} {f : Nat → Nat} {trn : Nat} {trf : Nat → Nat} {oon : Nat} {oof : Nat → Nat} {nx pl : Nat} {ln : Nat → Nat} {rf : Nat → Nat → Nat} {ic il : Nat → Nat} {ik : Nat → Bool} {iff : Nat → Nat → Nat} {pn : Nat} {M W : Nat → Nat → Nat} {s0 s1 s2 s3 : Nat → Nat} {sgc wh : Nat} {m0 m1 m2 : Nat → Nat} {rn : Nat} {rfp : Nat → Nat} {sg : Nat} {C : Nat → Nat} {gl : Nat} {gf : Nat → Nat} {fl : Nat} {ff : Nat → Nat} {mth mfw mse : Int32} {mwd : Int64} {mtd msz mto mfr mso mnu mfa mpl mro msm mln : Nat} {t w r9 KF SS bf lv9 : Nat → Nat} {mik : Nat → Bool} {su : Nat → Nat} {be : Nat → Bool} {fe my : Nat → Int32} {O9 : Nat → Nat} {S9 : Nat → Bool} {LF TF C9 rn9 rb TB : Nat → Nat} {o9 : Nat → Int64}, lR tl tf q cd pt od ex mf af n f nx pl ln rf ic il ik iff sgc wh m0 m1 m2 rn rfp sg C fl ff mfw mtd mfa msm t w KF SS mik → J γ l x (lW γ ca ma oa dsd tl tf q cd pt od ex mf af n f trn trf oon oof nx pl ln rf ic il ik iff pn M W s0 s1 s2 s3 sgc wh m0 m1 m2 rn rfp sg C gl gf fl ff mth mfw mse mwd mtd msz mto mfr mso mnu mfa mpl mro msm mln t w r9 KF SS bf lv9 mik su be fe my O9 S9 LF TF C9 rn9 rb TB o9) [some (.ref b), some (.ref (ca 0)), some (.ref (ma 0)), some (.ref oa), some (.int (nI i)), none, none] [] (cs + 1) (sl + 6) 1075) : J γ l x (lW γ ca ma oa dsd tl tf q cd pt od ex mf af n f trn trf oon oof nx pl ln rf ic il ik iff pn M W s0 s1 s2 s3 sgc wh m0 m1 m2 rn rfp sg C gl gf fl ff mth mfw mse mwd mtd msz mto mfr mso mnu mfa mpl mro msm mln t w r9 KF SS bf lv9 mik su be fe my O9 S9 LF TF C9 rn9 rb TB o9) [some (.ref b), some (.ref (ca 0)), some (.ref (ma 0)), some (.ref oa), some (.int (nI i)), none, none] [] cs sl 811 := by
  obtain ⟨⟨htl, ht, hmtd⟩, ⟨hq, hmfa, hmfw⟩, hG, hI, ⟨hnx, hpl, hln, hpR, hmsm⟩, ⟨hmik, him⟩, ⟨hsgc, hPB, hPf, hPV⟩, hsg, hMV⟩ := id hR
  subst ht
  obtain rfl : tl = mtd := hmtd.symm
  subst hmfa
  subst hmfw
  obtain rfl : pl = msm := hmsm.symm
  obtain rfl : ik = mik := hmik.symm
  obtain ⟨hcd, hpt, hod, hex, hmfe, hafe⟩ := id hG
  subst hpt
  subst hod
  subst hex
  have hT := hG.tab
  have hn := hI.2.2.2.2.1
  have hfo := hI.2.2.2.2.2.2
  have hsm := g_small cd hcd
  have hf : ∀ j, j < n → f j < 24 := fun j hj => Nat.lt_of_lt_of_le (hfo j hj) hsm.2.1
  have hJ := jpl_cd hG
  have hO := jop_cd hG
  have hinv : ∀ a, a < god cd → ∀ c, c < god cd → jpl (god cd) mf (jpl (god cd) mf c a) (jop (god cd) af a) = c := fun a ha c hc => by rw [hJ, hO]; exact gP_can hcd ha hc
  have hcs0 : cs ≤ 601024 := by omega
  have hsl0 : sl ≤ 7293034 := by omega
  dsimp only [lW]
  by_cases ho : 1 ≤ god cd ∧ god cd ≤ 12
  ·
    cases hc : jhas a1 (13) with
    | false =>
      refine J.aload_n g dL_law_811 rfl rfl ?_
      refine J.aload_n g dL_law_812 rfl rfl ?_
      refine J.iload g dL_law_813 rfl ?_
      refine J.iconstN g 1 dL_law_815 ?_
      refine J.iaddN g dL_law_816 ?_
      refine J.sld g hX (k := i + 1) (by omega) (by omega) h1 dL_law_817 ?_
      refine J.callV0 g (c_X10_frees_no l γ _ _ _ _ _ _ _ _ _ _ _ _ _ _ _ _ _ _ _ _ _ _ _ hsm.2.1 (Or.inl hc)) jy_X10_frees lm_L_108 (q0 := 0) rfl jX10.1 ⟨⟨Nat.le_of_ble_eq_true rfl, Nat.le_of_ble_eq_true rfl⟩, hcs0, hsl0⟩ (Nat.le_of_ble_eq_true rfl) rfl [0, 6, 7, 8] rfl rfl dL_law_818 ?_
      intro _ _
      dsimp only [jpush]
      refine J.aload_n g dL_law_821 rfl rfl ?_
      refine J.aload_n g dL_law_822 rfl rfl ?_
      refine J.iload g dL_law_823 rfl ?_
      refine J.iconstN g 1 dL_law_825 ?_
      refine J.iaddN g dL_law_826 ?_
      refine J.sld g hX (k := i + 1) (by omega) (by omega) h1 dL_law_827 ?_
      refine J.callV g (c_X11_frees_no l γ _ _ _ _ _ _ _ _ _ _ _ _ _ _ _ _ _ _ _ _ _ _ _ _ _ _ _ _ _ _ _ _ _ _ _ _ _ _ _ _ _ hI (Or.inl hc)) jy_X11_frees lm_L_111 (q0 := 86) rfl jX11.1 ⟨⟨Nat.le_of_ble_eq_true rfl, Nat.le_of_ble_eq_true rfl⟩, hcs0, hsl0⟩ (Nat.le_of_ble_eq_true rfl) rfl [86, 88] rfl (fun _ => rfl) rfl dL_law_828 ?_
      intro _ _
      dsimp only [jput, List.set_cons_zero, List.set_cons_succ, Option.toList, List.append, List.cons_append, List.nil_append, List.append_nil]
      refine J.icmp_eq g dL_law_831 (tgt := 1075) (by decide) (fun c_831 => ?_) (fun c_831 => (c_831 (rfl)).elim)
      exact J.widen (Nat.le_add_right cs 1) (Nat.le_add_right sl 6) (K (hR))
    | true =>
      obtain ⟨k, hk, rfl⟩ := jhas_t hc
      refine J.aload_n g dL_law_811 rfl rfl ?_
      refine J.aload_n g dL_law_812 rfl rfl ?_
      refine J.iload g dL_law_813 rfl ?_
      refine J.iconstN g 1 dL_law_815 ?_
      refine J.iaddN g dL_law_816 ?_
      refine J.sld g hX (k := i + 1) (by omega) (by omega) h1 dL_law_817 ?_
      refine J.callV g (c_X10_frees_yes l γ _ _ _ _ _ _ _ _ _ _ _ _ _ _ _ _ _ _ _ _ _ _ _ _ _ _ _ _ _ _ _ _ _ _ hG ho hsg hMV (by omega)) jy_X10_frees lm_L_108 (q0 := 0) rfl jX10.1 ⟨⟨Nat.le_of_ble_eq_true rfl, Nat.le_of_ble_eq_true rfl⟩, hcs0, hsl0⟩ (Nat.le_of_ble_eq_true rfl) rfl [0, 80, 81, 82, 83, 84, 85, 6, 7, 8] rfl (fun _ => rfl) rfl dL_law_818 ?_
      intro u_818 h_818
      dsimp only [jput, List.set_cons_zero, List.set_cons_succ, Option.toList, List.append, List.cons_append, List.nil_append, List.append_nil]
      refine J.aload_n g dL_law_821 rfl rfl ?_
      refine J.aload_n g dL_law_822 rfl rfl ?_
      refine J.iload g dL_law_823 rfl ?_
      refine J.iconstN g 1 dL_law_825 ?_
      refine J.iaddN g dL_law_826 ?_
      refine J.sld g hX (k := i + 1) (by omega) (by omega) h1 dL_law_827 ?_
      refine J.callV g (c_X11_frees_yes l γ _ _ _ _ _ _ _ _ _ _ _ _ _ _ _ _ _ _ _ _ _ _ _ _ _ _ _ _ _ _ _ _ _ _ _ _ _ _ _ _ _ _ _ _ hI ho (by omega)) jy_X11_frees lm_L_111 (q0 := 86) rfl jX11.1 ⟨⟨Nat.le_of_ble_eq_true rfl, Nat.le_of_ble_eq_true rfl⟩, hcs0, hsl0⟩ (Nat.le_of_ble_eq_true rfl) rfl [86, 88, 103, 104, 105] rfl (fun _ => rfl) rfl dL_law_828 ?_
      intro u_828 h_828
      dsimp only [jput, List.set_cons_zero, List.set_cons_succ, Option.toList, List.append, List.cons_append, List.nil_append, List.append_nil]
      refine J.icmp_eq g dL_law_831 (tgt := 1075) (by decide) (fun c_831 => ?_) (fun c_831 => (c_831 (rfl)).elim)
      exact J.widen (Nat.le_add_right cs 1) (Nat.le_add_right sl 6) (K (⟨⟨htl, rfl, rfl⟩, ⟨hq, rfl, rfl⟩, hG, hI, ⟨hnx, hpl, hln, hpR, rfl⟩, ⟨rfl, him⟩, ⟨hsgc, hPB, hPf, hPV⟩, ⟨hsm.1, fun _ => h_818⟩⟩))
  ·
    refine J.aload_n g dL_law_811 rfl rfl ?_
    refine J.aload_n g dL_law_812 rfl rfl ?_
    refine J.iload g dL_law_813 rfl ?_
    refine J.iconstN g 1 dL_law_815 ?_
    refine J.iaddN g dL_law_816 ?_
    refine J.sld g hX (k := i + 1) (by omega) (by omega) h1 dL_law_817 ?_
    refine J.callV0 g (c_X10_frees_no l γ _ _ _ _ _ _ _ _ _ _ _ _ _ _ _ _ _ _ _ _ _ _ _ hsm.2.1 (Or.inr ho)) jy_X10_frees lm_L_108 (q0 := 0) rfl jX10.1 ⟨⟨Nat.le_of_ble_eq_true rfl, Nat.le_of_ble_eq_true rfl⟩, hcs0, hsl0⟩ (Nat.le_of_ble_eq_true rfl) rfl [0, 6, 7, 8] rfl rfl dL_law_818 ?_
    intro _ _
    dsimp only [jpush]
    refine J.aload_n g dL_law_821 rfl rfl ?_
    refine J.aload_n g dL_law_822 rfl rfl ?_
    refine J.iload g dL_law_823 rfl ?_
    refine J.iconstN g 1 dL_law_825 ?_
    refine J.iaddN g dL_law_826 ?_
    refine J.sld g hX (k := i + 1) (by omega) (by omega) h1 dL_law_827 ?_
    refine J.callV g (c_X11_frees_no l γ _ _ _ _ _ _ _ _ _ _ _ _ _ _ _ _ _ _ _ _ _ _ _ _ _ _ _ _ _ _ _ _ _ _ _ _ _ _ _ _ _ hI (Or.inr ho)) jy_X11_frees lm_L_111 (q0 := 86) rfl jX11.1 ⟨⟨Nat.le_of_ble_eq_true rfl, Nat.le_of_ble_eq_true rfl⟩, hcs0, hsl0⟩ (Nat.le_of_ble_eq_true rfl) rfl [86, 88] rfl (fun _ => rfl) rfl dL_law_828 ?_
    intro _ _
    dsimp only [jput, List.set_cons_zero, List.set_cons_succ, Option.toList, List.append, List.cons_append, List.nil_append, List.append_nil]
    refine J.icmp_eq g dL_law_831 (tgt := 1075) (by decide) (fun c_831 => ?_) (fun c_831 => (c_831 (rfl)).elim)
    exact J.widen (Nat.le_add_right cs 1) (Nat.le_add_right sl 6) (K (hR))
set_option maxHeartbeats 8000000 in
set_option maxRecDepth 100000 in
theorem lc_longest {l : Launch} {γ : jγ} {x : jE} {ca ma : Nat → Nat} {oa b L i cs sl : Nat} {xs : Nat → Int32} (g : jG γ x ({ frames := 2048, cells := 601024, slots := 7293034, locals := 84000 } : Room) code RL (some .boolean)) (hX : jScr x b L xs) (hL : L ≤ 3072) (hi : i + 6 ≤ L) (hcs : cs + 1 ≤ 601024) (hsl : sl + 6 ≤ 7293034)  {dsd : Int32} {tl : Nat} {tf : Nat → Int32} {q : jRS} {cd pt od ex : Nat} {mf af : Nat → Nat} {n : Nat} {f : Nat → Nat} {trn : Nat} {trf : Nat → Nat} {oon : Nat} {oof : Nat → Nat} {nx pl : Nat} {ln : Nat → Nat} {rf : Nat → Nat → Nat} {ic il : Nat → Nat} {ik : Nat → Bool} {iff : Nat → Nat → Nat} {pn : Nat} {M W : Nat → Nat → Nat} {s0 s1 s2 s3 : Nat → Nat} {sgc wh : Nat} {m0 m1 m2 : Nat → Nat} {rn : Nat} {rfp : Nat → Nat} {sg : Nat} {C : Nat → Nat} {gl : Nat} {gf : Nat → Nat} {fl : Nat} {ff : Nat → Nat} {mth mfw mse : Int32} {mwd : Int64} {mtd msz mto mfr mso mnu mfa mpl mro msm mln : Nat} {t w r9 KF SS bf lv9 : Nat → Nat} {mik : Nat → Bool} {su : Nat → Nat} {be : Nat → Bool} {fe my : Nat → Int32} {O9 : Nat → Nat} {S9 : Nat → Bool} {LF TF C9 rn9 rb TB : Nat → Nat} {o9 : Nat → Int64} (hR : lR tl tf q cd pt od ex mf af n f nx pl ln rf ic il ik iff sgc wh m0 m1 m2 rn rfp sg C fl ff mfw mtd mfa msm t w KF SS mik)
    (K : ∀ {dsd : Int32} {tl : Nat} {tf : Nat → Int32} {q : jRS} {cd pt od ex : Nat} {mf af : Nat → Nat} {n : Nat} {f : Nat → Nat} {trn : Nat} {trf : Nat → Nat} {oon : Nat} {oof : Nat → Nat} {nx pl : Nat} {ln : Nat → Nat} {rf : Nat → Nat → Nat} {ic il : Nat → Nat} {ik : Nat → Bool} {iff : Nat → Nat → Nat} {pn : Nat} {M W : Nat → Nat → Nat} {s0 s1 s2 s3 : Nat → Nat} {sgc wh : Nat} {m0 m1 m2 : Nat → Nat} {rn : Nat} {rfp : Nat → Nat} {sg : Nat} {C : Nat → Nat} {gl : Nat} {gf : Nat → Nat} {fl : Nat} {ff : Nat → Nat} {mth mfw mse : Int32} {mwd : Int64} {mtd msz mto mfr mso mnu mfa mpl mro msm mln : Nat} {t w r9 KF SS bf lv9 : Nat → Nat} {mik : Nat → Bool} {su : Nat → Nat} {be : Nat → Bool} {fe my : Nat → Int32} {O9 : Nat → Nat} {S9 : Nat → Bool} {LF TF C9 rn9 rb TB : Nat → Nat} {o9 : Nat → Int64}, lR tl tf q cd pt od ex mf af n f nx pl ln rf ic il ik iff sgc wh m0 m1 m2 rn rfp sg C fl ff mfw mtd mfa msm t w KF SS mik → J γ l x (lW γ ca ma oa dsd tl tf q cd pt od ex mf af n f trn trf oon oof nx pl ln rf ic il ik iff pn M W s0 s1 s2 s3 sgc wh m0 m1 m2 rn rfp sg C gl gf fl ff mth mfw mse mwd mtd msz mto mfr mso mnu mfa mpl mro msm mln t w r9 KF SS bf lv9 mik su be fe my O9 S9 LF TF C9 rn9 rb TB o9) [some (.ref b), some (.ref (ca 0)), some (.ref (ma 0)), some (.ref oa), some (.int (nI i)), none, none] [] (cs + 1) (sl + 6) 1075) : J γ l x (lW γ ca ma oa dsd tl tf q cd pt od ex mf af n f trn trf oon oof nx pl ln rf ic il ik iff pn M W s0 s1 s2 s3 sgc wh m0 m1 m2 rn rfp sg C gl gf fl ff mth mfw mse mwd mtd msz mto mfr mso mnu mfa mpl mro msm mln t w r9 KF SS bf lv9 mik su be fe my O9 S9 LF TF C9 rn9 rb TB o9) [some (.ref b), some (.ref (ca 0)), some (.ref (ma 0)), some (.ref oa), some (.int (nI i)), none, none] [] cs sl 836 := by
  obtain ⟨⟨htl, ht, hmtd⟩, ⟨hq, hmfa, hmfw⟩, hG, hI, ⟨hnx, hpl, hln, hpR, hmsm⟩, ⟨hmik, him⟩, ⟨hsgc, hPB, hPf, hPV⟩, hsg, hMV⟩ := id hR
  subst ht
  obtain rfl : tl = mtd := hmtd.symm
  subst hmfa
  subst hmfw
  obtain rfl : pl = msm := hmsm.symm
  obtain rfl : ik = mik := hmik.symm
  obtain ⟨hcd, hpt, hod, hex, hmfe, hafe⟩ := id hG
  subst hpt
  subst hod
  subst hex
  have hT := hG.tab
  have hn := hI.2.2.2.2.1
  have hfo := hI.2.2.2.2.2.2
  have hsm := g_small cd hcd
  have hf : ∀ j, j < n → f j < 24 := fun j hj => Nat.lt_of_lt_of_le (hfo j hj) hsm.2.1
  have hJ := jpl_cd hG
  have hO := jop_cd hG
  have hinv : ∀ a, a < god cd → ∀ c, c < god cd → jpl (god cd) mf (jpl (god cd) mf c a) (jop (god cd) af a) = c := fun a ha c hc => by rw [hJ, hO]; exact gP_can hcd ha hc
  have hcs0 : cs ≤ 601024 := by omega
  have hsl0 : sl ≤ 7293034 := by omega
  dsimp only [lW]
  by_cases ho : 1 ≤ god cd ∧ god cd ≤ 12
  ·
    refine J.aload_n g dL_law_836 rfl rfl ?_
    refine J.callV g (c_X10_longest_yes l γ _ _ _ _ _ _ _ _ _ _ _ _ _ _ _ _ _ _ _ _ _ _ _ _ _ _ _ _ _ _ _ _ _ hG ho hsg hMV) jy_X10_longest lm_L_112 (q0 := 0) rfl jX10.1 ⟨⟨Nat.le_of_ble_eq_true rfl, Nat.le_of_ble_eq_true rfl⟩, hcs0, hsl0⟩ (Nat.le_of_ble_eq_true rfl) rfl [0, 80, 81, 82, 83, 84, 85, 6, 7, 8] rfl (fun _ => rfl) rfl dL_law_837 ?_
    intro u_837 h_837
    dsimp only [jput, List.set_cons_zero, List.set_cons_succ, Option.toList, List.append, List.cons_append, List.nil_append, List.append_nil]
    refine J.aload_n g dL_law_840 rfl rfl ?_
    refine J.callV g (c_X11_longest_yes l γ _ _ _ _ _ _ _ _ _ _ _ _ _ _ _ _ _ _ _ _ _ _ _ _ _ _ _ _ _ _ _ _ _ _ _ _ _ _ _ _ _ _ _ hI ho) jy_X11_longest lm_L_115 (q0 := 86) rfl jX11.1 ⟨⟨Nat.le_of_ble_eq_true rfl, Nat.le_of_ble_eq_true rfl⟩, hcs0, hsl0⟩ (Nat.le_of_ble_eq_true rfl) rfl [86, 88, 103, 104, 105] rfl (fun _ => rfl) rfl dL_law_841 ?_
    intro u_841 h_841
    dsimp only [jput, List.set_cons_zero, List.set_cons_succ, Option.toList, List.append, List.cons_append, List.nil_append, List.append_nil]
    refine J.icmp_eq g dL_law_844 (tgt := 1075) (by decide) (fun c_844 => ?_) (fun c_844 => (c_844 (rfl)).elim)
    exact J.widen (Nat.le_add_right cs 1) (Nat.le_add_right sl 6) (K (⟨⟨htl, rfl, rfl⟩, ⟨hq, rfl, rfl⟩, hG, hI, ⟨hnx, hpl, hln, hpR, rfl⟩, ⟨rfl, him⟩, ⟨hsgc, hPB, hPf, hPV⟩, ⟨hsm.1, fun _ => h_837⟩⟩))
  ·
    refine J.aload_n g dL_law_836 rfl rfl ?_
    refine J.callV0 g (c_X10_longest_no l γ _ _ _ _ _ _ _ _ _ _ _ _ _ _ _ _ _ _ _ _ _ _ hsm.2.1 ho) jy_X10_longest lm_L_112 (q0 := 0) rfl jX10.1 ⟨⟨Nat.le_of_ble_eq_true rfl, Nat.le_of_ble_eq_true rfl⟩, hcs0, hsl0⟩ (Nat.le_of_ble_eq_true rfl) rfl [0, 6, 7, 8] rfl rfl dL_law_837 ?_
    intro _ _
    dsimp only [jpush]
    refine J.aload_n g dL_law_840 rfl rfl ?_
    refine J.callV g (c_X11_longest_no l γ _ _ _ _ _ _ _ _ _ _ _ _ _ _ _ _ _ _ _ _ _ _ _ _ _ _ _ _ _ _ _ _ _ _ _ _ _ _ _ _ hI ho) jy_X11_longest lm_L_115 (q0 := 86) rfl jX11.1 ⟨⟨Nat.le_of_ble_eq_true rfl, Nat.le_of_ble_eq_true rfl⟩, hcs0, hsl0⟩ (Nat.le_of_ble_eq_true rfl) rfl [86, 88] rfl (fun _ => rfl) rfl dL_law_841 ?_
    intro _ _
    dsimp only [jput, List.set_cons_zero, List.set_cons_succ, Option.toList, List.append, List.cons_append, List.nil_append, List.append_nil]
    refine J.icmp_eq g dL_law_844 (tgt := 1075) (by decide) (fun c_844 => ?_) (fun c_844 => (c_844 (rfl)).elim)
    exact J.widen (Nat.le_add_right cs 1) (Nat.le_add_right sl 6) (K (hR))
set_option maxHeartbeats 8000000 in
set_option maxRecDepth 100000 in
theorem lc_longestAt {l : Launch} {γ : jγ} {x : jE} {ca ma : Nat → Nat} {oa b L i cs sl : Nat} {xs : Nat → Int32} {a1 : Int32} (g : jG γ x ({ frames := 2048, cells := 601024, slots := 7293034, locals := 84000 } : Room) code RL (some .boolean)) (hX : jScr x b L xs) (hL : L ≤ 3072) (hi : i + 6 ≤ L) (hcs : cs + 1 ≤ 601024) (hsl : sl + 6 ≤ 7293034) (h1 : xs (i + 1) = a1) {dsd : Int32} {tl : Nat} {tf : Nat → Int32} {q : jRS} {cd pt od ex : Nat} {mf af : Nat → Nat} {n : Nat} {f : Nat → Nat} {trn : Nat} {trf : Nat → Nat} {oon : Nat} {oof : Nat → Nat} {nx pl : Nat} {ln : Nat → Nat} {rf : Nat → Nat → Nat} {ic il : Nat → Nat} {ik : Nat → Bool} {iff : Nat → Nat → Nat} {pn : Nat} {M W : Nat → Nat → Nat} {s0 s1 s2 s3 : Nat → Nat} {sgc wh : Nat} {m0 m1 m2 : Nat → Nat} {rn : Nat} {rfp : Nat → Nat} {sg : Nat} {C : Nat → Nat} {gl : Nat} {gf : Nat → Nat} {fl : Nat} {ff : Nat → Nat} {mth mfw mse : Int32} {mwd : Int64} {mtd msz mto mfr mso mnu mfa mpl mro msm mln : Nat} {t w r9 KF SS bf lv9 : Nat → Nat} {mik : Nat → Bool} {su : Nat → Nat} {be : Nat → Bool} {fe my : Nat → Int32} {O9 : Nat → Nat} {S9 : Nat → Bool} {LF TF C9 rn9 rb TB : Nat → Nat} {o9 : Nat → Int64} (hR : lR tl tf q cd pt od ex mf af n f nx pl ln rf ic il ik iff sgc wh m0 m1 m2 rn rfp sg C fl ff mfw mtd mfa msm t w KF SS mik)
    (K : ∀ {dsd : Int32} {tl : Nat} {tf : Nat → Int32} {q : jRS} {cd pt od ex : Nat} {mf af : Nat → Nat} {n : Nat} {f : Nat → Nat} {trn : Nat} {trf : Nat → Nat} {oon : Nat} {oof : Nat → Nat} {nx pl : Nat} {ln : Nat → Nat} {rf : Nat → Nat → Nat} {ic il : Nat → Nat} {ik : Nat → Bool} {iff : Nat → Nat → Nat} {pn : Nat} {M W : Nat → Nat → Nat} {s0 s1 s2 s3 : Nat → Nat} {sgc wh : Nat} {m0 m1 m2 : Nat → Nat} {rn : Nat} {rfp : Nat → Nat} {sg : Nat} {C : Nat → Nat} {gl : Nat} {gf : Nat → Nat} {fl : Nat} {ff : Nat → Nat} {mth mfw mse : Int32} {mwd : Int64} {mtd msz mto mfr mso mnu mfa mpl mro msm mln : Nat} {t w r9 KF SS bf lv9 : Nat → Nat} {mik : Nat → Bool} {su : Nat → Nat} {be : Nat → Bool} {fe my : Nat → Int32} {O9 : Nat → Nat} {S9 : Nat → Bool} {LF TF C9 rn9 rb TB : Nat → Nat} {o9 : Nat → Int64}, lR tl tf q cd pt od ex mf af n f nx pl ln rf ic il ik iff sgc wh m0 m1 m2 rn rfp sg C fl ff mfw mtd mfa msm t w KF SS mik → J γ l x (lW γ ca ma oa dsd tl tf q cd pt od ex mf af n f trn trf oon oof nx pl ln rf ic il ik iff pn M W s0 s1 s2 s3 sgc wh m0 m1 m2 rn rfp sg C gl gf fl ff mth mfw mse mwd mtd msz mto mfr mso mnu mfa mpl mro msm mln t w r9 KF SS bf lv9 mik su be fe my O9 S9 LF TF C9 rn9 rb TB o9) [some (.ref b), some (.ref (ca 0)), some (.ref (ma 0)), some (.ref oa), some (.int (nI i)), none, none] [] (cs + 1) (sl + 6) 1075) : J γ l x (lW γ ca ma oa dsd tl tf q cd pt od ex mf af n f trn trf oon oof nx pl ln rf ic il ik iff pn M W s0 s1 s2 s3 sgc wh m0 m1 m2 rn rfp sg C gl gf fl ff mth mfw mse mwd mtd msz mto mfr mso mnu mfa mpl mro msm mln t w r9 KF SS bf lv9 mik su be fe my O9 S9 LF TF C9 rn9 rb TB o9) [some (.ref b), some (.ref (ca 0)), some (.ref (ma 0)), some (.ref oa), some (.int (nI i)), none, none] [] cs sl 849 := by
  obtain ⟨⟨htl, ht, hmtd⟩, ⟨hq, hmfa, hmfw⟩, hG, hI, ⟨hnx, hpl, hln, hpR, hmsm⟩, ⟨hmik, him⟩, ⟨hsgc, hPB, hPf, hPV⟩, hsg, hMV⟩ := id hR
  subst ht
  obtain rfl : tl = mtd := hmtd.symm
  subst hmfa
  subst hmfw
  obtain rfl : pl = msm := hmsm.symm
  obtain rfl : ik = mik := hmik.symm
  obtain ⟨hcd, hpt, hod, hex, hmfe, hafe⟩ := id hG
  subst hpt
  subst hod
  subst hex
  have hT := hG.tab
  have hn := hI.2.2.2.2.1
  have hfo := hI.2.2.2.2.2.2
  have hsm := g_small cd hcd
  have hf : ∀ j, j < n → f j < 24 := fun j hj => Nat.lt_of_lt_of_le (hfo j hj) hsm.2.1
  have hJ := jpl_cd hG
  have hO := jop_cd hG
  have hinv : ∀ a, a < god cd → ∀ c, c < god cd → jpl (god cd) mf (jpl (god cd) mf c a) (jop (god cd) af a) = c := fun a ha c hc => by rw [hJ, hO]; exact gP_can hcd ha hc
  have hcs0 : cs ≤ 601024 := by omega
  have hsl0 : sl ≤ 7293034 := by omega
  dsimp only [lW]
  by_cases ho : 1 ≤ god cd ∧ god cd ≤ 12
  ·
    refine J.aload_n g dL_law_849 rfl rfl ?_
    refine J.aload_n g dL_law_850 rfl rfl ?_
    refine J.iload g dL_law_851 rfl ?_
    refine J.iconstN g 1 dL_law_853 ?_
    refine J.iaddN g dL_law_854 ?_
    refine J.sld g hX (k := i + 1) (by omega) (by omega) h1 dL_law_855 ?_
    refine J.callV g (c_X10_longestAt_yes l γ _ _ _ _ _ _ _ _ _ _ _ _ _ _ _ _ _ _ _ _ _ _ _ _ _ _ _ _ _ _ _ _ _ _ hG ho hsg hMV) jy_X10_longestAt lm_L_116 (q0 := 0) rfl jX10.1 ⟨⟨Nat.le_of_ble_eq_true rfl, Nat.le_of_ble_eq_true rfl⟩, hcs0, hsl0⟩ (Nat.le_of_ble_eq_true rfl) rfl [0, 80, 81, 82, 83, 84, 85, 6, 7, 8] rfl (fun _ => rfl) rfl dL_law_856 ?_
    intro u_856 h_856
    dsimp only [jput, List.set_cons_zero, List.set_cons_succ, Option.toList, List.append, List.cons_append, List.nil_append, List.append_nil]
    refine J.aload_n g dL_law_859 rfl rfl ?_
    refine J.aload_n g dL_law_860 rfl rfl ?_
    refine J.iload g dL_law_861 rfl ?_
    refine J.iconstN g 1 dL_law_863 ?_
    refine J.iaddN g dL_law_864 ?_
    refine J.sld g hX (k := i + 1) (by omega) (by omega) h1 dL_law_865 ?_
    refine J.callV g (c_X11_longestAt_yes l γ _ _ _ _ _ _ _ _ _ _ _ _ _ _ _ _ _ _ _ _ _ _ _ _ _ _ _ _ _ _ _ _ _ _ _ _ _ _ _ _ _ _ _ _ hI ho) jy_X11_longestAt lm_L_119 (q0 := 86) rfl jX11.1 ⟨⟨Nat.le_of_ble_eq_true rfl, Nat.le_of_ble_eq_true rfl⟩, hcs0, hsl0⟩ (Nat.le_of_ble_eq_true rfl) rfl [86, 88, 103, 104, 105] rfl (fun _ => rfl) rfl dL_law_866 ?_
    intro u_866 h_866
    dsimp only [jput, List.set_cons_zero, List.set_cons_succ, Option.toList, List.append, List.cons_append, List.nil_append, List.append_nil]
    refine J.icmp_eq g dL_law_869 (tgt := 1075) (by decide) (fun c_869 => ?_) (fun c_869 => (c_869 (rfl)).elim)
    exact J.widen (Nat.le_add_right cs 1) (Nat.le_add_right sl 6) (K (⟨⟨htl, rfl, rfl⟩, ⟨hq, rfl, rfl⟩, hG, hI, ⟨hnx, hpl, hln, hpR, rfl⟩, ⟨rfl, him⟩, ⟨hsgc, hPB, hPf, hPV⟩, ⟨hsm.1, fun _ => h_856⟩⟩))
  ·
    refine J.aload_n g dL_law_849 rfl rfl ?_
    refine J.aload_n g dL_law_850 rfl rfl ?_
    refine J.iload g dL_law_851 rfl ?_
    refine J.iconstN g 1 dL_law_853 ?_
    refine J.iaddN g dL_law_854 ?_
    refine J.sld g hX (k := i + 1) (by omega) (by omega) h1 dL_law_855 ?_
    refine J.callV0 g (c_X10_longestAt_no l γ _ _ _ _ _ _ _ _ _ _ _ _ _ _ _ _ _ _ _ _ _ _ _ hsm.2.1 ho) jy_X10_longestAt lm_L_116 (q0 := 0) rfl jX10.1 ⟨⟨Nat.le_of_ble_eq_true rfl, Nat.le_of_ble_eq_true rfl⟩, hcs0, hsl0⟩ (Nat.le_of_ble_eq_true rfl) rfl [0, 6, 7, 8] rfl rfl dL_law_856 ?_
    intro _ _
    dsimp only [jpush]
    refine J.aload_n g dL_law_859 rfl rfl ?_
    refine J.aload_n g dL_law_860 rfl rfl ?_
    refine J.iload g dL_law_861 rfl ?_
    refine J.iconstN g 1 dL_law_863 ?_
    refine J.iaddN g dL_law_864 ?_
    refine J.sld g hX (k := i + 1) (by omega) (by omega) h1 dL_law_865 ?_
    refine J.callV g (c_X11_longestAt_no l γ _ _ _ _ _ _ _ _ _ _ _ _ _ _ _ _ _ _ _ _ _ _ _ _ _ _ _ _ _ _ _ _ _ _ _ _ _ _ _ _ _ hI ho) jy_X11_longestAt lm_L_119 (q0 := 86) rfl jX11.1 ⟨⟨Nat.le_of_ble_eq_true rfl, Nat.le_of_ble_eq_true rfl⟩, hcs0, hsl0⟩ (Nat.le_of_ble_eq_true rfl) rfl [86, 88] rfl (fun _ => rfl) rfl dL_law_866 ?_
    intro _ _
    dsimp only [jput, List.set_cons_zero, List.set_cons_succ, Option.toList, List.append, List.cons_append, List.nil_append, List.append_nil]
    refine J.icmp_eq g dL_law_869 (tgt := 1075) (by decide) (fun c_869 => ?_) (fun c_869 => (c_869 (rfl)).elim)
    exact J.widen (Nat.le_add_right cs 1) (Nat.le_add_right sl 6) (K (hR))
set_option maxHeartbeats 8000000 in
set_option maxRecDepth 100000 in
theorem lc_enough {l : Launch} {γ : jγ} {x : jE} {ca ma : Nat → Nat} {oa b L i cs sl : Nat} {xs : Nat → Int32} (g : jG γ x ({ frames := 2048, cells := 601024, slots := 7293034, locals := 84000 } : Room) code RL (some .boolean)) (hX : jScr x b L xs) (hL : L ≤ 3072) (hi : i + 6 ≤ L) (hcs : cs + 1 ≤ 601024) (hsl : sl + 6 ≤ 7293034)  {dsd : Int32} {tl : Nat} {tf : Nat → Int32} {q : jRS} {cd pt od ex : Nat} {mf af : Nat → Nat} {n : Nat} {f : Nat → Nat} {trn : Nat} {trf : Nat → Nat} {oon : Nat} {oof : Nat → Nat} {nx pl : Nat} {ln : Nat → Nat} {rf : Nat → Nat → Nat} {ic il : Nat → Nat} {ik : Nat → Bool} {iff : Nat → Nat → Nat} {pn : Nat} {M W : Nat → Nat → Nat} {s0 s1 s2 s3 : Nat → Nat} {sgc wh : Nat} {m0 m1 m2 : Nat → Nat} {rn : Nat} {rfp : Nat → Nat} {sg : Nat} {C : Nat → Nat} {gl : Nat} {gf : Nat → Nat} {fl : Nat} {ff : Nat → Nat} {mth mfw mse : Int32} {mwd : Int64} {mtd msz mto mfr mso mnu mfa mpl mro msm mln : Nat} {t w r9 KF SS bf lv9 : Nat → Nat} {mik : Nat → Bool} {su : Nat → Nat} {be : Nat → Bool} {fe my : Nat → Int32} {O9 : Nat → Nat} {S9 : Nat → Bool} {LF TF C9 rn9 rb TB : Nat → Nat} {o9 : Nat → Int64} (hR : lR tl tf q cd pt od ex mf af n f nx pl ln rf ic il ik iff sgc wh m0 m1 m2 rn rfp sg C fl ff mfw mtd mfa msm t w KF SS mik)
    (K : ∀ {dsd : Int32} {tl : Nat} {tf : Nat → Int32} {q : jRS} {cd pt od ex : Nat} {mf af : Nat → Nat} {n : Nat} {f : Nat → Nat} {trn : Nat} {trf : Nat → Nat} {oon : Nat} {oof : Nat → Nat} {nx pl : Nat} {ln : Nat → Nat} {rf : Nat → Nat → Nat} {ic il : Nat → Nat} {ik : Nat → Bool} {iff : Nat → Nat → Nat} {pn : Nat} {M W : Nat → Nat → Nat} {s0 s1 s2 s3 : Nat → Nat} {sgc wh : Nat} {m0 m1 m2 : Nat → Nat} {rn : Nat} {rfp : Nat → Nat} {sg : Nat} {C : Nat → Nat} {gl : Nat} {gf : Nat → Nat} {fl : Nat} {ff : Nat → Nat} {mth mfw mse : Int32} {mwd : Int64} {mtd msz mto mfr mso mnu mfa mpl mro msm mln : Nat} {t w r9 KF SS bf lv9 : Nat → Nat} {mik : Nat → Bool} {su : Nat → Nat} {be : Nat → Bool} {fe my : Nat → Int32} {O9 : Nat → Nat} {S9 : Nat → Bool} {LF TF C9 rn9 rb TB : Nat → Nat} {o9 : Nat → Int64}, lR tl tf q cd pt od ex mf af n f nx pl ln rf ic il ik iff sgc wh m0 m1 m2 rn rfp sg C fl ff mfw mtd mfa msm t w KF SS mik → J γ l x (lW γ ca ma oa dsd tl tf q cd pt od ex mf af n f trn trf oon oof nx pl ln rf ic il ik iff pn M W s0 s1 s2 s3 sgc wh m0 m1 m2 rn rfp sg C gl gf fl ff mth mfw mse mwd mtd msz mto mfr mso mnu mfa mpl mro msm mln t w r9 KF SS bf lv9 mik su be fe my O9 S9 LF TF C9 rn9 rb TB o9) [some (.ref b), some (.ref (ca 0)), some (.ref (ma 0)), some (.ref oa), some (.int (nI i)), none, none] [] (cs + 1) (sl + 6) 1075) : J γ l x (lW γ ca ma oa dsd tl tf q cd pt od ex mf af n f trn trf oon oof nx pl ln rf ic il ik iff pn M W s0 s1 s2 s3 sgc wh m0 m1 m2 rn rfp sg C gl gf fl ff mth mfw mse mwd mtd msz mto mfr mso mnu mfa mpl mro msm mln t w r9 KF SS bf lv9 mik su be fe my O9 S9 LF TF C9 rn9 rb TB o9) [some (.ref b), some (.ref (ca 0)), some (.ref (ma 0)), some (.ref oa), some (.int (nI i)), none, none] [] cs sl 874 := by
  obtain ⟨⟨htl, ht, hmtd⟩, ⟨hq, hmfa, hmfw⟩, hG, hI, ⟨hnx, hpl, hln, hpR, hmsm⟩, ⟨hmik, him⟩, ⟨hsgc, hPB, hPf, hPV⟩, hsg, hMV⟩ := id hR
  subst ht
  obtain rfl : tl = mtd := hmtd.symm
  subst hmfa
  subst hmfw
  obtain rfl : pl = msm := hmsm.symm
  obtain rfl : ik = mik := hmik.symm
  obtain ⟨hcd, hpt, hod, hex, hmfe, hafe⟩ := id hG
  subst hpt
  subst hod
  subst hex
  have hT := hG.tab
  have hn := hI.2.2.2.2.1
  have hfo := hI.2.2.2.2.2.2
  have hsm := g_small cd hcd
  have hf : ∀ j, j < n → f j < 24 := fun j hj => Nat.lt_of_lt_of_le (hfo j hj) hsm.2.1
  have hJ := jpl_cd hG
  have hO := jop_cd hG
  have hinv : ∀ a, a < god cd → ∀ c, c < god cd → jpl (god cd) mf (jpl (god cd) mf c a) (jop (god cd) af a) = c := fun a ha c hc => by rw [hJ, hO]; exact gP_can hcd ha hc
  have hcs0 : cs ≤ 601024 := by omega
  have hsl0 : sl ≤ 7293034 := by omega
  dsimp only [lW]
  by_cases ho : 1 ≤ god cd ∧ god cd ≤ 6
  ·
    have hgp : 0 < god cd := ho.1
    have hne : cd ≠ 0 := fun z => by rw [z] at hgp; exact absurd hgp (by decide)
    have hge := gex_pos cd hcd hne
    refine J.aload_n g dL_law_874 rfl rfl ?_
    refine J.callV0 g (c_X10_enough l γ _ _ _ _ _ _ _ _ _ _ _ _ _ _ _ _ _ _ _ _ _ _ hsm.2.1 hsm.2.2.1) jy_X10_enough lm_L_120 (q0 := 0) rfl jX10.1 ⟨⟨Nat.le_of_ble_eq_true rfl, Nat.le_of_ble_eq_true rfl⟩, hcs0, hsl0⟩ (Nat.le_of_ble_eq_true rfl) rfl [0, 6, 7, 8] rfl rfl dL_law_875 ?_
    intro _ _
    dsimp only [jpush]
    refine J.aload_n g dL_law_878 rfl rfl ?_
    refine J.callV g (c_X11_enough_yes l γ _ _ _ _ _ _ _ _ _ _ _ _ _ _ _ _ _ _ _ _ _ _ _ _ _ _ _ _ _ _ _ _ _ _ _ _ _ _ _ _ _ hI ho) jy_X11_enough lm_L_123 (q0 := 86) rfl jX11.1 ⟨⟨Nat.le_of_ble_eq_true rfl, Nat.le_of_ble_eq_true rfl⟩, hcs0, hsl0⟩ (Nat.le_of_ble_eq_true rfl) rfl [86, 88, 106] rfl (fun _ => rfl) rfl dL_law_879 ?_
    intro u_879 h_879
    dsimp only [jput, List.set_cons_zero, List.set_cons_succ, Option.toList, List.append, List.cons_append, List.nil_append, List.append_nil]
    refine J.icmp_eq g dL_law_882 (tgt := 1075) (by decide) (fun c_882 => ?_) (fun c_882 => (c_882 (by unfold jen; rw [if_neg (by omega), enough_eq hcd ho.1 ho.2])).elim)
    exact J.widen (Nat.le_add_right cs 1) (Nat.le_add_right sl 6) (K (hR))
  ·
    refine J.aload_n g dL_law_874 rfl rfl ?_
    refine J.callV0 g (c_X10_enough l γ _ _ _ _ _ _ _ _ _ _ _ _ _ _ _ _ _ _ _ _ _ _ hsm.2.1 hsm.2.2.1) jy_X10_enough lm_L_120 (q0 := 0) rfl jX10.1 ⟨⟨Nat.le_of_ble_eq_true rfl, Nat.le_of_ble_eq_true rfl⟩, hcs0, hsl0⟩ (Nat.le_of_ble_eq_true rfl) rfl [0, 6, 7, 8] rfl rfl dL_law_875 ?_
    intro _ _
    dsimp only [jpush]
    refine J.aload_n g dL_law_878 rfl rfl ?_
    refine J.callV g (c_X11_enough_no l γ _ _ _ _ _ _ _ _ _ _ _ _ _ _ _ _ _ _ _ _ _ _ _ _ _ _ _ _ _ _ _ _ _ _ _ _ _ _ _ _ hI ho) jy_X11_enough lm_L_123 (q0 := 86) rfl jX11.1 ⟨⟨Nat.le_of_ble_eq_true rfl, Nat.le_of_ble_eq_true rfl⟩, hcs0, hsl0⟩ (Nat.le_of_ble_eq_true rfl) rfl [86, 88] rfl (fun _ => rfl) rfl dL_law_879 ?_
    intro _ _
    dsimp only [jput, List.set_cons_zero, List.set_cons_succ, Option.toList, List.append, List.cons_append, List.nil_append, List.append_nil]
    refine J.icmp_eq g dL_law_882 (tgt := 1075) (by decide) (fun c_882 => ?_) (fun c_882 => (c_882 (by unfold jen; rw [if_pos (by omega)])).elim)
    exact J.widen (Nat.le_add_right cs 1) (Nat.le_add_right sl 6) (K (hR))
