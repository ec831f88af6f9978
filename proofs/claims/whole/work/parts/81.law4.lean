set_option maxHeartbeats 8000000 in
set_option maxRecDepth 100000 in
theorem lc_come {l : Launch} {γ : jγ} {x : jE} {ca ma : Nat → Nat} {oa b L i cs sl : Nat} {xs : Nat → Int32} {a1 : Int32} (g : jG γ x ({ frames := 2048, cells := 601024, slots := 7293034, locals := 84000 } : Room) code RL (some .boolean)) (hX : jScr x b L xs) (hL : L ≤ 3072) (hi : i + 6 ≤ L) (hcs : cs + 1 ≤ 601024) (hsl : sl + 6 ≤ 7293034) (h1 : xs (i + 1) = a1) {dsd : Int32} {tl : Nat} {tf : Nat → Int32} {q : jRS} {cd pt od ex : Nat} {mf af : Nat → Nat} {n : Nat} {f : Nat → Nat} {trn : Nat} {trf : Nat → Nat} {oon : Nat} {oof : Nat → Nat} {nx pl : Nat} {ln : Nat → Nat} {rf : Nat → Nat → Nat} {ic il : Nat → Nat} {ik : Nat → Bool} {iff : Nat → Nat → Nat} {pn : Nat} {M W : Nat → Nat → Nat} {s0 s1 s2 s3 : Nat → Nat} {sgc wh : Nat} {m0 m1 m2 : Nat → Nat} {rn : Nat} {rfp : Nat → Nat} {sg : Nat} {C : Nat → Nat} {gl : Nat} {gf : Nat → Nat} {fl : Nat} {ff : Nat → Nat} {mth mfw mse : Int32} {mwd : Int64} {mtd msz mto mfr mso mnu mfa mpl mro msm mln : Nat} {t w r9 KF SS bf lv9 : Nat → Nat} {mik : Nat → Bool} {su : Nat → Nat} {be : Nat → Bool} {fe my : Nat → Int32} {O9 : Nat → Nat} {S9 : Nat → Bool} {LF TF C9 rn9 rb TB : Nat → Nat} {o9 : Nat → Int64} (hR : lR tl tf q cd pt od ex mf af n f nx pl ln rf ic il ik iff sgc wh m0 m1 m2 rn rfp sg C fl ff mfw mtd mfa msm t w KF SS mik)
    (K : ∀ {dsd : Int32} {tl : Nat} {tf : Nat → Int32} {q : jRS} {cd pt od ex : Nat} {mf af : Nat → Nat} {n : Nat} {f : Nat → Nat} {trn : Nat} {trf : Nat → Nat} {oon : Nat} {oof : Nat → Nat} {nx pl : Nat} {ln : Nat → Nat} {rf : Nat → Nat → Nat} {ic il : Nat → Nat} {ik : Nat → Bool} {iff : Nat → Nat → Nat} {pn : Nat} {M W : Nat → Nat → Nat} {s0 s1 s2 s3 : Nat → Nat} {sgc wh : Nat} {m0 m1 m2 : Nat → Nat} {rn : Nat} {rfp : Nat → Nat} {sg : Nat} {C : Nat → Nat} {gl : Nat} {gf : Nat → Nat} {fl : Nat} {ff : Nat → Nat} {mth mfw mse : Int32} {mwd : Int64} {mtd msz mto mfr mso mnu mfa mpl mro msm mln : Nat} {t w r9 KF SS bf lv9 : Nat → Nat} {mik : Nat → Bool} {su : Nat → Nat} {be : Nat → Bool} {fe my : Nat → Int32} {O9 : Nat → Nat} {S9 : Nat → Bool} {LF TF C9 rn9 rb TB : Nat → Nat} {o9 : Nat → Int64}, lR tl tf q cd pt od ex mf af n f nx pl ln rf ic il ik iff sgc wh m0 m1 m2 rn rfp sg C fl ff mfw mtd mfa msm t w KF SS mik → J γ l x (lW γ ca ma oa dsd tl tf q cd pt od ex mf af n f trn trf oon oof nx pl ln rf ic il ik iff pn M W s0 s1 s2 s3 sgc wh m0 m1 m2 rn rfp sg C gl gf fl ff mth mfw mse mwd mtd msz mto mfr mso mnu mfa mpl mro msm mln t w r9 KF SS bf lv9 mik su be fe my O9 S9 LF TF C9 rn9 rb TB o9) [some (.ref b), some (.ref (ca 0)), some (.ref (ma 0)), some (.ref oa), some (.int (nI i)), none, none] [] (cs + 1) (sl + 6) 1075) : J γ l x (lW γ ca ma oa dsd tl tf q cd pt od ex mf af n f trn trf oon oof nx pl ln rf ic il ik iff pn M W s0 s1 s2 s3 sgc wh m0 m1 m2 rn rfp sg C gl gf fl ff mth mfw mse mwd mtd msz mto mfr mso mnu mfa mpl mro msm mln t w r9 KF SS bf lv9 mik su be fe my O9 S9 LF TF C9 rn9 rb TB o9) [some (.ref b), some (.ref (ca 0)), some (.ref (ma 0)), some (.ref oa), some (.int (nI i)), none, none] [] cs sl 887 := by
  obtain ⟨⟨htl, ht, hmtd⟩, ⟨hq, hmfa, hmfw⟩, hG, hI, ⟨hnx, hpl, hln, hpR, hmsm⟩, ⟨hmik, him⟩, ⟨hsgc, hPB, hPf, hPV⟩, hsg, hMV⟩ := id hR
  subst ht
  obtain rfl : tl = mtd := hmtd.symm
  subst hmfa
  subst hmfw
  obtain rfl : pl = msm := hmsm.symm
  obtain rfl : ik = mik := hmik.symm
  obtain ⟨hcd, hpt, hod, hex, hmfe, hafe⟩ := id hG
  subst hpt
  subst hod
  subst hex
  have hT := hG.tab
  have hn := hI.2.2.2.2.1
  have hfo := hI.2.2.2.2.2.2
  have hsm := g_small cd hcd
  have hf : ∀ j, j < n → f j < 24 := fun j hj => Nat.lt_of_lt_of_le (hfo j hj) hsm.2.1
  have hJ := jpl_cd hG
  have hO := jop_cd hG
  have hinv : ∀ a, a < god cd → ∀ c, c < god cd → jpl (god cd) mf (jpl (god cd) mf c a) (jop (god cd) af a) = c := fun a ha c hc => by rw [hJ, hO]; exact gP_can hcd ha hc
  have hcs0 : cs ≤ 601024 := by omega
  have hsl0 : sl ≤ 7293034 := by omega
  dsimp only [lW]
  cases hc : jhas a1 (god cd) with
  | false =>
    refine J.aload_n g dL_law_887 rfl rfl ?_
    refine J.aload_n g dL_law_888 rfl rfl ?_
    refine J.iload g dL_law_889 rfl ?_
    refine J.iconstN g 1 dL_law_891 ?_
    refine J.iaddN g dL_law_892 ?_
    refine J.sld g hX (k := i + 1) (by omega) (by omega) h1 dL_law_893 ?_
    refine J.callV0 g (c_X10_come_no l γ _ _ _ _ _ _ _ _ _ _ _ _ _ _ _ _ _ _ _ _ _ _ _ _ _ _ hn hsm.2.1 (Or.inl hc)) jy_X10_come lm_L_124 (q0 := 0) rfl jX10.1 ⟨⟨Nat.le_of_ble_eq_true rfl, Nat.le_of_ble_eq_true rfl⟩, hcs0, hsl0⟩ (Nat.le_of_ble_eq_true rfl) rfl [0, 9, 10, 6, 7, 8] rfl rfl dL_law_894 ?_
    intro _ _
    dsimp only [jpush]
    refine J.aload_n g dL_law_897 rfl rfl ?_
    refine J.aload_n g dL_law_898 rfl rfl ?_
    refine J.iload g dL_law_899 rfl ?_
    refine J.iconstN g 1 dL_law_901 ?_
    refine J.iaddN g dL_law_902 ?_
    refine J.sld g hX (k := i + 1) (by omega) (by omega) h1 dL_law_903 ?_
    refine J.callV g (c_X11_come_no l γ _ _ _ _ _ _ _ _ _ _ _ _ _ _ _ _ _ _ _ _ _ _ _ _ _ _ _ _ _ _ _ _ _ _ _ _ _ _ _ _ _ hI (Or.inl hc)) jy_X11_come lm_L_127 (q0 := 86) rfl jX11.1 ⟨⟨Nat.le_of_ble_eq_true rfl, Nat.le_of_ble_eq_true rfl⟩, hcs0, hsl0⟩ (Nat.le_of_ble_eq_true rfl) rfl [86, 88] rfl (fun _ => rfl) rfl dL_law_904 ?_
    intro _ _
    dsimp only [jput, List.set_cons_zero, List.set_cons_succ, Option.toList, List.append, List.cons_append, List.nil_append, List.append_nil]
    refine J.icmp_eq g dL_law_907 (tgt := 1075) (by decide) (fun c_907 => ?_) (fun c_907 => (c_907 (rfl)).elim)
    exact J.widen (Nat.le_add_right cs 1) (Nat.le_add_right sl 6) (K (hR))
  | true =>
    obtain ⟨k, hk, rfl⟩ := jhas_t hc
    by_cases h12 : n = 12
    ·
      refine J.aload_n g dL_law_887 rfl rfl ?_
      refine J.aload_n g dL_law_888 rfl rfl ?_
      refine J.iload g dL_law_889 rfl ?_
      refine J.iconstN g 1 dL_law_891 ?_
      refine J.iaddN g dL_law_892 ?_
      refine J.sld g hX (k := i + 1) (by omega) (by omega) h1 dL_law_893 ?_
      refine J.callV0 g (c_X10_come_no l γ _ _ _ _ _ _ _ _ _ _ _ _ _ _ _ _ _ _ _ _ _ _ _ _ _ _ hn hsm.2.1 (Or.inr h12)) jy_X10_come lm_L_124 (q0 := 0) rfl jX10.1 ⟨⟨Nat.le_of_ble_eq_true rfl, Nat.le_of_ble_eq_true rfl⟩, hcs0, hsl0⟩ (Nat.le_of_ble_eq_true rfl) rfl [0, 9, 10, 6, 7, 8] rfl rfl dL_law_894 ?_
      intro _ _
      dsimp only [jpush]
      refine J.aload_n g dL_law_897 rfl rfl ?_
      refine J.aload_n g dL_law_898 rfl rfl ?_
      refine J.iload g dL_law_899 rfl ?_
      refine J.iconstN g 1 dL_law_901 ?_
      refine J.iaddN g dL_law_902 ?_
      refine J.sld g hX (k := i + 1) (by omega) (by omega) h1 dL_law_903 ?_
      refine J.callV g (c_X11_come_no l γ _ _ _ _ _ _ _ _ _ _ _ _ _ _ _ _ _ _ _ _ _ _ _ _ _ _ _ _ _ _ _ _ _ _ _ _ _ _ _ _ _ hI (Or.inr h12)) jy_X11_come lm_L_127 (q0 := 86) rfl jX11.1 ⟨⟨Nat.le_of_ble_eq_true rfl, Nat.le_of_ble_eq_true rfl⟩, hcs0, hsl0⟩ (Nat.le_of_ble_eq_true rfl) rfl [86, 88] rfl (fun _ => rfl) rfl dL_law_904 ?_
      intro _ _
      dsimp only [jput, List.set_cons_zero, List.set_cons_succ, Option.toList, List.append, List.cons_append, List.nil_append, List.append_nil]
      refine J.icmp_eq g dL_law_907 (tgt := 1075) (by decide) (fun c_907 => ?_) (fun c_907 => (c_907 (rfl)).elim)
      exact J.widen (Nat.le_add_right cs 1) (Nat.le_add_right sl 6) (K (hR))
    ·
      refine J.aload_n g dL_law_887 rfl rfl ?_
      refine J.aload_n g dL_law_888 rfl rfl ?_
      refine J.iload g dL_law_889 rfl ?_
      refine J.iconstN g 1 dL_law_891 ?_
      refine J.iaddN g dL_law_892 ?_
      refine J.sld g hX (k := i + 1) (by omega) (by omega) h1 dL_law_893 ?_
      refine J.callV g (c_X10_come_yes l γ _ _ _ _ _ _ _ _ _ _ _ _ _ _ _ _ _ _ _ _ _ _ _ _ _ _ _ _ (fun i => ca (17 + 2 * i)) (fun i => ca (18 + 2 * i)) ln rf _ hnx hpl hn hsm.2.1 hk (by omega)) jy_X10_come lm_L_124 (q0 := 0) rfl jX10.1 ⟨⟨Nat.le_of_ble_eq_true rfl, Nat.le_of_ble_eq_true rfl⟩, hcs0, hsl0⟩ (Nat.le_of_ble_eq_true rfl) rfl [0, 9, 10, 6, 7, 8, 15, 16, 17, 18, 19, 20, 21, 22, 23, 24, 25, 26, 27, 28, 29, 30, 31, 32] rfl (fun _ => rfl) rfl dL_law_894 ?_
      intro u_894 h_894
      dsimp only [jput, List.set_cons_zero, List.set_cons_succ, Option.toList, List.append, List.cons_append, List.nil_append, List.append_nil]
      refine J.aload_n g dL_law_897 rfl rfl ?_
      refine J.aload_n g dL_law_898 rfl rfl ?_
      refine J.iload g dL_law_899 rfl ?_
      refine J.iconstN g 1 dL_law_901 ?_
      refine J.iaddN g dL_law_902 ?_
      refine J.sld g hX (k := i + 1) (by omega) (by omega) h1 dL_law_903 ?_
      refine J.callV g (c_X11_come_yes l γ _ _ _ _ _ _ _ _ _ _ _ _ _ _ _ _ _ _ _ _ _ _ _ _ _ _ _ _ _ _ _ _ _ _ _ _ _ _ _ _ _ _ hI hpl hk (by omega)) jy_X11_come lm_L_127 (q0 := 86) rfl jX11.1 ⟨⟨Nat.le_of_ble_eq_true rfl, Nat.le_of_ble_eq_true rfl⟩, hcs0, hsl0⟩ (Nat.le_of_ble_eq_true rfl) rfl [86, 88, 91] rfl (fun _ => rfl) rfl dL_law_904 ?_
      intro u_904 h_904
      dsimp only [jput, List.set_cons_zero, List.set_cons_succ, Option.toList, List.append, List.cons_append, List.nil_append, List.append_nil]
      refine J.icmp_eq g dL_law_907 (tgt := 1075) (by decide) (fun c_907 => ?_) (fun c_907 => (c_907 (rfl)).elim)
      exact J.widen (Nat.le_add_right cs 1) (Nat.le_add_right sl 6) (K (ln := va_up ln nx n) (rf := va_up rf nx u_894) (⟨⟨htl, rfl, rfl⟩, ⟨hq, rfl, rfl⟩, hG, h_904.1, ⟨by split <;> omega, by split <;> omega, (fun j hj => by unfold va_up; split; exact hn; exact hln j hj), pR_push hnx hpl hpR hI (h_894) (h_904.2), by split <;> split <;> omega⟩, ⟨rfl, him⟩, ⟨hsgc, hPB, hPf, hPV⟩, ⟨hsg, hMV⟩⟩))
set_option maxHeartbeats 8000000 in
set_option maxRecDepth 100000 in
theorem lc_go {l : Launch} {γ : jγ} {x : jE} {ca ma : Nat → Nat} {oa b L i cs sl : Nat} {xs : Nat → Int32} {a1 : Int32} (g : jG γ x ({ frames := 2048, cells := 601024, slots := 7293034, locals := 84000 } : Room) code RL (some .boolean)) (hX : jScr x b L xs) (hL : L ≤ 3072) (hi : i + 6 ≤ L) (hcs : cs + 1 ≤ 601024) (hsl : sl + 6 ≤ 7293034) (h1 : xs (i + 1) = a1) {dsd : Int32} {tl : Nat} {tf : Nat → Int32} {q : jRS} {cd pt od ex : Nat} {mf af : Nat → Nat} {n : Nat} {f : Nat → Nat} {trn : Nat} {trf : Nat → Nat} {oon : Nat} {oof : Nat → Nat} {nx pl : Nat} {ln : Nat → Nat} {rf : Nat → Nat → Nat} {ic il : Nat → Nat} {ik : Nat → Bool} {iff : Nat → Nat → Nat} {pn : Nat} {M W : Nat → Nat → Nat} {s0 s1 s2 s3 : Nat → Nat} {sgc wh : Nat} {m0 m1 m2 : Nat → Nat} {rn : Nat} {rfp : Nat → Nat} {sg : Nat} {C : Nat → Nat} {gl : Nat} {gf : Nat → Nat} {fl : Nat} {ff : Nat → Nat} {mth mfw mse : Int32} {mwd : Int64} {mtd msz mto mfr mso mnu mfa mpl mro msm mln : Nat} {t w r9 KF SS bf lv9 : Nat → Nat} {mik : Nat → Bool} {su : Nat → Nat} {be : Nat → Bool} {fe my : Nat → Int32} {O9 : Nat → Nat} {S9 : Nat → Bool} {LF TF C9 rn9 rb TB : Nat → Nat} {o9 : Nat → Int64} (hR : lR tl tf q cd pt od ex mf af n f nx pl ln rf ic il ik iff sgc wh m0 m1 m2 rn rfp sg C fl ff mfw mtd mfa msm t w KF SS mik)
    (K : ∀ {dsd : Int32} {tl : Nat} {tf : Nat → Int32} {q : jRS} {cd pt od ex : Nat} {mf af : Nat → Nat} {n : Nat} {f : Nat → Nat} {trn : Nat} {trf : Nat → Nat} {oon : Nat} {oof : Nat → Nat} {nx pl : Nat} {ln : Nat → Nat} {rf : Nat → Nat → Nat} {ic il : Nat → Nat} {ik : Nat → Bool} {iff : Nat → Nat → Nat} {pn : Nat} {M W : Nat → Nat → Nat} {s0 s1 s2 s3 : Nat → Nat} {sgc wh : Nat} {m0 m1 m2 : Nat → Nat} {rn : Nat} {rfp : Nat → Nat} {sg : Nat} {C : Nat → Nat} {gl : Nat} {gf : Nat → Nat} {fl : Nat} {ff : Nat → Nat} {mth mfw mse : Int32} {mwd : Int64} {mtd msz mto mfr mso mnu mfa mpl mro msm mln : Nat} {t w r9 KF SS bf lv9 : Nat → Nat} {mik : Nat → Bool} {su : Nat → Nat} {be : Nat → Bool} {fe my : Nat → Int32} {O9 : Nat → Nat} {S9 : Nat → Bool} {LF TF C9 rn9 rb TB : Nat → Nat} {o9 : Nat → Int64}, lR tl tf q cd pt od ex mf af n f nx pl ln rf ic il ik iff sgc wh m0 m1 m2 rn rfp sg C fl ff mfw mtd mfa msm t w KF SS mik → J γ l x (lW γ ca ma oa dsd tl tf q cd pt od ex mf af n f trn trf oon oof nx pl ln rf ic il ik iff pn M W s0 s1 s2 s3 sgc wh m0 m1 m2 rn rfp sg C gl gf fl ff mth mfw mse mwd mtd msz mto mfr mso mnu mfa mpl mro msm mln t w r9 KF SS bf lv9 mik su be fe my O9 S9 LF TF C9 rn9 rb TB o9) [some (.ref b), some (.ref (ca 0)), some (.ref (ma 0)), some (.ref oa), some (.int (nI i)), none, none] [] (cs + 1) (sl + 6) 1075) : J γ l x (lW γ ca ma oa dsd tl tf q cd pt od ex mf af n f trn trf oon oof nx pl ln rf ic il ik iff pn M W s0 s1 s2 s3 sgc wh m0 m1 m2 rn rfp sg C gl gf fl ff mth mfw mse mwd mtd msz mto mfr mso mnu mfa mpl mro msm mln t w r9 KF SS bf lv9 mik su be fe my O9 S9 LF TF C9 rn9 rb TB o9) [some (.ref b), some (.ref (ca 0)), some (.ref (ma 0)), some (.ref oa), some (.int (nI i)), none, none] [] cs sl 912 := by
  obtain ⟨⟨htl, ht, hmtd⟩, ⟨hq, hmfa, hmfw⟩, hG, hI, ⟨hnx, hpl, hln, hpR, hmsm⟩, ⟨hmik, him⟩, ⟨hsgc, hPB, hPf, hPV⟩, hsg, hMV⟩ := id hR
  subst ht
  obtain rfl : tl = mtd := hmtd.symm
  subst hmfa
  subst hmfw
  obtain rfl : pl = msm := hmsm.symm
  obtain rfl : ik = mik := hmik.symm
  obtain ⟨hcd, hpt, hod, hex, hmfe, hafe⟩ := id hG
  subst hpt
  subst hod
  subst hex
  have hT := hG.tab
  have hn := hI.2.2.2.2.1
  have hfo := hI.2.2.2.2.2.2
  have hsm := g_small cd hcd
  have hf : ∀ j, j < n → f j < 24 := fun j hj => Nat.lt_of_lt_of_le (hfo j hj) hsm.2.1
  have hJ := jpl_cd hG
  have hO := jop_cd hG
  have hinv : ∀ a, a < god cd → ∀ c, c < god cd → jpl (god cd) mf (jpl (god cd) mf c a) (jop (god cd) af a) = c := fun a ha c hc => by rw [hJ, hO]; exact gP_can hcd ha hc
  have hcs0 : cs ≤ 601024 := by omega
  have hsl0 : sl ≤ 7293034 := by omega
  dsimp only [lW]
  cases hc : jhas a1 (n) with
  | false =>
    refine J.aload_n g dL_law_912 rfl rfl ?_
    refine J.aload_n g dL_law_913 rfl rfl ?_
    refine J.iload g dL_law_914 rfl ?_
    refine J.iconstN g 1 dL_law_916 ?_
    refine J.iaddN g dL_law_917 ?_
    refine J.sld g hX (k := i + 1) (by omega) (by omega) h1 dL_law_918 ?_
    refine J.callV0 g (c_X10_go_no l γ _ _ _ _ _ _ _ _ _ _ _ _ _ _ _ _ _ _ hn hc) jy_X10_go lm_L_128 (q0 := 0) rfl jX10.1 ⟨⟨Nat.le_of_ble_eq_true rfl, Nat.le_of_ble_eq_true rfl⟩, hcs0, hsl0⟩ (Nat.le_of_ble_eq_true rfl) rfl [0, 9, 10] rfl rfl dL_law_919 ?_
    intro _ _
    dsimp only [jpush]
    refine J.aload_n g dL_law_922 rfl rfl ?_
    refine J.aload_n g dL_law_923 rfl rfl ?_
    refine J.iload g dL_law_924 rfl ?_
    refine J.iconstN g 1 dL_law_926 ?_
    refine J.iaddN g dL_law_927 ?_
    refine J.sld g hX (k := i + 1) (by omega) (by omega) h1 dL_law_928 ?_
    refine J.callV g (c_X11_go_no l γ _ _ _ _ _ _ _ _ _ _ _ _ _ _ _ _ _ _ _ _ _ _ _ _ _ _ _ _ _ _ _ _ _ _ _ _ _ _ _ _ _ hI hc) jy_X11_go lm_L_131 (q0 := 86) rfl jX11.1 ⟨⟨Nat.le_of_ble_eq_true rfl, Nat.le_of_ble_eq_true rfl⟩, hcs0, hsl0⟩ (Nat.le_of_ble_eq_true rfl) rfl [86, 88] rfl (fun _ => rfl) rfl dL_law_929 ?_
    intro _ _
    dsimp only [jput, List.set_cons_zero, List.set_cons_succ, Option.toList, List.append, List.cons_append, List.nil_append, List.append_nil]
    refine J.icmp_eq g dL_law_932 (tgt := 1075) (by decide) (fun c_932 => ?_) (fun c_932 => (c_932 (rfl)).elim)
    exact J.widen (Nat.le_add_right cs 1) (Nat.le_add_right sl 6) (K (hR))
  | true =>
    obtain ⟨k, hk, rfl⟩ := jhas_t hc
    refine J.aload_n g dL_law_912 rfl rfl ?_
    refine J.aload_n g dL_law_913 rfl rfl ?_
    refine J.iload g dL_law_914 rfl ?_
    refine J.iconstN g 1 dL_law_916 ?_
    refine J.iaddN g dL_law_917 ?_
    refine J.sld g hX (k := i + 1) (by omega) (by omega) h1 dL_law_918 ?_
    refine J.callV g (c_X10_go_yes l γ _ _ _ _ _ _ _ _ _ _ _ _ _ _ _ _ _ _ _ _ (fun i => ca (17 + 2 * i)) (fun i => ca (18 + 2 * i)) ln rf _ hnx hpl hn hk) jy_X10_go lm_L_128 (q0 := 0) rfl jX10.1 ⟨⟨Nat.le_of_ble_eq_true rfl, Nat.le_of_ble_eq_true rfl⟩, hcs0, hsl0⟩ (Nat.le_of_ble_eq_true rfl) rfl [0, 9, 10, 15, 16, 17, 18, 19, 20, 21, 22, 23, 24, 25, 26, 27, 28, 29, 30, 31, 32] rfl (fun _ => rfl) rfl dL_law_919 ?_
    intro u_919 h_919
    dsimp only [jput, List.set_cons_zero, List.set_cons_succ, Option.toList, List.append, List.cons_append, List.nil_append, List.append_nil]
    refine J.aload_n g dL_law_922 rfl rfl ?_
    refine J.aload_n g dL_law_923 rfl rfl ?_
    refine J.iload g dL_law_924 rfl ?_
    refine J.iconstN g 1 dL_law_926 ?_
    refine J.iaddN g dL_law_927 ?_
    refine J.sld g hX (k := i + 1) (by omega) (by omega) h1 dL_law_928 ?_
    refine J.callV g (c_X11_go_yes l γ _ _ _ _ _ _ _ _ _ _ _ _ _ _ _ _ _ _ _ _ _ _ _ _ _ _ _ _ _ _ _ _ _ _ _ _ _ _ _ _ _ _ hI hpl hk) jy_X11_go lm_L_131 (q0 := 86) rfl jX11.1 ⟨⟨Nat.le_of_ble_eq_true rfl, Nat.le_of_ble_eq_true rfl⟩, hcs0, hsl0⟩ (Nat.le_of_ble_eq_true rfl) rfl [86, 88, 91] rfl (fun _ => rfl) rfl dL_law_929 ?_
    intro u_929 h_929
    dsimp only [jput, List.set_cons_zero, List.set_cons_succ, Option.toList, List.append, List.cons_append, List.nil_append, List.append_nil]
    refine J.icmp_eq g dL_law_932 (tgt := 1075) (by decide) (fun c_932 => ?_) (fun c_932 => (c_932 (rfl)).elim)
    exact J.widen (Nat.le_add_right cs 1) (Nat.le_add_right sl 6) (K (ln := va_up ln nx n) (rf := va_up rf nx u_919.1) (⟨⟨htl, rfl, rfl⟩, ⟨hq, rfl, rfl⟩, hG, by rw [show u_919.2 = _ from funext h_919.2]; exact h_929.1, ⟨by split <;> omega, by split <;> omega, (fun j hj => by unfold va_up; split; exact hn; exact hln j hj), pR_push hnx hpl hpR hI (h_919.1) (h_929.2), by split <;> split <;> omega⟩, ⟨rfl, him⟩, ⟨hsgc, hPB, hPf, hPV⟩, ⟨hsg, hMV⟩⟩))
set_option maxHeartbeats 8000000 in
set_option maxRecDepth 100000 in
theorem lc_times {l : Launch} {γ : jγ} {x : jE} {ca ma : Nat → Nat} {oa b L i cs sl : Nat} {xs : Nat → Int32} {a1 : Int32} (g : jG γ x ({ frames := 2048, cells := 601024, slots := 7293034, locals := 84000 } : Room) code RL (some .boolean)) (hX : jScr x b L xs) (hL : L ≤ 3072) (hi : i + 6 ≤ L) (hcs : cs + 1 ≤ 601024) (hsl : sl + 6 ≤ 7293034) (h1 : xs (i + 1) = a1) {dsd : Int32} {tl : Nat} {tf : Nat → Int32} {q : jRS} {cd pt od ex : Nat} {mf af : Nat → Nat} {n : Nat} {f : Nat → Nat} {trn : Nat} {trf : Nat → Nat} {oon : Nat} {oof : Nat → Nat} {nx pl : Nat} {ln : Nat → Nat} {rf : Nat → Nat → Nat} {ic il : Nat → Nat} {ik : Nat → Bool} {iff : Nat → Nat → Nat} {pn : Nat} {M W : Nat → Nat → Nat} {s0 s1 s2 s3 : Nat → Nat} {sgc wh : Nat} {m0 m1 m2 : Nat → Nat} {rn : Nat} {rfp : Nat → Nat} {sg : Nat} {C : Nat → Nat} {gl : Nat} {gf : Nat → Nat} {fl : Nat} {ff : Nat → Nat} {mth mfw mse : Int32} {mwd : Int64} {mtd msz mto mfr mso mnu mfa mpl mro msm mln : Nat} {t w r9 KF SS bf lv9 : Nat → Nat} {mik : Nat → Bool} {su : Nat → Nat} {be : Nat → Bool} {fe my : Nat → Int32} {O9 : Nat → Nat} {S9 : Nat → Bool} {LF TF C9 rn9 rb TB : Nat → Nat} {o9 : Nat → Int64} (hR : lR tl tf q cd pt od ex mf af n f nx pl ln rf ic il ik iff sgc wh m0 m1 m2 rn rfp sg C fl ff mfw mtd mfa msm t w KF SS mik)
    (K : ∀ {dsd : Int32} {tl : Nat} {tf : Nat → Int32} {q : jRS} {cd pt od ex : Nat} {mf af : Nat → Nat} {n : Nat} {f : Nat → Nat} {trn : Nat} {trf : Nat → Nat} {oon : Nat} {oof : Nat → Nat} {nx pl : Nat} {ln : Nat → Nat} {rf : Nat → Nat → Nat} {ic il : Nat → Nat} {ik : Nat → Bool} {iff : Nat → Nat → Nat} {pn : Nat} {M W : Nat → Nat → Nat} {s0 s1 s2 s3 : Nat → Nat} {sgc wh : Nat} {m0 m1 m2 : Nat → Nat} {rn : Nat} {rfp : Nat → Nat} {sg : Nat} {C : Nat → Nat} {gl : Nat} {gf : Nat → Nat} {fl : Nat} {ff : Nat → Nat} {mth mfw mse : Int32} {mwd : Int64} {mtd msz mto mfr mso mnu mfa mpl mro msm mln : Nat} {t w r9 KF SS bf lv9 : Nat → Nat} {mik : Nat → Bool} {su : Nat → Nat} {be : Nat → Bool} {fe my : Nat → Int32} {O9 : Nat → Nat} {S9 : Nat → Bool} {LF TF C9 rn9 rb TB : Nat → Nat} {o9 : Nat → Int64}, lR tl tf q cd pt od ex mf af n f nx pl ln rf ic il ik iff sgc wh m0 m1 m2 rn rfp sg C fl ff mfw mtd mfa msm t w KF SS mik → J γ l x (lW γ ca ma oa dsd tl tf q cd pt od ex mf af n f trn trf oon oof nx pl ln rf ic il ik iff pn M W s0 s1 s2 s3 sgc wh m0 m1 m2 rn rfp sg C gl gf fl ff mth mfw mse mwd mtd msz mto mfr mso mnu mfa mpl mro msm mln t w r9 KF SS bf lv9 mik su be fe my O9 S9 LF TF C9 rn9 rb TB o9) [some (.ref b), some (.ref (ca 0)), some (.ref (ma 0)), some (.ref oa), some (.int (nI i)), none, none] [] (cs + 1) (sl + 6) 1075) : J γ l x (lW γ ca ma oa dsd tl tf q cd pt od ex mf af n f trn trf oon oof nx pl ln rf ic il ik iff pn M W s0 s1 s2 s3 sgc wh m0 m1 m2 rn rfp sg C gl gf fl ff mth mfw mse mwd mtd msz mto mfr mso mnu mfa mpl mro msm mln t w r9 KF SS bf lv9 mik su be fe my O9 S9 LF TF C9 rn9 rb TB o9) [some (.ref b), some (.ref (ca 0)), some (.ref (ma 0)), some (.ref oa), some (.int (nI i)), none, none] [] cs sl 937 := by
  obtain ⟨⟨htl, ht, hmtd⟩, ⟨hq, hmfa, hmfw⟩, hG, hI, ⟨hnx, hpl, hln, hpR, hmsm⟩, ⟨hmik, him⟩, ⟨hsgc, hPB, hPf, hPV⟩, hsg, hMV⟩ := id hR
  subst ht
  obtain rfl : tl = mtd := hmtd.symm
  subst hmfa
  subst hmfw
  obtain rfl : pl = msm := hmsm.symm
  obtain rfl : ik = mik := hmik.symm
  obtain ⟨hcd, hpt, hod, hex, hmfe, hafe⟩ := id hG
  subst hpt
  subst hod
  subst hex
  have hT := hG.tab
  have hn := hI.2.2.2.2.1
  have hfo := hI.2.2.2.2.2.2
  have hsm := g_small cd hcd
  have hf : ∀ j, j < n → f j < 24 := fun j hj => Nat.lt_of_lt_of_le (hfo j hj) hsm.2.1
  have hJ := jpl_cd hG
  have hO := jop_cd hG
  have hinv : ∀ a, a < god cd → ∀ c, c < god cd → jpl (god cd) mf (jpl (god cd) mf c a) (jop (god cd) af a) = c := fun a ha c hc => by rw [hJ, hO]; exact gP_can hcd ha hc
  have hcs0 : cs ≤ 601024 := by omega
  have hsl0 : sl ≤ 7293034 := by omega
  dsimp only [lW]
  cases hc : jcm (gex cd) n a1 with
  | false =>
    refine J.aload_n g dL_law_937 rfl rfl ?_
    refine J.aload_n g dL_law_938 rfl rfl ?_
    refine J.iload g dL_law_939 rfl ?_
    refine J.iconstN g 1 dL_law_941 ?_
    refine J.iaddN g dL_law_942 ?_
    refine J.sld g hX (k := i + 1) (by omega) (by omega) h1 dL_law_943 ?_
    refine J.callV0 g (c_X10_times_no l γ _ _ _ _ _ _ _ _ _ _ _ _ _ _ _ _ _ _ _ _ _ _ _ _ _ _ hn (by have := hsm.2.2.1; omega) hc) jy_X10_times lm_L_132 (q0 := 0) rfl jX10.1 ⟨⟨Nat.le_of_ble_eq_true rfl, Nat.le_of_ble_eq_true rfl⟩, hcs0, hsl0⟩ (Nat.le_of_ble_eq_true rfl) rfl [0, 9, 10, 6, 7, 8] rfl rfl dL_law_944 ?_
    intro _ _
    dsimp only [jpush]
    refine J.aload_n g dL_law_947 rfl rfl ?_
    refine J.aload_n g dL_law_948 rfl rfl ?_
    refine J.iload g dL_law_949 rfl ?_
    refine J.iconstN g 1 dL_law_951 ?_
    refine J.iaddN g dL_law_952 ?_
    refine J.sld g hX (k := i + 1) (by omega) (by omega) h1 dL_law_953 ?_
    refine J.callV g (c_X11_times_no l γ _ _ _ _ _ _ _ _ _ _ _ _ _ _ _ _ _ _ _ _ _ _ _ _ _ _ _ _ _ _ _ _ _ _ _ _ _ _ _ _ _ hI hc) jy_X11_times lm_L_135 (q0 := 86) rfl jX11.1 ⟨⟨Nat.le_of_ble_eq_true rfl, Nat.le_of_ble_eq_true rfl⟩, hcs0, hsl0⟩ (Nat.le_of_ble_eq_true rfl) rfl [86, 88] rfl (fun _ => rfl) rfl dL_law_954 ?_
    intro _ _
    dsimp only [jput, List.set_cons_zero, List.set_cons_succ, Option.toList, List.append, List.cons_append, List.nil_append, List.append_nil]
    refine J.icmp_eq g dL_law_957 (tgt := 1075) (by decide) (fun c_957 => ?_) (fun c_957 => (c_957 (rfl)).elim)
    exact J.widen (Nat.le_add_right cs 1) (Nat.le_add_right sl 6) (K (hR))
  | true =>
    have hn0 : ¬ n = 0 := fun z => by rw [jcm_0 z] at hc; cases hc
    obtain ⟨k, hk1, hk2, rfl⟩ : ∃ k : Nat, 1 ≤ k ∧ k ≤ 24 ∧ a1 = nI k := by
      by_cases z1 : a1 < nI 1
      · rw [jcm_1 z1] at hc; cases hc
      · by_cases z2 : nI 24 < a1
        · rw [jcm_2 z2] at hc; cases hc
        · exact jcm_k z1 z2
    refine J.aload_n g dL_law_937 rfl rfl ?_
    refine J.aload_n g dL_law_938 rfl rfl ?_
    refine J.iload g dL_law_939 rfl ?_
    refine J.iconstN g 1 dL_law_941 ?_
    refine J.iaddN g dL_law_942 ?_
    refine J.sld g hX (k := i + 1) (by omega) (by omega) h1 dL_law_943 ?_
    refine J.callV g (c_X10_times_yes l γ _ _ _ _ _ _ _ _ _ _ _ _ _ _ _ _ _ _ _ _ _ _ _ _ _ _ _ _ (fun i => ca (17 + 2 * i)) (fun i => ca (18 + 2 * i)) ln rf _ hnx hpl hn (by have := hsm.2.2.1; omega) hT hf hk2 hc) jy_X10_times lm_L_132 (q0 := 0) rfl jX10.1 ⟨⟨Nat.le_of_ble_eq_true rfl, Nat.le_of_ble_eq_true rfl⟩, hcs0, hsl0⟩ (Nat.le_of_ble_eq_true rfl) rfl [0, 9, 10, 6, 7, 8, 15, 16, 17, 18, 19, 20, 21, 22, 23, 24, 25, 26, 27, 28, 29, 30, 31, 32] rfl (fun _ => rfl) rfl dL_law_944 ?_
    intro u_944 h_944
    dsimp only [jput, List.set_cons_zero, List.set_cons_succ, Option.toList, List.append, List.cons_append, List.nil_append, List.append_nil]
    refine J.aload_n g dL_law_947 rfl rfl ?_
    refine J.aload_n g dL_law_948 rfl rfl ?_
    refine J.iload g dL_law_949 rfl ?_
    refine J.iconstN g 1 dL_law_951 ?_
    refine J.iaddN g dL_law_952 ?_
    refine J.sld g hX (k := i + 1) (by omega) (by omega) h1 dL_law_953 ?_
    refine J.callV g (c_X11_times_yes l γ _ _ _ _ _ _ _ _ _ _ _ _ _ _ _ _ _ _ _ _ _ _ _ _ _ _ _ _ _ _ _ _ _ _ _ _ _ _ _ _ _ _ _ hI hpl hk2 hc) jy_X11_times lm_L_135 (q0 := 86) rfl jX11.1 ⟨⟨Nat.le_of_ble_eq_true rfl, Nat.le_of_ble_eq_true rfl⟩, hcs0, hsl0⟩ (Nat.le_of_ble_eq_true rfl) rfl [86, 88, 91, 95] rfl (fun _ => rfl) rfl dL_law_954 ?_
    intro u_954 h_954
    dsimp only [jput, List.set_cons_zero, List.set_cons_succ, Option.toList, List.append, List.cons_append, List.nil_append, List.append_nil]
    refine J.icmp_eq g dL_law_957 (tgt := 1075) (by decide) (fun c_957 => ?_) (fun c_957 => (c_957 (by rw [jsa_t hJ]; unfold jsa; rw [if_neg hn0]; exact congrArg nI (gS_eqf (fun j hj => by rw [h_944.2 j hj, jmul_t hJ]) _))).elim)
    exact J.widen (Nat.le_add_right cs 1) (Nat.le_add_right sl 6) (K (ln := va_up ln nx n) (rf := va_up rf nx u_944.1) (⟨⟨htl, rfl, rfl⟩, ⟨hq, rfl, rfl⟩, hG, mIs_same h_954.1 (fun j hj => by rw [h_944.2 j hj, jmul_t hJ]) (fun _ _ => rfl), ⟨by split <;> omega, by split <;> omega, (fun j hj => by unfold va_up; split; exact hn; exact hln j hj), pR_push hnx hpl hpR hI (h_944.1) (h_954.2), by split <;> split <;> omega⟩, ⟨rfl, him⟩, ⟨hsgc, hPB, hPf, hPV⟩, ⟨hsg, hMV⟩⟩))
set_option maxHeartbeats 8000000 in
set_option maxRecDepth 100000 in
theorem lc_sort {l : Launch} {γ : jγ} {x : jE} {ca ma : Nat → Nat} {oa b L i cs sl : Nat} {xs : Nat → Int32} (g : jG γ x ({ frames := 2048, cells := 601024, slots := 7293034, locals := 84000 } : Room) code RL (some .boolean)) (hX : jScr x b L xs) (hL : L ≤ 3072) (hi : i + 6 ≤ L) (hcs : cs + 1 ≤ 601024) (hsl : sl + 6 ≤ 7293034)  {dsd : Int32} {tl : Nat} {tf : Nat → Int32} {q : jRS} {cd pt od ex : Nat} {mf af : Nat → Nat} {n : Nat} {f : Nat → Nat} {trn : Nat} {trf : Nat → Nat} {oon : Nat} {oof : Nat → Nat} {nx pl : Nat} {ln : Nat → Nat} {rf : Nat → Nat → Nat} {ic il : Nat → Nat} {ik : Nat → Bool} {iff : Nat → Nat → Nat} {pn : Nat} {M W : Nat → Nat → Nat} {s0 s1 s2 s3 : Nat → Nat} {sgc wh : Nat} {m0 m1 m2 : Nat → Nat} {rn : Nat} {rfp : Nat → Nat} {sg : Nat} {C : Nat → Nat} {gl : Nat} {gf : Nat → Nat} {fl : Nat} {ff : Nat → Nat} {mth mfw mse : Int32} {mwd : Int64} {mtd msz mto mfr mso mnu mfa mpl mro msm mln : Nat} {t w r9 KF SS bf lv9 : Nat → Nat} {mik : Nat → Bool} {su : Nat → Nat} {be : Nat → Bool} {fe my : Nat → Int32} {O9 : Nat → Nat} {S9 : Nat → Bool} {LF TF C9 rn9 rb TB : Nat → Nat} {o9 : Nat → Int64} (hR : lR tl tf q cd pt od ex mf af n f nx pl ln rf ic il ik iff sgc wh m0 m1 m2 rn rfp sg C fl ff mfw mtd mfa msm t w KF SS mik)
    (K : ∀ {dsd : Int32} {tl : Nat} {tf : Nat → Int32} {q : jRS} {cd pt od ex : Nat} {mf af : Nat → Nat} {n : Nat} {f : Nat → Nat} {trn : Nat} {trf : Nat → Nat} {oon : Nat} {oof : Nat → Nat} {nx pl : Nat} {ln : Nat → Nat} {rf : Nat → Nat → Nat} {ic il : Nat → Nat} {ik : Nat → Bool} {iff : Nat → Nat → Nat} {pn : Nat} {M W : Nat → Nat → Nat} {s0 s1 s2 s3 : Nat → Nat} {sgc wh : Nat} {m0 m1 m2 : Nat → Nat} {rn : Nat} {rfp : Nat → Nat} {sg : Nat} {C : Nat → Nat} {gl : Nat} {gf : Nat → Nat} {fl : Nat} {ff : Nat → Nat} {mth mfw mse : Int32} {mwd : Int64} {mtd msz mto mfr mso mnu mfa mpl mro msm mln : Nat} {t w r9 KF SS bf lv9 : Nat → Nat} {mik : Nat → Bool} {su : Nat → Nat} {be : Nat → Bool} {fe my : Nat → Int32} {O9 : Nat → Nat} {S9 : Nat → Bool} {LF TF C9 rn9 rb TB : Nat → Nat} {o9 : Nat → Int64}, lR tl tf q cd pt od ex mf af n f nx pl ln rf ic il ik iff sgc wh m0 m1 m2 rn rfp sg C fl ff mfw mtd mfa msm t w KF SS mik → J γ l x (lW γ ca ma oa dsd tl tf q cd pt od ex mf af n f trn trf oon oof nx pl ln rf ic il ik iff pn M W s0 s1 s2 s3 sgc wh m0 m1 m2 rn rfp sg C gl gf fl ff mth mfw mse mwd mtd msz mto mfr mso mnu mfa mpl mro msm mln t w r9 KF SS bf lv9 mik su be fe my O9 S9 LF TF C9 rn9 rb TB o9) [some (.ref b), some (.ref (ca 0)), some (.ref (ma 0)), some (.ref oa), some (.int (nI i)), none, none] [] (cs + 1) (sl + 6) 1075) : J γ l x (lW γ ca ma oa dsd tl tf q cd pt od ex mf af n f trn trf oon oof nx pl ln rf ic il ik iff pn M W s0 s1 s2 s3 sgc wh m0 m1 m2 rn rfp sg C gl gf fl ff mth mfw mse mwd mtd msz mto mfr mso mnu mfa mpl mro msm mln t w r9 KF SS bf lv9 mik su be fe my O9 S9 LF TF C9 rn9 rb TB o9) [some (.ref b), some (.ref (ca 0)), some (.ref (ma 0)), some (.ref oa), some (.int (nI i)), none, none] [] cs sl 962 := by
  obtain ⟨⟨htl, ht, hmtd⟩, ⟨hq, hmfa, hmfw⟩, hG, hI, ⟨hnx, hpl, hln, hpR, hmsm⟩, ⟨hmik, him⟩, ⟨hsgc, hPB, hPf, hPV⟩, hsg, hMV⟩ := id hR
  subst ht
  obtain rfl : tl = mtd := hmtd.symm
  subst hmfa
  subst hmfw
  obtain rfl : pl = msm := hmsm.symm
  obtain rfl : ik = mik := hmik.symm
  obtain ⟨hcd, hpt, hod, hex, hmfe, hafe⟩ := id hG
  subst hpt
  subst hod
  subst hex
  have hT := hG.tab
  have hn := hI.2.2.2.2.1
  have hfo := hI.2.2.2.2.2.2
  have hsm := g_small cd hcd
  have hf : ∀ j, j < n → f j < 24 := fun j hj => Nat.lt_of_lt_of_le (hfo j hj) hsm.2.1
  have hJ := jpl_cd hG
  have hO := jop_cd hG
  have hinv : ∀ a, a < god cd → ∀ c, c < god cd → jpl (god cd) mf (jpl (god cd) mf c a) (jop (god cd) af a) = c := fun a ha c hc => by rw [hJ, hO]; exact gP_can hcd ha hc
  have hcs0 : cs ≤ 601024 := by omega
  have hsl0 : sl ≤ 7293034 := by omega
  dsimp only [lW]
  by_cases he : jels f (jsrt f (n - 1)) n = 0
  ·
    refine J.aload_n g dL_law_962 rfl rfl ?_
    refine J.callV g (c_X10_sort_no l γ _ _ _ _ _ _ _ _ _ _ _ _ _ _ _ _ _ _ _ _ _ _ _ (fun i => ca (17 + 2 * i)) (fun i => ca (18 + 2 * i)) ln rf hnx hpl hn hf he) jy_X10_sort lm_L_136 (q0 := 0) rfl jX10.1 ⟨⟨Nat.le_of_ble_eq_true rfl, Nat.le_of_ble_eq_true rfl⟩, hcs0, hsl0⟩ (Nat.le_of_ble_eq_true rfl) rfl [0, 9, 10, 13, 14, 15, 16, 17, 18, 19, 20, 21, 22, 23, 24, 25, 26, 27, 28, 29, 30, 31, 32] rfl (fun _ => rfl) rfl dL_law_963 ?_
    intro u_963 h_963
    dsimp only [jput, List.set_cons_zero, List.set_cons_succ, Option.toList, List.append, List.cons_append, List.nil_append, List.append_nil]
    refine J.aload_n g dL_law_966 rfl rfl ?_
    refine J.callV g (c_X11_sort_no l γ _ _ _ _ _ _ _ _ _ _ _ _ _ _ _ _ _ _ _ _ _ _ _ _ _ _ _ _ _ _ _ _ _ _ _ _ _ _ _ _ _ _ hI hpl he) jy_X11_sort lm_L_139 (q0 := 86) rfl jX11.1 ⟨⟨Nat.le_of_ble_eq_true rfl, Nat.le_of_ble_eq_true rfl⟩, hcs0, hsl0⟩ (Nat.le_of_ble_eq_true rfl) rfl [86, 88, 91, 102] rfl (fun _ => rfl) rfl dL_law_967 ?_
    intro u_967 h_967
    dsimp only [jput, List.set_cons_zero, List.set_cons_succ, Option.toList, List.append, List.cons_append, List.nil_append, List.append_nil]
    refine J.icmp_eq g dL_law_970 (tgt := 1075) (by decide) (fun c_970 => ?_) (fun c_970 => (c_970 (rfl)).elim)
    exact J.widen (Nat.le_add_right cs 1) (Nat.le_add_right sl 6) (K (hR))
  ·
    refine J.aload_n g dL_law_962 rfl rfl ?_
    refine J.callV g (c_X10_sort_yes l γ _ _ _ _ _ _ _ _ _ _ _ _ _ _ _ _ _ _ _ _ _ _ _ (fun i => ca (17 + 2 * i)) (fun i => ca (18 + 2 * i)) ln rf hnx hpl hn hf he) jy_X10_sort lm_L_136 (q0 := 0) rfl jX10.1 ⟨⟨Nat.le_of_ble_eq_true rfl, Nat.le_of_ble_eq_true rfl⟩, hcs0, hsl0⟩ (Nat.le_of_ble_eq_true rfl) rfl [0, 9, 10, 13, 14, 15, 16, 17, 18, 19, 20, 21, 22, 23, 24, 25, 26, 27, 28, 29, 30, 31, 32] rfl (fun _ => rfl) rfl dL_law_963 ?_
    intro u_963 h_963
    dsimp only [jput, List.set_cons_zero, List.set_cons_succ, Option.toList, List.append, List.cons_append, List.nil_append, List.append_nil]
    refine J.aload_n g dL_law_966 rfl rfl ?_
    refine J.callV g (c_X11_sort_yes l γ _ _ _ _ _ _ _ _ _ _ _ _ _ _ _ _ _ _ _ _ _ _ _ _ _ _ _ _ _ _ _ _ _ _ _ _ _ _ _ _ _ _ hI hpl he) jy_X11_sort lm_L_139 (q0 := 86) rfl jX11.1 ⟨⟨Nat.le_of_ble_eq_true rfl, Nat.le_of_ble_eq_true rfl⟩, hcs0, hsl0⟩ (Nat.le_of_ble_eq_true rfl) rfl [86, 88, 91, 102] rfl (fun _ => rfl) rfl dL_law_967 ?_
    intro u_967 h_967
    dsimp only [jput, List.set_cons_zero, List.set_cons_succ, Option.toList, List.append, List.cons_append, List.nil_append, List.append_nil]
    refine J.icmp_eq g dL_law_970 (tgt := 1075) (by decide) (fun c_970 => ?_) (fun c_970 => (c_970 (rfl)).elim)
    exact J.widen (Nat.le_add_right cs 1) (Nat.le_add_right sl 6) (K (ln := va_up ln nx n) (rf := va_up rf nx u_963.2.2) (⟨⟨htl, rfl, rfl⟩, ⟨hq, rfl, rfl⟩, hG, mIs_same h_967.1 (fun j hj => h_963.1 j hj) (fun _ _ => rfl), ⟨by split <;> omega, by split <;> omega, (fun j hj => by unfold va_up; split; exact hn; exact hln j hj), pR_push hnx hpl hpR hI (h_963.2) (h_967.2), by split <;> split <;> omega⟩, ⟨rfl, him⟩, ⟨hsgc, hPB, hPf, hPV⟩, ⟨hsg, hMV⟩⟩))
set_option maxHeartbeats 8000000 in
set_option maxRecDepth 100000 in
theorem lc_drawn {l : Launch} {γ : jγ} {x : jE} {ca ma : Nat → Nat} {oa b L i cs sl : Nat} {xs : Nat → Int32} {a1 a2 : Int32} (g : jG γ x ({ frames := 2048, cells := 601024, slots := 7293034, locals := 84000 } : Room) code RL (some .boolean)) (hX : jScr x b L xs) (hL : L ≤ 3072) (hi : i + 6 ≤ L) (hcs : cs + 1 ≤ 601024) (hsl : sl + 6 ≤ 7293034) (h1 : xs (i + 1) = a1) (h2 : xs (i + 2) = a2) {dsd : Int32} {tl : Nat} {tf : Nat → Int32} {q : jRS} {cd pt od ex : Nat} {mf af : Nat → Nat} {n : Nat} {f : Nat → Nat} {trn : Nat} {trf : Nat → Nat} {oon : Nat} {oof : Nat → Nat} {nx pl : Nat} {ln : Nat → Nat} {rf : Nat → Nat → Nat} {ic il : Nat → Nat} {ik : Nat → Bool} {iff : Nat → Nat → Nat} {pn : Nat} {M W : Nat → Nat → Nat} {s0 s1 s2 s3 : Nat → Nat} {sgc wh : Nat} {m0 m1 m2 : Nat → Nat} {rn : Nat} {rfp : Nat → Nat} {sg : Nat} {C : Nat → Nat} {gl : Nat} {gf : Nat → Nat} {fl : Nat} {ff : Nat → Nat} {mth mfw mse : Int32} {mwd : Int64} {mtd msz mto mfr mso mnu mfa mpl mro msm mln : Nat} {t w r9 KF SS bf lv9 : Nat → Nat} {mik : Nat → Bool} {su : Nat → Nat} {be : Nat → Bool} {fe my : Nat → Int32} {O9 : Nat → Nat} {S9 : Nat → Bool} {LF TF C9 rn9 rb TB : Nat → Nat} {o9 : Nat → Int64} (hR : lR tl tf q cd pt od ex mf af n f nx pl ln rf ic il ik iff sgc wh m0 m1 m2 rn rfp sg C fl ff mfw mtd mfa msm t w KF SS mik)
    (K : ∀ {dsd : Int32} {tl : Nat} {tf : Nat → Int32} {q : jRS} {cd pt od ex : Nat} {mf af : Nat → Nat} {n : Nat} {f : Nat → Nat} {trn : Nat} {trf : Nat → Nat} {oon : Nat} {oof : Nat → Nat} {nx pl : Nat} {ln : Nat → Nat} {rf : Nat → Nat → Nat} {ic il : Nat → Nat} {ik : Nat → Bool} {iff : Nat → Nat → Nat} {pn : Nat} {M W : Nat → Nat → Nat} {s0 s1 s2 s3 : Nat → Nat} {sgc wh : Nat} {m0 m1 m2 : Nat → Nat} {rn : Nat} {rfp : Nat → Nat} {sg : Nat} {C : Nat → Nat} {gl : Nat} {gf : Nat → Nat} {fl : Nat} {ff : Nat → Nat} {mth mfw mse : Int32} {mwd : Int64} {mtd msz mto mfr mso mnu mfa mpl mro msm mln : Nat} {t w r9 KF SS bf lv9 : Nat → Nat} {mik : Nat → Bool} {su : Nat → Nat} {be : Nat → Bool} {fe my : Nat → Int32} {O9 : Nat → Nat} {S9 : Nat → Bool} {LF TF C9 rn9 rb TB : Nat → Nat} {o9 : Nat → Int64}, lR tl tf q cd pt od ex mf af n f nx pl ln rf ic il ik iff sgc wh m0 m1 m2 rn rfp sg C fl ff mfw mtd mfa msm t w KF SS mik → J γ l x (lW γ ca ma oa dsd tl tf q cd pt od ex mf af n f trn trf oon oof nx pl ln rf ic il ik iff pn M W s0 s1 s2 s3 sgc wh m0 m1 m2 rn rfp sg C gl gf fl ff mth mfw mse mwd mtd msz mto mfr mso mnu mfa mpl mro msm mln t w r9 KF SS bf lv9 mik su be fe my O9 S9 LF TF C9 rn9 rb TB o9) [some (.ref b), some (.ref (ca 0)), some (.ref (ma 0)), some (.ref oa), some (.int (nI i)), none, none] [] (cs + 1) (sl + 6) 1075) : J γ l x (lW γ ca ma oa dsd tl tf q cd pt od ex mf af n f trn trf oon oof nx pl ln rf ic il ik iff pn M W s0 s1 s2 s3 sgc wh m0 m1 m2 rn rfp sg C gl gf fl ff mth mfw mse mwd mtd msz mto mfr mso mnu mfa mpl mro msm mln t w r9 KF SS bf lv9 mik su be fe my O9 S9 LF TF C9 rn9 rb TB o9) [some (.ref b), some (.ref (ca 0)), some (.ref (ma 0)), some (.ref oa), some (.int (nI i)), none, none] [] cs sl 975 := by
  obtain ⟨⟨htl, ht, hmtd⟩, ⟨hq, hmfa, hmfw⟩, hG, hI, ⟨hnx, hpl, hln, hpR, hmsm⟩, ⟨hmik, him⟩, ⟨hsgc, hPB, hPf, hPV⟩, hsg, hMV⟩ := id hR
  subst ht
  obtain rfl : tl = mtd := hmtd.symm
  subst hmfa
  subst hmfw
  obtain rfl : pl = msm := hmsm.symm
  obtain rfl : ik = mik := hmik.symm
  obtain ⟨hcd, hpt, hod, hex, hmfe, hafe⟩ := id hG
  subst hpt
  subst hod
  subst hex
  have hT := hG.tab
  have hn := hI.2.2.2.2.1
  have hfo := hI.2.2.2.2.2.2
  have hsm := g_small cd hcd
  have hf : ∀ j, j < n → f j < 24 := fun j hj => Nat.lt_of_lt_of_le (hfo j hj) hsm.2.1
  have hJ := jpl_cd hG
  have hO := jop_cd hG
  have hinv : ∀ a, a < god cd → ∀ c, c < god cd → jpl (god cd) mf (jpl (god cd) mf c a) (jop (god cd) af a) = c := fun a ha c hc => by rw [hJ, hO]; exact gP_can hcd ha hc
  have hcs0 : cs ≤ 601024 := by omega
  have hsl0 : sl ≤ 7293034 := by omega
  dsimp only [lW]
  cases hw : mIn a1 (nI 1) (nI 60) with
  | false =>
    refine J.aload_n g dL_law_975 rfl rfl ?_
    refine J.aload_n g dL_law_976 rfl rfl ?_
    refine J.iload g dL_law_977 rfl ?_
    refine J.iconstN g 1 dL_law_979 ?_
    refine J.iaddN g dL_law_980 ?_
    refine J.sld g hX (k := i + 1) (by omega) (by omega) h1 dL_law_981 ?_
    refine J.aload_n g dL_law_982 rfl rfl ?_
    refine J.iload g dL_law_983 rfl ?_
    refine J.iconstN g 2 dL_law_985 ?_
    refine J.iaddN g dL_law_986 ?_
    refine J.sld g hX (k := i + 2) (by omega) (by omega) h2 dL_law_987 ?_
    refine J.callV0 g (c_X10_drawn_no l γ _ _ _ _ _ _ _ _ _ _ _ _ _ _ _ _ (mIn_lg hw)) jy_X10_drawn lm_L_140 (q0 := 0) rfl jX10.1 ⟨⟨Nat.le_of_ble_eq_true rfl, Nat.le_of_ble_eq_true rfl⟩, hcs0, hsl0⟩ (Nat.le_of_ble_eq_true rfl) rfl [0] rfl rfl dL_law_988 ?_
    intro _ _
    dsimp only [jpush]
    refine J.aload_n g dL_law_991 rfl rfl ?_
    refine J.aload_n g dL_law_992 rfl rfl ?_
    refine J.iload g dL_law_993 rfl ?_
    refine J.iconstN g 1 dL_law_995 ?_
    refine J.iaddN g dL_law_996 ?_
    refine J.sld g hX (k := i + 1) (by omega) (by omega) h1 dL_law_997 ?_
    refine J.aload_n g dL_law_998 rfl rfl ?_
    refine J.iload g dL_law_999 rfl ?_
    refine J.iconstN g 2 dL_law_1001 ?_
    refine J.iaddN g dL_law_1002 ?_
    refine J.sld g hX (k := i + 2) (by omega) (by omega) h2 dL_law_1003 ?_
    refine J.callV g (c_X11_drawn_no l γ _ _ _ _ _ _ _ _ _ _ _ _ _ _ _ _ _ _ _ _ _ _ _ _ _ _ _ _ _ _ _ _ _ _ _ _ _ _ hw) jy_X11_drawn lm_L_143 (q0 := 86) rfl jX11.1 ⟨⟨Nat.le_of_ble_eq_true rfl, Nat.le_of_ble_eq_true rfl⟩, hcs0, hsl0⟩ (Nat.le_of_ble_eq_true rfl) rfl [86] rfl (fun _ => rfl) rfl dL_law_1004 ?_
    intro _ _
    dsimp only [jput, List.set_cons_zero, List.set_cons_succ, Option.toList, List.append, List.cons_append, List.nil_append, List.append_nil]
    refine J.icmp_eq g dL_law_1007 (tgt := 1075) (by decide) (fun c_1007 => ?_) (fun c_1007 => (c_1007 (rfl)).elim)
    exact J.widen (Nat.le_add_right cs 1) (Nat.le_add_right sl 6) (K (hR))
  | true =>
    obtain ⟨k, hk1, hk2, rfl⟩ := mIn_k9 (by omega) (by omega) hw
    have hodex : god cd = 0 ∨ 1 ≤ gex cd := by
      by_cases z : cd = 0
      · left; rw [z]; decide
      · right; exact gex_pos cd hcd z
    have hD : jdn (god cd) (gex cd) mf (a2, n, f) k = jdn (god cd) (gex cd) (jmf cd) (a2, n, f) k := jdn_t hJ _ _ _
    refine J.aload_n g dL_law_975 rfl rfl ?_
    refine J.aload_n g dL_law_976 rfl rfl ?_
    refine J.iload g dL_law_977 rfl ?_
    refine J.iconstN g 1 dL_law_979 ?_
    refine J.iaddN g dL_law_980 ?_
    refine J.sld g hX (k := i + 1) (by omega) (by omega) h1 dL_law_981 ?_
    refine J.aload_n g dL_law_982 rfl rfl ?_
    refine J.iload g dL_law_983 rfl ?_
    refine J.iconstN g 2 dL_law_985 ?_
    refine J.iaddN g dL_law_986 ?_
    refine J.sld g hX (k := i + 2) (by omega) (by omega) h2 dL_law_987 ?_
    refine J.callV g (c_X10_drawn_yes l γ _ _ _ _ _ _ _ _ _ _ _ _ _ _ _ _ _ _ _ _ _ _ _ _ _ _ _ _ _ _ _ (fun i => ca (17 + 2 * i)) (fun i => ca (18 + 2 * i)) ln rf _ _ hn hT hf hnx hpl hsm.2.2.1 hodex ⟨hk1, hk2⟩) jy_X10_drawn lm_L_140 (q0 := 0) rfl jX10.1 ⟨⟨Nat.le_of_ble_eq_true rfl, Nat.le_of_ble_eq_true rfl⟩, hcs0, hsl0⟩ (Nat.le_of_ble_eq_true rfl) rfl [0, 9, 10, 6, 7, 8, 11, 12, 15, 16, 17, 18, 19, 20, 21, 22, 23, 24, 25, 26, 27, 28, 29, 30, 31, 32] rfl (fun _ => rfl) rfl dL_law_988 ?_
    intro u_988 h_988
    dsimp only [jput, List.set_cons_zero, List.set_cons_succ, Option.toList, List.append, List.cons_append, List.nil_append, List.append_nil]
    refine J.aload_n g dL_law_991 rfl rfl ?_
    refine J.aload_n g dL_law_992 rfl rfl ?_
    refine J.iload g dL_law_993 rfl ?_
    refine J.iconstN g 1 dL_law_995 ?_
    refine J.iaddN g dL_law_996 ?_
    refine J.sld g hX (k := i + 1) (by omega) (by omega) h1 dL_law_997 ?_
    refine J.aload_n g dL_law_998 rfl rfl ?_
    refine J.iload g dL_law_999 rfl ?_
    refine J.iconstN g 2 dL_law_1001 ?_
    refine J.iaddN g dL_law_1002 ?_
    refine J.sld g hX (k := i + 2) (by omega) (by omega) h2 dL_law_1003 ?_
    refine J.callV g (c_X11_drawn_yes l γ _ _ _ _ _ _ _ _ _ _ _ _ _ _ _ _ _ _ _ _ _ _ _ _ _ _ _ _ _ _ _ _ _ _ _ _ _ _ _ _ _ _ _ _ _ hI hpl ⟨hk1, hk2⟩) jy_X11_drawn lm_L_143 (q0 := 86) rfl jX11.1 ⟨⟨Nat.le_of_ble_eq_true rfl, Nat.le_of_ble_eq_true rfl⟩, hcs0, hsl0⟩ (Nat.le_of_ble_eq_true rfl) rfl [86, 88, 91, 92, 93] rfl (fun _ => rfl) rfl dL_law_1004 ?_
    intro u_1004 h_1004
    dsimp only [jput, List.set_cons_zero, List.set_cons_succ, Option.toList, List.append, List.cons_append, List.nil_append, List.append_nil]
    refine J.icmp_eq g dL_law_1007 (tgt := 1075) (by decide) (fun c_1007 => ?_) (fun c_1007 => (c_1007 (by rw [hD])).elim)
    exact J.widen (Nat.le_add_right cs 1) (Nat.le_add_right sl 6) (K (ln := if 0 < (jdn (god cd) (gex cd) mf (a2, n, f) k).1 then va_up ln nx n else ln) (rf := if 0 < (jdn (god cd) (gex cd) mf (a2, n, f) k).1 then va_up rf nx u_988.2.2 else rf) (⟨⟨htl, rfl, rfl⟩, ⟨hq, rfl, rfl⟩, hG, by obtain ⟨p1, p2, p3⟩ := h_988.1; rw [hD] at p2 p3; exact p2 ▸ mIs_same h_1004.1 (fun j hj => p3 j (p2.symm ▸ hj)) (fun _ _ => rfl), ⟨by split; (split <;> omega); exact hnx, by split; (split <;> omega); exact hpl, (fun j hj => by split; (unfold va_up; split; exact hn; exact hln j hj); exact hln j hj), (by have hz := h_1004.2; rw [← hD] at hz; by_cases z : 0 < (jdn (god cd) (gex cd) mf (a2, n, f) k).1; (simp only [if_pos z] at hz ⊢; exact pR_push hnx hpl hpR hI h_988.2 hz); (simp only [if_neg z] at hz ⊢; rw [hz]; exact hpR)), by rw [hD]; split; (split <;> split <;> omega); rfl⟩, ⟨rfl, him⟩, ⟨hsgc, hPB, hPf, hPV⟩, ⟨hsg, hMV⟩⟩))
set_option maxHeartbeats 8000000 in
set_option maxRecDepth 100000 in
theorem lc_undo {l : Launch} {γ : jγ} {x : jE} {ca ma : Nat → Nat} {oa b L i cs sl : Nat} {xs : Nat → Int32} (g : jG γ x ({ frames := 2048, cells := 601024, slots := 7293034, locals := 84000 } : Room) code RL (some .boolean)) (hX : jScr x b L xs) (hL : L ≤ 3072) (hi : i + 6 ≤ L) (hcs : cs + 1 ≤ 601024) (hsl : sl + 6 ≤ 7293034)  {dsd : Int32} {tl : Nat} {tf : Nat → Int32} {q : jRS} {cd pt od ex : Nat} {mf af : Nat → Nat} {n : Nat} {f : Nat → Nat} {trn : Nat} {trf : Nat → Nat} {oon : Nat} {oof : Nat → Nat} {nx pl : Nat} {ln : Nat → Nat} {rf : Nat → Nat → Nat} {ic il : Nat → Nat} {ik : Nat → Bool} {iff : Nat → Nat → Nat} {pn : Nat} {M W : Nat → Nat → Nat} {s0 s1 s2 s3 : Nat → Nat} {sgc wh : Nat} {m0 m1 m2 : Nat → Nat} {rn : Nat} {rfp : Nat → Nat} {sg : Nat} {C : Nat → Nat} {gl : Nat} {gf : Nat → Nat} {fl : Nat} {ff : Nat → Nat} {mth mfw mse : Int32} {mwd : Int64} {mtd msz mto mfr mso mnu mfa mpl mro msm mln : Nat} {t w r9 KF SS bf lv9 : Nat → Nat} {mik : Nat → Bool} {su : Nat → Nat} {be : Nat → Bool} {fe my : Nat → Int32} {O9 : Nat → Nat} {S9 : Nat → Bool} {LF TF C9 rn9 rb TB : Nat → Nat} {o9 : Nat → Int64} (hR : lR tl tf q cd pt od ex mf af n f nx pl ln rf ic il ik iff sgc wh m0 m1 m2 rn rfp sg C fl ff mfw mtd mfa msm t w KF SS mik)
    (K : ∀ {dsd : Int32} {tl : Nat} {tf : Nat → Int32} {q : jRS} {cd pt od ex : Nat} {mf af : Nat → Nat} {n : Nat} {f : Nat → Nat} {trn : Nat} {trf : Nat → Nat} {oon : Nat} {oof : Nat → Nat} {nx pl : Nat} {ln : Nat → Nat} {rf : Nat → Nat → Nat} {ic il : Nat → Nat} {ik : Nat → Bool} {iff : Nat → Nat → Nat} {pn : Nat} {M W : Nat → Nat → Nat} {s0 s1 s2 s3 : Nat → Nat} {sgc wh : Nat} {m0 m1 m2 : Nat → Nat} {rn : Nat} {rfp : Nat → Nat} {sg : Nat} {C : Nat → Nat} {gl : Nat} {gf : Nat → Nat} {fl : Nat} {ff : Nat → Nat} {mth mfw mse : Int32} {mwd : Int64} {mtd msz mto mfr mso mnu mfa mpl mro msm mln : Nat} {t w r9 KF SS bf lv9 : Nat → Nat} {mik : Nat → Bool} {su : Nat → Nat} {be : Nat → Bool} {fe my : Nat → Int32} {O9 : Nat → Nat} {S9 : Nat → Bool} {LF TF C9 rn9 rb TB : Nat → Nat} {o9 : Nat → Int64}, lR tl tf q cd pt od ex mf af n f nx pl ln rf ic il ik iff sgc wh m0 m1 m2 rn rfp sg C fl ff mfw mtd mfa msm t w KF SS mik → J γ l x (lW γ ca ma oa dsd tl tf q cd pt od ex mf af n f trn trf oon oof nx pl ln rf ic il ik iff pn M W s0 s1 s2 s3 sgc wh m0 m1 m2 rn rfp sg C gl gf fl ff mth mfw mse mwd mtd msz mto mfr mso mnu mfa mpl mro msm mln t w r9 KF SS bf lv9 mik su be fe my O9 S9 LF TF C9 rn9 rb TB o9) [some (.ref b), some (.ref (ca 0)), some (.ref (ma 0)), some (.ref oa), some (.int (nI i)), none, none] [] (cs + 1) (sl + 6) 1075) : J γ l x (lW γ ca ma oa dsd tl tf q cd pt od ex mf af n f trn trf oon oof nx pl ln rf ic il ik iff pn M W s0 s1 s2 s3 sgc wh m0 m1 m2 rn rfp sg C gl gf fl ff mth mfw mse mwd mtd msz mto mfr mso mnu mfa mpl mro msm mln t w r9 KF SS bf lv9 mik su be fe my O9 S9 LF TF C9 rn9 rb TB o9) [some (.ref b), some (.ref (ca 0)), some (.ref (ma 0)), some (.ref oa), some (.int (nI i)), none, none] [] cs sl 1012 := by
  obtain ⟨⟨htl, ht, hmtd⟩, ⟨hq, hmfa, hmfw⟩, hG, hI, ⟨hnx, hpl, hln, hpR, hmsm⟩, ⟨hmik, him⟩, ⟨hsgc, hPB, hPf, hPV⟩, hsg, hMV⟩ := id hR
  subst ht
  obtain rfl : tl = mtd := hmtd.symm
  subst hmfa
  subst hmfw
  obtain rfl : pl = msm := hmsm.symm
  obtain rfl : ik = mik := hmik.symm
  obtain ⟨hcd, hpt, hod, hex, hmfe, hafe⟩ := id hG
  subst hpt
  subst hod
  subst hex
  have hT := hG.tab
  have hn := hI.2.2.2.2.1
  have hfo := hI.2.2.2.2.2.2
  have hsm := g_small cd hcd
  have hf : ∀ j, j < n → f j < 24 := fun j hj => Nat.lt_of_lt_of_le (hfo j hj) hsm.2.1
  have hJ := jpl_cd hG
  have hO := jop_cd hG
  have hinv : ∀ a, a < god cd → ∀ c, c < god cd → jpl (god cd) mf (jpl (god cd) mf c a) (jop (god cd) af a) = c := fun a ha c hc => by rw [hJ, hO]; exact gP_can hcd ha hc
  have hcs0 : cs ≤ 601024 := by omega
  have hsl0 : sl ≤ 7293034 := by omega
  dsimp only [lW]
  by_cases h0 : pl = 0
  ·
    refine J.aload_n g dL_law_1012 rfl rfl ?_
    refine J.callV0 g (c_X10_undo_no l γ _ _ _ _ _ _ _ _ _ _ _ _ _ _ _ _ _ h0) jy_X10_undo lm_L_144 (q0 := 0) rfl jX10.1 ⟨⟨Nat.le_of_ble_eq_true rfl, Nat.le_of_ble_eq_true rfl⟩, hcs0, hsl0⟩ (Nat.le_of_ble_eq_true rfl) rfl [0, 15] rfl rfl dL_law_1013 ?_
    intro _ _
    dsimp only [jpush]
    refine J.aload_n g dL_law_1016 rfl rfl ?_
    refine J.callV g (c_X11_undo_no l γ _ _ _ _ _ _ _ _ _ _ _ _ _ _ _ _ _ _ _ _ _ _ _ _ _ _ _ _ _ _ _ _ _ _ _ _ h0) jy_X11_undo lm_L_147 (q0 := 86) rfl jX11.1 ⟨⟨Nat.le_of_ble_eq_true rfl, Nat.le_of_ble_eq_true rfl⟩, hcs0, hsl0⟩ (Nat.le_of_ble_eq_true rfl) rfl [86] rfl (fun _ => rfl) rfl dL_law_1017 ?_
    intro _ _
    dsimp only [jput, List.set_cons_zero, List.set_cons_succ, Option.toList, List.append, List.cons_append, List.nil_append, List.append_nil]
    refine J.icmp_eq g dL_law_1020 (tgt := 1075) (by decide) (fun c_1020 => ?_) (fun c_1020 => (c_1020 (rfl)).elim)
    exact J.widen (Nat.le_add_right cs 1) (Nat.le_add_right sl 6) (K (hR))
  ·
    refine J.aload_n g dL_law_1012 rfl rfl ?_
    refine J.callV g (c_X10_undo_yes l γ _ _ _ _ _ _ _ _ _ _ _ _ _ _ _ _ _ _ _ _ (fun i => ca (17 + 2 * i)) (fun i => ca (18 + 2 * i)) ln rf hnx (by omega) hpl hln) jy_X10_undo lm_L_144 (q0 := 0) rfl jX10.1 ⟨⟨Nat.le_of_ble_eq_true rfl, Nat.le_of_ble_eq_true rfl⟩, hcs0, hsl0⟩ (Nat.le_of_ble_eq_true rfl) rfl [0, 9, 10, 15, 16, 17, 18, 19, 20, 21, 22, 23, 24, 25, 26, 27, 28, 29, 30, 31, 32] rfl (fun _ => rfl) rfl dL_law_1013 ?_
    intro u_1013 h_1013
    dsimp only [jput, List.set_cons_zero, List.set_cons_succ, Option.toList, List.append, List.cons_append, List.nil_append, List.append_nil]
    refine J.aload_n g dL_law_1016 rfl rfl ?_
    refine J.callV g (c_X11_undo_yes l γ _ _ _ _ _ _ _ _ _ _ _ _ _ _ _ _ _ _ _ _ _ _ _ _ _ _ _ _ _ _ _ _ _ _ _ _ _ _ ⟨by omega, hpl⟩) jy_X11_undo lm_L_147 (q0 := 86) rfl jX11.1 ⟨⟨Nat.le_of_ble_eq_true rfl, Nat.le_of_ble_eq_true rfl⟩, hcs0, hsl0⟩ (Nat.le_of_ble_eq_true rfl) rfl [86, 88, 91] rfl (fun _ => rfl) rfl dL_law_1017 ?_
    intro u_1017 h_1017
    dsimp only [jput, List.set_cons_zero, List.set_cons_succ, Option.toList, List.append, List.cons_append, List.nil_append, List.append_nil]
    refine J.icmp_eq g dL_law_1020 (tgt := 1075) (by decide) (fun c_1020 => ?_) (fun c_1020 => (c_1020 (rfl)).elim)
    exact J.widen (Nat.le_add_right cs 1) (Nat.le_add_right sl 6) (K (⟨⟨htl, rfl, rfl⟩, ⟨hq, rfl, rfl⟩, hG, mIs_same (pR_pop hnx (by omega) hpl hpR).2 h_1013 h_1017, ⟨by split <;> omega, by omega, hln, (pR_pop hnx (by omega) hpl hpR).1, rfl⟩, ⟨rfl, him⟩, ⟨hsgc, hPB, hPf, hPV⟩, ⟨hsg, hMV⟩⟩))
set_option maxHeartbeats 8000000 in
set_option maxRecDepth 100000 in
theorem lc_image {l : Launch} {γ : jγ} {x : jE} {ca ma : Nat → Nat} {oa b L i cs sl : Nat} {xs : Nat → Int32} {a1 : Int32} (g : jG γ x ({ frames := 2048, cells := 601024, slots := 7293034, locals := 84000 } : Room) code RL (some .boolean)) (hX : jScr x b L xs) (hL : L ≤ 3072) (hi : i + 6 ≤ L) (hcs : cs + 1 ≤ 601024) (hsl : sl + 6 ≤ 7293034) (h1 : xs (i + 1) = a1) {dsd : Int32} {tl : Nat} {tf : Nat → Int32} {q : jRS} {cd pt od ex : Nat} {mf af : Nat → Nat} {n : Nat} {f : Nat → Nat} {trn : Nat} {trf : Nat → Nat} {oon : Nat} {oof : Nat → Nat} {nx pl : Nat} {ln : Nat → Nat} {rf : Nat → Nat → Nat} {ic il : Nat → Nat} {ik : Nat → Bool} {iff : Nat → Nat → Nat} {pn : Nat} {M W : Nat → Nat → Nat} {s0 s1 s2 s3 : Nat → Nat} {sgc wh : Nat} {m0 m1 m2 : Nat → Nat} {rn : Nat} {rfp : Nat → Nat} {sg : Nat} {C : Nat → Nat} {gl : Nat} {gf : Nat → Nat} {fl : Nat} {ff : Nat → Nat} {mth mfw mse : Int32} {mwd : Int64} {mtd msz mto mfr mso mnu mfa mpl mro msm mln : Nat} {t w r9 KF SS bf lv9 : Nat → Nat} {mik : Nat → Bool} {su : Nat → Nat} {be : Nat → Bool} {fe my : Nat → Int32} {O9 : Nat → Nat} {S9 : Nat → Bool} {LF TF C9 rn9 rb TB : Nat → Nat} {o9 : Nat → Int64} (hR : lR tl tf q cd pt od ex mf af n f nx pl ln rf ic il ik iff sgc wh m0 m1 m2 rn rfp sg C fl ff mfw mtd mfa msm t w KF SS mik)
    (K : ∀ {dsd : Int32} {tl : Nat} {tf : Nat → Int32} {q : jRS} {cd pt od ex : Nat} {mf af : Nat → Nat} {n : Nat} {f : Nat → Nat} {trn : Nat} {trf : Nat → Nat} {oon : Nat} {oof : Nat → Nat} {nx pl : Nat} {ln : Nat → Nat} {rf : Nat → Nat → Nat} {ic il : Nat → Nat} {ik : Nat → Bool} {iff : Nat → Nat → Nat} {pn : Nat} {M W : Nat → Nat → Nat} {s0 s1 s2 s3 : Nat → Nat} {sgc wh : Nat} {m0 m1 m2 : Nat → Nat} {rn : Nat} {rfp : Nat → Nat} {sg : Nat} {C : Nat → Nat} {gl : Nat} {gf : Nat → Nat} {fl : Nat} {ff : Nat → Nat} {mth mfw mse : Int32} {mwd : Int64} {mtd msz mto mfr mso mnu mfa mpl mro msm mln : Nat} {t w r9 KF SS bf lv9 : Nat → Nat} {mik : Nat → Bool} {su : Nat → Nat} {be : Nat → Bool} {fe my : Nat → Int32} {O9 : Nat → Nat} {S9 : Nat → Bool} {LF TF C9 rn9 rb TB : Nat → Nat} {o9 : Nat → Int64}, lR tl tf q cd pt od ex mf af n f nx pl ln rf ic il ik iff sgc wh m0 m1 m2 rn rfp sg C fl ff mfw mtd mfa msm t w KF SS mik → J γ l x (lW γ ca ma oa dsd tl tf q cd pt od ex mf af n f trn trf oon oof nx pl ln rf ic il ik iff pn M W s0 s1 s2 s3 sgc wh m0 m1 m2 rn rfp sg C gl gf fl ff mth mfw mse mwd mtd msz mto mfr mso mnu mfa mpl mro msm mln t w r9 KF SS bf lv9 mik su be fe my O9 S9 LF TF C9 rn9 rb TB o9) [some (.ref b), some (.ref (ca 0)), some (.ref (ma 0)), some (.ref oa), some (.int (nI i)), none, none] [] (cs + 1) (sl + 6) 1075) : J γ l x (lW γ ca ma oa dsd tl tf q cd pt od ex mf af n f trn trf oon oof nx pl ln rf ic il ik iff pn M W s0 s1 s2 s3 sgc wh m0 m1 m2 rn rfp sg C gl gf fl ff mth mfw mse mwd mtd msz mto mfr mso mnu mfa mpl mro msm mln t w r9 KF SS bf lv9 mik su be fe my O9 S9 LF TF C9 rn9 rb TB o9) [some (.ref b), some (.ref (ca 0)), some (.ref (ma 0)), some (.ref oa), some (.int (nI i)), none, none] [] cs sl 1025 := by
  obtain ⟨⟨htl, ht, hmtd⟩, ⟨hq, hmfa, hmfw⟩, hG, hI, ⟨hnx, hpl, hln, hpR, hmsm⟩, ⟨hmik, him⟩, ⟨hsgc, hPB, hPf, hPV⟩, hsg, hMV⟩ := id hR
  subst ht
  obtain rfl : tl = mtd := hmtd.symm
  subst hmfa
  subst hmfw
  obtain rfl : pl = msm := hmsm.symm
  obtain rfl : ik = mik := hmik.symm
  obtain ⟨hcd, hpt, hod, hex, hmfe, hafe⟩ := id hG
  subst hpt
  subst hod
  subst hex
  have hT := hG.tab
  have hn := hI.2.2.2.2.1
  have hfo := hI.2.2.2.2.2.2
  have hsm := g_small cd hcd
  have hf : ∀ j, j < n → f j < 24 := fun j hj => Nat.lt_of_lt_of_le (hfo j hj) hsm.2.1
  have hJ := jpl_cd hG
  have hO := jop_cd hG
  have hinv : ∀ a, a < god cd → ∀ c, c < god cd → jpl (god cd) mf (jpl (god cd) mf c a) (jop (god cd) af a) = c := fun a ha c hc => by rw [hJ, hO]; exact gP_can hcd ha hc
  have hcs0 : cs ≤ 601024 := by omega
  have hsl0 : sl ≤ 7293034 := by omega
  dsimp only [lW]
  cases hc : jhas a1 (2) with
  | false =>
    refine J.aload_n g dL_law_1025 rfl rfl ?_
    refine J.aload_n g dL_law_1026 rfl rfl ?_
    refine J.iload g dL_law_1027 rfl ?_
    refine J.iconstN g 1 dL_law_1029 ?_
    refine J.iaddN g dL_law_1030 ?_
    refine J.sld g hX (k := i + 1) (by omega) (by omega) h1 dL_law_1031 ?_
    refine J.callV0 g (c_X10_image_no l γ _ _ _ _ _ _ _ _ _ _ _ _ _ _ (fun i => ca (34 + 3 * i)) _ hc) jy_X10_image lm_L_148 (q0 := 0) rfl jX10.1 ⟨⟨Nat.le_of_ble_eq_true rfl, Nat.le_of_ble_eq_true rfl⟩, hcs0, hsl0⟩ (Nat.le_of_ble_eq_true rfl) rfl [0, 33] rfl rfl dL_law_1032 ?_
    intro _ _
    dsimp only [jpush]
    refine J.aload_n g dL_law_1035 rfl rfl ?_
    refine J.aload_n g dL_law_1036 rfl rfl ?_
    refine J.iload g dL_law_1037 rfl ?_
    refine J.iconstN g 1 dL_law_1039 ?_
    refine J.iaddN g dL_law_1040 ?_
    refine J.sld g hX (k := i + 1) (by omega) (by omega) h1 dL_law_1041 ?_
    refine J.callV g (c_X11_image_no l γ _ _ _ _ _ _ _ _ _ _ _ _ _ _ _ _ _ _ _ _ _ _ _ _ _ _ _ _ _ _ _ _ _ _ _ _ _ (by rw [mIn_le (by decide)]; exact hc)) jy_X11_image lm_L_151 (q0 := 86) rfl jX11.1 ⟨⟨Nat.le_of_ble_eq_true rfl, Nat.le_of_ble_eq_true rfl⟩, hcs0, hsl0⟩ (Nat.le_of_ble_eq_true rfl) rfl [86] rfl (fun _ => rfl) rfl dL_law_1042 ?_
    intro _ _
    dsimp only [jput, List.set_cons_zero, List.set_cons_succ, Option.toList, List.append, List.cons_append, List.nil_append, List.append_nil]
    refine J.icmp_eq g dL_law_1045 (tgt := 1075) (by decide) (fun c_1045 => ?_) (fun c_1045 => (c_1045 (rfl)).elim)
    exact J.widen (Nat.le_add_right cs 1) (Nat.le_add_right sl 6) (K (hR))
  | true =>
    obtain ⟨k, hk, rfl⟩ := jhas_t hc
    refine J.aload_n g dL_law_1025 rfl rfl ?_
    refine J.aload_n g dL_law_1026 rfl rfl ?_
    refine J.iload g dL_law_1027 rfl ?_
    refine J.iconstN g 1 dL_law_1029 ?_
    refine J.iaddN g dL_law_1030 ?_
    refine J.sld g hX (k := i + 1) (by omega) (by omega) h1 dL_law_1031 ?_
    refine J.callV g (c_X10_image_yes l γ _ _ _ _ _ _ _ _ _ _ _ _ _ _ _ _ _ _ _ _ _ _ _ _ _ (fun i => ca (34 + 3 * i)) (fun i => ca (35 + 3 * i)) (fun i => ca (36 + 3 * i)) ic il ik iff _ hn hk) jy_X10_image lm_L_148 (q0 := 0) rfl jX10.1 ⟨⟨Nat.le_of_ble_eq_true rfl, Nat.le_of_ble_eq_true rfl⟩, hcs0, hsl0⟩ (Nat.le_of_ble_eq_true rfl) rfl [0, 9, 10, 6, 7, 8, 33, 34, 35, 36, 37, 38, 39] rfl (fun _ => rfl) rfl dL_law_1032 ?_
    intro u_1032 h_1032
    dsimp only [jput, List.set_cons_zero, List.set_cons_succ, Option.toList, List.append, List.cons_append, List.nil_append, List.append_nil]
    refine J.aload_n g dL_law_1035 rfl rfl ?_
    refine J.aload_n g dL_law_1036 rfl rfl ?_
    refine J.iload g dL_law_1037 rfl ?_
    refine J.iconstN g 1 dL_law_1039 ?_
    refine J.iaddN g dL_law_1040 ?_
    refine J.sld g hX (k := i + 1) (by omega) (by omega) h1 dL_law_1041 ?_
    refine J.callV g (c_X11_image_yes l γ _ _ _ _ _ _ _ _ _ _ _ _ _ _ _ _ _ _ _ _ _ _ _ _ _ _ _ _ _ _ _ _ _ _ _ _ _ _ ik _ hk) jy_X11_image lm_L_151 (q0 := 86) rfl jX11.1 ⟨⟨Nat.le_of_ble_eq_true rfl, Nat.le_of_ble_eq_true rfl⟩, hcs0, hsl0⟩ (Nat.le_of_ble_eq_true rfl) rfl [86, 88, 90, 94] rfl (fun _ => rfl) rfl dL_law_1042 ?_
    intro u_1042 h_1042
    dsimp only [jput, List.set_cons_zero, List.set_cons_succ, Option.toList, List.append, List.cons_append, List.nil_append, List.append_nil]
    refine J.icmp_eq g dL_law_1045 (tgt := 1075) (by decide) (fun c_1045 => ?_) (fun c_1045 => (c_1045 (rfl)).elim)
    exact J.widen (Nat.le_add_right cs 1) (Nat.le_add_right sl 6) (K (ic := va_up ic k cd) (il := va_up il k n) (ik := va_up ik k true) (iff := va_up iff k u_1032) (⟨⟨htl, rfl, rfl⟩, ⟨hq, rfl, rfl⟩, hG, hI, ⟨hnx, hpl, hln, hpR, rfl⟩, ⟨rfl, fun j hj hjk => by by_cases z : j = k; (subst z; rw [uq_at, uq_at, uq_at]; exact mIs_same hI h_1032 (fun y hy => by rw [h_1042 j y hj hy, if_pos rfl])); (rw [uq_ne z] at hjk; rw [uq_ne z, uq_ne z, uq_ne z]; exact mIs_same (him j hj hjk) (fun _ _ => rfl) (fun y hy => by rw [h_1042 j y hj hy, if_neg z]))⟩, ⟨hsgc, hPB, hPf, hPV⟩, ⟨hsg, hMV⟩⟩))
set_option maxHeartbeats 8000000 in
set_option maxRecDepth 100000 in
theorem lc_restore {l : Launch} {γ : jγ} {x : jE} {ca ma : Nat → Nat} {oa b L i cs sl : Nat} {xs : Nat → Int32} {a1 : Int32} (g : jG γ x ({ frames := 2048, cells := 601024, slots := 7293034, locals := 84000 } : Room) code RL (some .boolean)) (hX : jScr x b L xs) (hL : L ≤ 3072) (hi : i + 6 ≤ L) (hcs : cs + 1 ≤ 601024) (hsl : sl + 6 ≤ 7293034) (h1 : xs (i + 1) = a1) {dsd : Int32} {tl : Nat} {tf : Nat → Int32} {q : jRS} {cd pt od ex : Nat} {mf af : Nat → Nat} {n : Nat} {f : Nat → Nat} {trn : Nat} {trf : Nat → Nat} {oon : Nat} {oof : Nat → Nat} {nx pl : Nat} {ln : Nat → Nat} {rf : Nat → Nat → Nat} {ic il : Nat → Nat} {ik : Nat → Bool} {iff : Nat → Nat → Nat} {pn : Nat} {M W : Nat → Nat → Nat} {s0 s1 s2 s3 : Nat → Nat} {sgc wh : Nat} {m0 m1 m2 : Nat → Nat} {rn : Nat} {rfp : Nat → Nat} {sg : Nat} {C : Nat → Nat} {gl : Nat} {gf : Nat → Nat} {fl : Nat} {ff : Nat → Nat} {mth mfw mse : Int32} {mwd : Int64} {mtd msz mto mfr mso mnu mfa mpl mro msm mln : Nat} {t w r9 KF SS bf lv9 : Nat → Nat} {mik : Nat → Bool} {su : Nat → Nat} {be : Nat → Bool} {fe my : Nat → Int32} {O9 : Nat → Nat} {S9 : Nat → Bool} {LF TF C9 rn9 rb TB : Nat → Nat} {o9 : Nat → Int64} (hR : lR tl tf q cd pt od ex mf af n f nx pl ln rf ic il ik iff sgc wh m0 m1 m2 rn rfp sg C fl ff mfw mtd mfa msm t w KF SS mik)
    (K : ∀ {dsd : Int32} {tl : Nat} {tf : Nat → Int32} {q : jRS} {cd pt od ex : Nat} {mf af : Nat → Nat} {n : Nat} {f : Nat → Nat} {trn : Nat} {trf : Nat → Nat} {oon : Nat} {oof : Nat → Nat} {nx pl : Nat} {ln : Nat → Nat} {rf : Nat → Nat → Nat} {ic il : Nat → Nat} {ik : Nat → Bool} {iff : Nat → Nat → Nat} {pn : Nat} {M W : Nat → Nat → Nat} {s0 s1 s2 s3 : Nat → Nat} {sgc wh : Nat} {m0 m1 m2 : Nat → Nat} {rn : Nat} {rfp : Nat → Nat} {sg : Nat} {C : Nat → Nat} {gl : Nat} {gf : Nat → Nat} {fl : Nat} {ff : Nat → Nat} {mth mfw mse : Int32} {mwd : Int64} {mtd msz mto mfr mso mnu mfa mpl mro msm mln : Nat} {t w r9 KF SS bf lv9 : Nat → Nat} {mik : Nat → Bool} {su : Nat → Nat} {be : Nat → Bool} {fe my : Nat → Int32} {O9 : Nat → Nat} {S9 : Nat → Bool} {LF TF C9 rn9 rb TB : Nat → Nat} {o9 : Nat → Int64}, lR tl tf q cd pt od ex mf af n f nx pl ln rf ic il ik iff sgc wh m0 m1 m2 rn rfp sg C fl ff mfw mtd mfa msm t w KF SS mik → J γ l x (lW γ ca ma oa dsd tl tf q cd pt od ex mf af n f trn trf oon oof nx pl ln rf ic il ik iff pn M W s0 s1 s2 s3 sgc wh m0 m1 m2 rn rfp sg C gl gf fl ff mth mfw mse mwd mtd msz mto mfr mso mnu mfa mpl mro msm mln t w r9 KF SS bf lv9 mik su be fe my O9 S9 LF TF C9 rn9 rb TB o9) [some (.ref b), some (.ref (ca 0)), some (.ref (ma 0)), some (.ref oa), some (.int (nI i)), none, none] [] (cs + 1) (sl + 6) 1075) : J γ l x (lW γ ca ma oa dsd tl tf q cd pt od ex mf af n f trn trf oon oof nx pl ln rf ic il ik iff pn M W s0 s1 s2 s3 sgc wh m0 m1 m2 rn rfp sg C gl gf fl ff mth mfw mse mwd mtd msz mto mfr mso mnu mfa mpl mro msm mln t w r9 KF SS bf lv9 mik su be fe my O9 S9 LF TF C9 rn9 rb TB o9) [some (.ref b), some (.ref (ca 0)), some (.ref (ma 0)), some (.ref oa), some (.int (nI i)), none, none] [] cs sl 1050 := by
  obtain ⟨⟨htl, ht, hmtd⟩, ⟨hq, hmfa, hmfw⟩, hG, hI, ⟨hnx, hpl, hln, hpR, hmsm⟩, ⟨hmik, him⟩, ⟨hsgc, hPB, hPf, hPV⟩, hsg, hMV⟩ := id hR
  subst ht
  obtain rfl : tl = mtd := hmtd.symm
  subst hmfa
  subst hmfw
  obtain rfl : pl = msm := hmsm.symm
  obtain rfl : ik = mik := hmik.symm
  obtain ⟨hcd, hpt, hod, hex, hmfe, hafe⟩ := id hG
  subst hpt
  subst hod
  subst hex
  have hT := hG.tab
  have hn := hI.2.2.2.2.1
  have hfo := hI.2.2.2.2.2.2
  have hsm := g_small cd hcd
  have hf : ∀ j, j < n → f j < 24 := fun j hj => Nat.lt_of_lt_of_le (hfo j hj) hsm.2.1
  have hJ := jpl_cd hG
  have hO := jop_cd hG
  have hinv : ∀ a, a < god cd → ∀ c, c < god cd → jpl (god cd) mf (jpl (god cd) mf c a) (jop (god cd) af a) = c := fun a ha c hc => by rw [hJ, hO]; exact gP_can hcd ha hc
  have hcs0 : cs ≤ 601024 := by omega
  have hsl0 : sl ≤ 7293034 := by omega
  dsimp only [lW]
  cases hc : jhas a1 (2) with
  | false =>
    refine J.aload_n g dL_law_1050 rfl rfl ?_
    refine J.aload_n g dL_law_1051 rfl rfl ?_
    refine J.iload g dL_law_1052 rfl ?_
    refine J.iconstN g 1 dL_law_1054 ?_
    refine J.iaddN g dL_law_1055 ?_
    refine J.sld g hX (k := i + 1) (by omega) (by omega) h1 dL_law_1056 ?_
    refine J.callV0 g (c_X10_restore_no l γ _ _ _ _ _ _ _ _ _ _ _ _ _ _ (fun i => ca (34 + 3 * i)) _ hc) jy_X10_restore lm_L_152 (q0 := 0) rfl jX10.1 ⟨⟨Nat.le_of_ble_eq_true rfl, Nat.le_of_ble_eq_true rfl⟩, hcs0, hsl0⟩ (Nat.le_of_ble_eq_true rfl) rfl [0, 33] rfl rfl dL_law_1057 ?_
    intro _ _
    dsimp only [jpush]
    refine J.aload_n g dL_law_1060 rfl rfl ?_
    refine J.aload_n g dL_law_1061 rfl rfl ?_
    refine J.iload g dL_law_1062 rfl ?_
    refine J.iconstN g 1 dL_law_1064 ?_
    refine J.iaddN g dL_law_1065 ?_
    refine J.sld g hX (k := i + 1) (by omega) (by omega) h1 dL_law_1066 ?_
    refine J.callV g (c_X11_restore_no l γ _ _ _ _ _ _ _ _ _ _ _ _ _ _ _ _ _ _ _ _ _ _ _ _ _ _ _ _ _ _ _ _ _ _ _ _ ik _ (Or.inl (by rw [mIn_le (by decide)]; exact hc))) jy_X11_restore lm_L_155 (q0 := 86) rfl jX11.1 ⟨⟨Nat.le_of_ble_eq_true rfl, Nat.le_of_ble_eq_true rfl⟩, hcs0, hsl0⟩ (Nat.le_of_ble_eq_true rfl) rfl [86, 94] rfl (fun _ => rfl) rfl dL_law_1067 ?_
    intro _ _
    dsimp only [jput, List.set_cons_zero, List.set_cons_succ, Option.toList, List.append, List.cons_append, List.nil_append, List.append_nil]
    refine J.icmp_eq g dL_law_1070 (tgt := 1075) (by decide) (fun c_1070 => ?_) (fun c_1070 => (c_1070 (rfl)).elim)
    exact J.widen (Nat.le_add_right cs 1) (Nat.le_add_right sl 6) (K (hR))
  | true =>
    obtain ⟨k, hk, rfl⟩ := jhas_t hc
    cases hkk : ik k with
    | false =>
      refine J.aload_n g dL_law_1050 rfl rfl ?_
      refine J.aload_n g dL_law_1051 rfl rfl ?_
      refine J.iload g dL_law_1052 rfl ?_
      refine J.iconstN g 1 dL_law_1054 ?_
      refine J.iaddN g dL_law_1055 ?_
      refine J.sld g hX (k := i + 1) (by omega) (by omega) h1 dL_law_1056 ?_
      refine J.callV0 g (c_X10_restore_no2 l γ _ _ _ _ _ _ _ _ _ _ _ _ _ _ (fun i => ca (34 + 3 * i)) (fun i => ca (35 + 3 * i)) (fun i => ca (36 + 3 * i)) ic il ik iff _ hk hkk) jy_X10_restore lm_L_152 (q0 := 0) rfl jX10.1 ⟨⟨Nat.le_of_ble_eq_true rfl, Nat.le_of_ble_eq_true rfl⟩, hcs0, hsl0⟩ (Nat.le_of_ble_eq_true rfl) rfl [0, 33, 34, 35, 36, 37, 38, 39] rfl rfl dL_law_1057 ?_
      intro _ _
      dsimp only [jpush]
      refine J.aload_n g dL_law_1060 rfl rfl ?_
      refine J.aload_n g dL_law_1061 rfl rfl ?_
      refine J.iload g dL_law_1062 rfl ?_
      refine J.iconstN g 1 dL_law_1064 ?_
      refine J.iaddN g dL_law_1065 ?_
      refine J.sld g hX (k := i + 1) (by omega) (by omega) h1 dL_law_1066 ?_
      refine J.callV g (c_X11_restore_no l γ _ _ _ _ _ _ _ _ _ _ _ _ _ _ _ _ _ _ _ _ _ _ _ _ _ _ _ _ _ _ _ _ _ _ _ _ ik _ (Or.inr ⟨k, hk, rfl, hkk⟩)) jy_X11_restore lm_L_155 (q0 := 86) rfl jX11.1 ⟨⟨Nat.le_of_ble_eq_true rfl, Nat.le_of_ble_eq_true rfl⟩, hcs0, hsl0⟩ (Nat.le_of_ble_eq_true rfl) rfl [86, 94] rfl (fun _ => rfl) rfl dL_law_1067 ?_
      intro _ _
      dsimp only [jput, List.set_cons_zero, List.set_cons_succ, Option.toList, List.append, List.cons_append, List.nil_append, List.append_nil]
      refine J.icmp_eq g dL_law_1070 (tgt := 1075) (by decide) (fun c_1070 => ?_) (fun c_1070 => (c_1070 (rfl)).elim)
      exact J.widen (Nat.le_add_right cs 1) (Nat.le_add_right sl 6) (K (hR))
    | true =>
      have him1 := him k hk hkk
      refine J.aload_n g dL_law_1050 rfl rfl ?_
      refine J.aload_n g dL_law_1051 rfl rfl ?_
      refine J.iload g dL_law_1052 rfl ?_
      refine J.iconstN g 1 dL_law_1054 ?_
      refine J.iaddN g dL_law_1055 ?_
      refine J.sld g hX (k := i + 1) (by omega) (by omega) h1 dL_law_1056 ?_
      refine J.callV g (c_X10_restore_yes l γ _ _ _ _ _ _ _ _ _ _ _ _ _ _ _ _ _ _ _ _ _ _ _ _ _ (fun i => ca (34 + 3 * i)) (fun i => ca (35 + 3 * i)) (fun i => ca (36 + 3 * i)) ic il ik iff _ _ _ _ hG hk hkk him1.1 him1.2.2.2.2.1) jy_X10_restore lm_L_152 (q0 := 0) rfl jX10.1 ⟨⟨Nat.le_of_ble_eq_true rfl, Nat.le_of_ble_eq_true rfl⟩, hcs0, hsl0⟩ (Nat.le_of_ble_eq_true rfl) rfl [0, 9, 10, 6, 7, 8, 33, 34, 35, 36, 37, 38, 39, 15] rfl (fun _ => rfl) rfl dL_law_1057 ?_
      intro u_1057 h_1057
      dsimp only [jput, List.set_cons_zero, List.set_cons_succ, Option.toList, List.append, List.cons_append, List.nil_append, List.append_nil]
      refine J.aload_n g dL_law_1060 rfl rfl ?_
      refine J.aload_n g dL_law_1061 rfl rfl ?_
      refine J.iload g dL_law_1062 rfl ?_
      refine J.iconstN g 1 dL_law_1064 ?_
      refine J.iaddN g dL_law_1065 ?_
      refine J.sld g hX (k := i + 1) (by omega) (by omega) h1 dL_law_1066 ?_
      refine J.callV g (c_X11_restore_yes l γ _ _ _ _ _ _ _ _ _ _ _ _ _ _ _ _ _ _ _ _ _ _ _ _ _ _ _ _ _ _ _ _ _ _ _ _ _ _ ik _ hk hkk) jy_X11_restore lm_L_155 (q0 := 86) rfl jX11.1 ⟨⟨Nat.le_of_ble_eq_true rfl, Nat.le_of_ble_eq_true rfl⟩, hcs0, hsl0⟩ (Nat.le_of_ble_eq_true rfl) rfl [86, 88, 90, 94] rfl (fun _ => rfl) rfl dL_law_1067 ?_
      intro u_1067 h_1067
      dsimp only [jput, List.set_cons_zero, List.set_cons_succ, Option.toList, List.append, List.cons_append, List.nil_append, List.append_nil]
      refine J.icmp_eq g dL_law_1070 (tgt := 1075) (by decide) (fun c_1070 => ?_) (fun c_1070 => (c_1070 (rfl)).elim)
      exact J.widen (Nat.le_add_right cs 1) (Nat.le_add_right sl 6) (K (⟨⟨htl, rfl, rfl⟩, ⟨hq, rfl, rfl⟩, h_1057.1, mIs_same him1 h_1057.2 h_1067, ⟨hnx, Nat.zero_le _, hln, fun j hj => absurd hj (Nat.not_lt_zero j), rfl⟩, ⟨rfl, him⟩, ⟨hsgc, hPB, hPf, hPV⟩, ⟨hsg, hMV⟩⟩))
