set_option maxHeartbeats 8000000 in
set_option maxRecDepth 100000 in
theorem lc_sums {l : Launch} {γ : jγ} {x : jE} {ca ma : Nat → Nat} {oa b L i cs sl : Nat} {xs : Nat → Int32} (g : jG γ x ({ frames := 2048, cells := 601024, slots := 7293034, locals := 84000 } : Room) code RL (some .boolean)) (hX : jScr x b L xs) (hL : L ≤ 3072) (hi : i + 6 ≤ L) (hcs : cs + 1 ≤ 601024) (hsl : sl + 6 ≤ 7293034)  {dsd : Int32} {tl : Nat} {tf : Nat → Int32} {q : jRS} {cd pt od ex : Nat} {mf af : Nat → Nat} {n : Nat} {f : Nat → Nat} {trn : Nat} {trf : Nat → Nat} {oon : Nat} {oof : Nat → Nat} {nx pl : Nat} {ln : Nat → Nat} {rf : Nat → Nat → Nat} {ic il : Nat → Nat} {ik : Nat → Bool} {iff : Nat → Nat → Nat} {pn : Nat} {M W : Nat → Nat → Nat} {s0 s1 s2 s3 : Nat → Nat} {sgc wh : Nat} {m0 m1 m2 : Nat → Nat} {rn : Nat} {rfp : Nat → Nat} {sg : Nat} {C : Nat → Nat} {gl : Nat} {gf : Nat → Nat} {fl : Nat} {ff : Nat → Nat} {mth mfw mse : Int32} {mwd : Int64} {mtd msz mto mfr mso mnu mfa mpl mro msm mln : Nat} {t w r9 KF SS bf lv9 : Nat → Nat} {mik : Nat → Bool} {su : Nat → Nat} {be : Nat → Bool} {fe my : Nat → Int32} {O9 : Nat → Nat} {S9 : Nat → Bool} {LF TF C9 rn9 rb TB : Nat → Nat} {o9 : Nat → Int64} (hR : lR tl tf q cd pt od ex mf af n f nx pl ln rf ic il ik iff sgc wh m0 m1 m2 rn rfp sg C fl ff mfw mtd mfa msm t w KF SS mik)
    (K : ∀ {dsd : Int32} {tl : Nat} {tf : Nat → Int32} {q : jRS} {cd pt od ex : Nat} {mf af : Nat → Nat} {n : Nat} {f : Nat → Nat} {trn : Nat} {trf : Nat → Nat} {oon : Nat} {oof : Nat → Nat} {nx pl : Nat} {ln : Nat → Nat} {rf : Nat → Nat → Nat} {ic il : Nat → Nat} {ik : Nat → Bool} {iff : Nat → Nat → Nat} {pn : Nat} {M W : Nat → Nat → Nat} {s0 s1 s2 s3 : Nat → Nat} {sgc wh : Nat} {m0 m1 m2 : Nat → Nat} {rn : Nat} {rfp : Nat → Nat} {sg : Nat} {C : Nat → Nat} {gl : Nat} {gf : Nat → Nat} {fl : Nat} {ff : Nat → Nat} {mth mfw mse : Int32} {mwd : Int64} {mtd msz mto mfr mso mnu mfa mpl mro msm mln : Nat} {t w r9 KF SS bf lv9 : Nat → Nat} {mik : Nat → Bool} {su : Nat → Nat} {be : Nat → Bool} {fe my : Nat → Int32} {O9 : Nat → Nat} {S9 : Nat → Bool} {LF TF C9 rn9 rb TB : Nat → Nat} {o9 : Nat → Int64}, lR tl tf q cd pt od ex mf af n f nx pl ln rf ic il ik iff sgc wh m0 m1 m2 rn rfp sg C fl ff mfw mtd mfa msm t w KF SS mik → J γ l x (lW γ ca ma oa dsd tl tf q cd pt od ex mf af n f trn trf oon oof nx pl ln rf ic il ik iff pn M W s0 s1 s2 s3 sgc wh m0 m1 m2 rn rfp sg C gl gf fl ff mth mfw mse mwd mtd msz mto mfr mso mnu mfa mpl mro msm mln t w r9 KF SS bf lv9 mik su be fe my O9 S9 LF TF C9 rn9 rb TB o9) [some (.ref b), some (.ref (ca 0)), some (.ref (ma 0)), some (.ref oa), some (.int (nI i)), none, none] [] (cs + 1) (sl + 6) 1075) : J γ l x (lW γ ca ma oa dsd tl tf q cd pt od ex mf af n f trn trf oon oof nx pl ln rf ic il ik iff pn M W s0 s1 s2 s3 sgc wh m0 m1 m2 rn rfp sg C gl gf fl ff mth mfw mse mwd mtd msz mto mfr mso mnu mfa mpl mro msm mln t w r9 KF SS bf lv9 mik su be fe my O9 S9 LF TF C9 rn9 rb TB o9) [some (.ref b), some (.ref (ca 0)), some (.ref (ma 0)), some (.ref oa), some (.int (nI i)), none, none] [] cs sl 488 := by
  obtain ⟨⟨htl, ht, hmtd⟩, ⟨hq, hmfa, hmfw⟩, hG, hI, ⟨hnx, hpl, hln, hpR, hmsm⟩, ⟨hmik, him⟩, ⟨hsgc, hPB, hPf, hPV⟩, hsg, hMV⟩ := id hR
  subst ht
  obtain rfl : tl = mtd := hmtd.symm
  subst hmfa
  subst hmfw
  obtain rfl : pl = msm := hmsm.symm
  obtain rfl : ik = mik := hmik.symm
  obtain ⟨hcd, hpt, hod, hex, hmfe, hafe⟩ := id hG
  subst hpt
  subst hod
  subst hex
  have hT := hG.tab
  have hn := hI.2.2.2.2.1
  have hfo := hI.2.2.2.2.2.2
  have hsm := g_small cd hcd
  have hf : ∀ j, j < n → f j < 24 := fun j hj => Nat.lt_of_lt_of_le (hfo j hj) hsm.2.1
  have hJ := jpl_cd hG
  have hO := jop_cd hG
  have hinv : ∀ a, a < god cd → ∀ c, c < god cd → jpl (god cd) mf (jpl (god cd) mf c a) (jop (god cd) af a) = c := fun a ha c hc => by rw [hJ, hO]; exact gP_can hcd ha hc
  have hcs0 : cs ≤ 601024 := by omega
  have hsl0 : sl ≤ 7293034 := by omega
  dsimp only [lW]
  refine J.aload_n g dL_law_488 rfl rfl ?_
  refine J.callV g (c_X10_sums l γ _ _ _ _ _ _ _ _ _ _ _ _ _ _ _ _ _ _ _ _ _ _ _ _ _ _ _ _ (fun i => ca (42 + i)) M hn hT hf) jy_X10_sums lm_L_64 (q0 := 0) rfl jX10.1 ⟨⟨Nat.le_of_ble_eq_true rfl, Nat.le_of_ble_eq_true rfl⟩, hcs0, hsl0⟩ (Nat.le_of_ble_eq_true rfl) rfl [0, 40, 41, 9, 10, 6, 7, 8, 42, 43, 44, 45, 46, 47, 48, 49, 50, 51, 52, 53, 54] rfl (fun _ => rfl) rfl dL_law_489 ?_
  intro u_489 h_489
  dsimp only [jrows13, jput, List.set_cons_zero, List.set_cons_succ, Option.toList, List.append, List.cons_append, List.nil_append, List.append_nil]
  refine J.aload_n g dL_law_492 rfl rfl ?_
  refine J.callV g (c_X11_sums l γ _ _ _ _ _ _ _ _ _ _ _ _ _ _ _ _ _ _ _ _ _ _ _ _ _ _ _ _ _ _ _ _ _ _ _ _ _ _ _ _ _ hI) jy_X11_sums lm_L_67 (q0 := 86) rfl jX11.1 ⟨⟨Nat.le_of_ble_eq_true rfl, Nat.le_of_ble_eq_true rfl⟩, hcs0, hsl0⟩ (Nat.le_of_ble_eq_true rfl) rfl [86, 88, 95] rfl (fun _ => rfl) rfl dL_law_493 ?_
  intro u_493 h_493
  dsimp only [jput, List.set_cons_zero, List.set_cons_succ, Option.toList, List.append, List.cons_append, List.nil_append, List.append_nil]
  refine J.icmp_eq g dL_law_496 (tgt := 1075) (by decide) (fun c_496 => ?_) (fun c_496 => (c_496 (congrArg nI (by rw [msub_tf hJ]; exact sums_eq hcd hn hfo))).elim)
  exact J.widen (Nat.le_add_right cs 1) (Nat.le_add_right sl 6) (K (hR))
set_option maxHeartbeats 8000000 in
set_option maxRecDepth 100000 in
theorem lc_found {l : Launch} {γ : jγ} {x : jE} {ca ma : Nat → Nat} {oa b L i cs sl : Nat} {xs : Nat → Int32} {a1 a2 : Int32} (g : jG γ x ({ frames := 2048, cells := 601024, slots := 7293034, locals := 84000 } : Room) code RL (some .boolean)) (hX : jScr x b L xs) (hL : L ≤ 3072) (hi : i + 6 ≤ L) (hcs : cs + 1 ≤ 601024) (hsl : sl + 6 ≤ 7293034) (h1 : xs (i + 1) = a1) (h2 : xs (i + 2) = a2) {dsd : Int32} {tl : Nat} {tf : Nat → Int32} {q : jRS} {cd pt od ex : Nat} {mf af : Nat → Nat} {n : Nat} {f : Nat → Nat} {trn : Nat} {trf : Nat → Nat} {oon : Nat} {oof : Nat → Nat} {nx pl : Nat} {ln : Nat → Nat} {rf : Nat → Nat → Nat} {ic il : Nat → Nat} {ik : Nat → Bool} {iff : Nat → Nat → Nat} {pn : Nat} {M W : Nat → Nat → Nat} {s0 s1 s2 s3 : Nat → Nat} {sgc wh : Nat} {m0 m1 m2 : Nat → Nat} {rn : Nat} {rfp : Nat → Nat} {sg : Nat} {C : Nat → Nat} {gl : Nat} {gf : Nat → Nat} {fl : Nat} {ff : Nat → Nat} {mth mfw mse : Int32} {mwd : Int64} {mtd msz mto mfr mso mnu mfa mpl mro msm mln : Nat} {t w r9 KF SS bf lv9 : Nat → Nat} {mik : Nat → Bool} {su : Nat → Nat} {be : Nat → Bool} {fe my : Nat → Int32} {O9 : Nat → Nat} {S9 : Nat → Bool} {LF TF C9 rn9 rb TB : Nat → Nat} {o9 : Nat → Int64} (hR : lR tl tf q cd pt od ex mf af n f nx pl ln rf ic il ik iff sgc wh m0 m1 m2 rn rfp sg C fl ff mfw mtd mfa msm t w KF SS mik)
    (K : ∀ {dsd : Int32} {tl : Nat} {tf : Nat → Int32} {q : jRS} {cd pt od ex : Nat} {mf af : Nat → Nat} {n : Nat} {f : Nat → Nat} {trn : Nat} {trf : Nat → Nat} {oon : Nat} {oof : Nat → Nat} {nx pl : Nat} {ln : Nat → Nat} {rf : Nat → Nat → Nat} {ic il : Nat → Nat} {ik : Nat → Bool} {iff : Nat → Nat → Nat} {pn : Nat} {M W : Nat → Nat → Nat} {s0 s1 s2 s3 : Nat → Nat} {sgc wh : Nat} {m0 m1 m2 : Nat → Nat} {rn : Nat} {rfp : Nat → Nat} {sg : Nat} {C : Nat → Nat} {gl : Nat} {gf : Nat → Nat} {fl : Nat} {ff : Nat → Nat} {mth mfw mse : Int32} {mwd : Int64} {mtd msz mto mfr mso mnu mfa mpl mro msm mln : Nat} {t w r9 KF SS bf lv9 : Nat → Nat} {mik : Nat → Bool} {su : Nat → Nat} {be : Nat → Bool} {fe my : Nat → Int32} {O9 : Nat → Nat} {S9 : Nat → Bool} {LF TF C9 rn9 rb TB : Nat → Nat} {o9 : Nat → Int64}, lR tl tf q cd pt od ex mf af n f nx pl ln rf ic il ik iff sgc wh m0 m1 m2 rn rfp sg C fl ff mfw mtd mfa msm t w KF SS mik → J γ l x (lW γ ca ma oa dsd tl tf q cd pt od ex mf af n f trn trf oon oof nx pl ln rf ic il ik iff pn M W s0 s1 s2 s3 sgc wh m0 m1 m2 rn rfp sg C gl gf fl ff mth mfw mse mwd mtd msz mto mfr mso mnu mfa mpl mro msm mln t w r9 KF SS bf lv9 mik su be fe my O9 S9 LF TF C9 rn9 rb TB o9) [some (.ref b), some (.ref (ca 0)), some (.ref (ma 0)), some (.ref oa), some (.int (nI i)), none, none] [] (cs + 1) (sl + 6) 1075) : J γ l x (lW γ ca ma oa dsd tl tf q cd pt od ex mf af n f trn trf oon oof nx pl ln rf ic il ik iff pn M W s0 s1 s2 s3 sgc wh m0 m1 m2 rn rfp sg C gl gf fl ff mth mfw mse mwd mtd msz mto mfr mso mnu mfa mpl mro msm mln t w r9 KF SS bf lv9 mik su be fe my O9 S9 LF TF C9 rn9 rb TB o9) [some (.ref b), some (.ref (ca 0)), some (.ref (ma 0)), some (.ref oa), some (.int (nI i)), none, none] [] cs sl 501 := by
  obtain ⟨⟨htl, ht, hmtd⟩, ⟨hq, hmfa, hmfw⟩, hG, hI, ⟨hnx, hpl, hln, hpR, hmsm⟩, ⟨hmik, him⟩, ⟨hsgc, hPB, hPf, hPV⟩, hsg, hMV⟩ := id hR
  subst ht
  obtain rfl : tl = mtd := hmtd.symm
  subst hmfa
  subst hmfw
  obtain rfl : pl = msm := hmsm.symm
  obtain rfl : ik = mik := hmik.symm
  obtain ⟨hcd, hpt, hod, hex, hmfe, hafe⟩ := id hG
  subst hpt
  subst hod
  subst hex
  have hT := hG.tab
  have hn := hI.2.2.2.2.1
  have hfo := hI.2.2.2.2.2.2
  have hsm := g_small cd hcd
  have hf : ∀ j, j < n → f j < 24 := fun j hj => Nat.lt_of_lt_of_le (hfo j hj) hsm.2.1
  have hJ := jpl_cd hG
  have hO := jop_cd hG
  have hinv : ∀ a, a < god cd → ∀ c, c < god cd → jpl (god cd) mf (jpl (god cd) mf c a) (jop (god cd) af a) = c := fun a ha c hc => by rw [hJ, hO]; exact gP_can hcd ha hc
  have hcs0 : cs ≤ 601024 := by omega
  have hsl0 : sl ≤ 7293034 := by omega
  dsimp only [lW]
  cases hc : jhas a1 (god cd) with
  | false =>
    refine J.aload_n g dL_law_501 rfl rfl ?_
    refine J.aload_n g dL_law_502 rfl rfl ?_
    refine J.iload g dL_law_503 rfl ?_
    refine J.iconstN g 1 dL_law_505 ?_
    refine J.iaddN g dL_law_506 ?_
    refine J.sld g hX (k := i + 1) (by omega) (by omega) h1 dL_law_507 ?_
    refine J.aload_n g dL_law_508 rfl rfl ?_
    refine J.iload g dL_law_509 rfl ?_
    refine J.iconstN g 2 dL_law_511 ?_
    refine J.iaddN g dL_law_512 ?_
    refine J.sld g hX (k := i + 2) (by omega) (by omega) h2 dL_law_513 ?_
    refine J.callV0 g (c_X10_found_no l γ _ _ _ _ _ _ _ _ _ _ _ _ _ _ _ _ _ _ _ _ _ _ _ _ hsm.2.1 (Or.inl hc)) jy_X10_found lm_L_68 (q0 := 0) rfl jX10.1 ⟨⟨Nat.le_of_ble_eq_true rfl, Nat.le_of_ble_eq_true rfl⟩, hcs0, hsl0⟩ (Nat.le_of_ble_eq_true rfl) rfl [0, 6, 7, 8] rfl rfl dL_law_514 ?_
    intro _ _
    dsimp only [jpush]
    refine J.aload_n g dL_law_517 rfl rfl ?_
    refine J.aload_n g dL_law_518 rfl rfl ?_
    refine J.iload g dL_law_519 rfl ?_
    refine J.iconstN g 1 dL_law_521 ?_
    refine J.iaddN g dL_law_522 ?_
    refine J.sld g hX (k := i + 1) (by omega) (by omega) h1 dL_law_523 ?_
    refine J.aload_n g dL_law_524 rfl rfl ?_
    refine J.iload g dL_law_525 rfl ?_
    refine J.iconstN g 2 dL_law_527 ?_
    refine J.iaddN g dL_law_528 ?_
    refine J.sld g hX (k := i + 2) (by omega) (by omega) h2 dL_law_529 ?_
    refine J.callV g (c_X11_found_no l γ _ _ _ _ _ _ _ _ _ _ _ _ _ _ _ _ _ _ _ _ _ _ _ _ _ _ _ _ _ _ _ _ _ _ _ _ _ _ _ _ _ _ hI (Or.inl hc)) jy_X11_found lm_L_71 (q0 := 86) rfl jX11.1 ⟨⟨Nat.le_of_ble_eq_true rfl, Nat.le_of_ble_eq_true rfl⟩, hcs0, hsl0⟩ (Nat.le_of_ble_eq_true rfl) rfl [86, 88] rfl (fun _ => rfl) rfl dL_law_530 ?_
    intro _ _
    dsimp only [jput, List.set_cons_zero, List.set_cons_succ, Option.toList, List.append, List.cons_append, List.nil_append, List.append_nil]
    refine J.icmp_eq g dL_law_533 (tgt := 1075) (by decide) (fun c_533 => ?_) (fun c_533 => (c_533 (rfl)).elim)
    exact J.widen (Nat.le_add_right cs 1) (Nat.le_add_right sl 6) (K (hR))
  | true =>
    obtain ⟨k, hk, rfl⟩ := jhas_t hc
    cases hw : mIn a2 (nI 0) (nI 1) with
    | false =>
      refine J.aload_n g dL_law_501 rfl rfl ?_
      refine J.aload_n g dL_law_502 rfl rfl ?_
      refine J.iload g dL_law_503 rfl ?_
      refine J.iconstN g 1 dL_law_505 ?_
      refine J.iaddN g dL_law_506 ?_
      refine J.sld g hX (k := i + 1) (by omega) (by omega) h1 dL_law_507 ?_
      refine J.aload_n g dL_law_508 rfl rfl ?_
      refine J.iload g dL_law_509 rfl ?_
      refine J.iconstN g 2 dL_law_511 ?_
      refine J.iaddN g dL_law_512 ?_
      refine J.sld g hX (k := i + 2) (by omega) (by omega) h2 dL_law_513 ?_
      refine J.callV0 g (c_X10_found_no l γ _ _ _ _ _ _ _ _ _ _ _ _ _ _ _ _ _ _ _ _ _ _ _ _ hsm.2.1 (Or.inr (mIn01_f hw))) jy_X10_found lm_L_68 (q0 := 0) rfl jX10.1 ⟨⟨Nat.le_of_ble_eq_true rfl, Nat.le_of_ble_eq_true rfl⟩, hcs0, hsl0⟩ (Nat.le_of_ble_eq_true rfl) rfl [0, 6, 7, 8] rfl rfl dL_law_514 ?_
      intro _ _
      dsimp only [jpush]
      refine J.aload_n g dL_law_517 rfl rfl ?_
      refine J.aload_n g dL_law_518 rfl rfl ?_
      refine J.iload g dL_law_519 rfl ?_
      refine J.iconstN g 1 dL_law_521 ?_
      refine J.iaddN g dL_law_522 ?_
      refine J.sld g hX (k := i + 1) (by omega) (by omega) h1 dL_law_523 ?_
      refine J.aload_n g dL_law_524 rfl rfl ?_
      refine J.iload g dL_law_525 rfl ?_
      refine J.iconstN g 2 dL_law_527 ?_
      refine J.iaddN g dL_law_528 ?_
      refine J.sld g hX (k := i + 2) (by omega) (by omega) h2 dL_law_529 ?_
      refine J.callV g (c_X11_found_no l γ _ _ _ _ _ _ _ _ _ _ _ _ _ _ _ _ _ _ _ _ _ _ _ _ _ _ _ _ _ _ _ _ _ _ _ _ _ _ _ _ _ _ hI (Or.inr hw)) jy_X11_found lm_L_71 (q0 := 86) rfl jX11.1 ⟨⟨Nat.le_of_ble_eq_true rfl, Nat.le_of_ble_eq_true rfl⟩, hcs0, hsl0⟩ (Nat.le_of_ble_eq_true rfl) rfl [86, 88] rfl (fun _ => rfl) rfl dL_law_530 ?_
      intro _ _
      dsimp only [jput, List.set_cons_zero, List.set_cons_succ, Option.toList, List.append, List.cons_append, List.nil_append, List.append_nil]
      refine J.icmp_eq g dL_law_533 (tgt := 1075) (by decide) (fun c_533 => ?_) (fun c_533 => (c_533 (rfl)).elim)
      exact J.widen (Nat.le_add_right cs 1) (Nat.le_add_right sl 6) (K (hR))
    | true =>
      refine J.aload_n g dL_law_501 rfl rfl ?_
      refine J.aload_n g dL_law_502 rfl rfl ?_
      refine J.iload g dL_law_503 rfl ?_
      refine J.iconstN g 1 dL_law_505 ?_
      refine J.iaddN g dL_law_506 ?_
      refine J.sld g hX (k := i + 1) (by omega) (by omega) h1 dL_law_507 ?_
      refine J.aload_n g dL_law_508 rfl rfl ?_
      refine J.iload g dL_law_509 rfl ?_
      refine J.iconstN g 2 dL_law_511 ?_
      refine J.iaddN g dL_law_512 ?_
      refine J.sld g hX (k := i + 2) (by omega) (by omega) h2 dL_law_513 ?_
      refine J.callV g (c_X10_found_yes l γ _ _ _ _ _ _ _ _ _ _ _ _ _ _ _ _ _ _ _ _ _ _ _ _ _ _ _ _ (fun i => ca (42 + i)) M _ _ hn hT hf hinv hfo hk (mIn01_t hw).1 (mIn01_t hw).2) jy_X10_found lm_L_68 (q0 := 0) rfl jX10.1 ⟨⟨Nat.le_of_ble_eq_true rfl, Nat.le_of_ble_eq_true rfl⟩, hcs0, hsl0⟩ (Nat.le_of_ble_eq_true rfl) rfl [0, 40, 41, 9, 10, 6, 7, 8, 42, 43, 44, 45, 46, 47, 48, 49, 50, 51, 52, 53, 54] rfl (fun _ => rfl) rfl dL_law_514 ?_
      intro u_514 h_514
      dsimp only [jrows13, jput, List.set_cons_zero, List.set_cons_succ, Option.toList, List.append, List.cons_append, List.nil_append, List.append_nil]
      refine J.aload_n g dL_law_517 rfl rfl ?_
      refine J.aload_n g dL_law_518 rfl rfl ?_
      refine J.iload g dL_law_519 rfl ?_
      refine J.iconstN g 1 dL_law_521 ?_
      refine J.iaddN g dL_law_522 ?_
      refine J.sld g hX (k := i + 1) (by omega) (by omega) h1 dL_law_523 ?_
      refine J.aload_n g dL_law_524 rfl rfl ?_
      refine J.iload g dL_law_525 rfl ?_
      refine J.iconstN g 2 dL_law_527 ?_
      refine J.iaddN g dL_law_528 ?_
      refine J.sld g hX (k := i + 2) (by omega) (by omega) h2 dL_law_529 ?_
      refine J.callV g (c_X11_found_yes l γ _ _ _ _ _ _ _ _ _ _ _ _ _ _ _ _ _ _ _ _ _ _ _ _ _ _ _ _ _ _ _ _ _ _ _ _ _ _ _ _ _ _ _ hI hk hw) jy_X11_found lm_L_71 (q0 := 86) rfl jX11.1 ⟨⟨Nat.le_of_ble_eq_true rfl, Nat.le_of_ble_eq_true rfl⟩, hcs0, hsl0⟩ (Nat.le_of_ble_eq_true rfl) rfl [86, 88, 95] rfl (fun _ => rfl) rfl dL_law_530 ?_
      intro u_530 h_530
      dsimp only [jput, List.set_cons_zero, List.set_cons_succ, Option.toList, List.append, List.cons_append, List.nil_append, List.append_nil]
      refine J.icmp_eq g dL_law_533 (tgt := 1075) (by decide) (fun c_533 => ?_) (fun c_533 => (c_533 (by rw [jfnd_t hJ hO]; exact found_eq hcd hn hfo hk)).elim)
      exact J.widen (Nat.le_add_right cs 1) (Nat.le_add_right sl 6) (K (hR))
set_option maxHeartbeats 8000000 in
set_option maxRecDepth 100000 in
theorem lc_ways {l : Launch} {γ : jγ} {x : jE} {ca ma : Nat → Nat} {oa b L i cs sl : Nat} {xs : Nat → Int32} {a1 a2 : Int32} (g : jG γ x ({ frames := 2048, cells := 601024, slots := 7293034, locals := 84000 } : Room) code RL (some .boolean)) (hX : jScr x b L xs) (hL : L ≤ 3072) (hi : i + 6 ≤ L) (hcs : cs + 1 ≤ 601024) (hsl : sl + 6 ≤ 7293034) (h1 : xs (i + 1) = a1) (h2 : xs (i + 2) = a2) {dsd : Int32} {tl : Nat} {tf : Nat → Int32} {q : jRS} {cd pt od ex : Nat} {mf af : Nat → Nat} {n : Nat} {f : Nat → Nat} {trn : Nat} {trf : Nat → Nat} {oon : Nat} {oof : Nat → Nat} {nx pl : Nat} {ln : Nat → Nat} {rf : Nat → Nat → Nat} {ic il : Nat → Nat} {ik : Nat → Bool} {iff : Nat → Nat → Nat} {pn : Nat} {M W : Nat → Nat → Nat} {s0 s1 s2 s3 : Nat → Nat} {sgc wh : Nat} {m0 m1 m2 : Nat → Nat} {rn : Nat} {rfp : Nat → Nat} {sg : Nat} {C : Nat → Nat} {gl : Nat} {gf : Nat → Nat} {fl : Nat} {ff : Nat → Nat} {mth mfw mse : Int32} {mwd : Int64} {mtd msz mto mfr mso mnu mfa mpl mro msm mln : Nat} {t w r9 KF SS bf lv9 : Nat → Nat} {mik : Nat → Bool} {su : Nat → Nat} {be : Nat → Bool} {fe my : Nat → Int32} {O9 : Nat → Nat} {S9 : Nat → Bool} {LF TF C9 rn9 rb TB : Nat → Nat} {o9 : Nat → Int64} (hR : lR tl tf q cd pt od ex mf af n f nx pl ln rf ic il ik iff sgc wh m0 m1 m2 rn rfp sg C fl ff mfw mtd mfa msm t w KF SS mik)
    (K : ∀ {dsd : Int32} {tl : Nat} {tf : Nat → Int32} {q : jRS} {cd pt od ex : Nat} {mf af : Nat → Nat} {n : Nat} {f : Nat → Nat} {trn : Nat} {trf : Nat → Nat} {oon : Nat} {oof : Nat → Nat} {nx pl : Nat} {ln : Nat → Nat} {rf : Nat → Nat → Nat} {ic il : Nat → Nat} {ik : Nat → Bool} {iff : Nat → Nat → Nat} {pn : Nat} {M W : Nat → Nat → Nat} {s0 s1 s2 s3 : Nat → Nat} {sgc wh : Nat} {m0 m1 m2 : Nat → Nat} {rn : Nat} {rfp : Nat → Nat} {sg : Nat} {C : Nat → Nat} {gl : Nat} {gf : Nat → Nat} {fl : Nat} {ff : Nat → Nat} {mth mfw mse : Int32} {mwd : Int64} {mtd msz mto mfr mso mnu mfa mpl mro msm mln : Nat} {t w r9 KF SS bf lv9 : Nat → Nat} {mik : Nat → Bool} {su : Nat → Nat} {be : Nat → Bool} {fe my : Nat → Int32} {O9 : Nat → Nat} {S9 : Nat → Bool} {LF TF C9 rn9 rb TB : Nat → Nat} {o9 : Nat → Int64}, lR tl tf q cd pt od ex mf af n f nx pl ln rf ic il ik iff sgc wh m0 m1 m2 rn rfp sg C fl ff mfw mtd mfa msm t w KF SS mik → J γ l x (lW γ ca ma oa dsd tl tf q cd pt od ex mf af n f trn trf oon oof nx pl ln rf ic il ik iff pn M W s0 s1 s2 s3 sgc wh m0 m1 m2 rn rfp sg C gl gf fl ff mth mfw mse mwd mtd msz mto mfr mso mnu mfa mpl mro msm mln t w r9 KF SS bf lv9 mik su be fe my O9 S9 LF TF C9 rn9 rb TB o9) [some (.ref b), some (.ref (ca 0)), some (.ref (ma 0)), some (.ref oa), some (.int (nI i)), none, none] [] (cs + 1) (sl + 6) 1075) : J γ l x (lW γ ca ma oa dsd tl tf q cd pt od ex mf af n f trn trf oon oof nx pl ln rf ic il ik iff pn M W s0 s1 s2 s3 sgc wh m0 m1 m2 rn rfp sg C gl gf fl ff mth mfw mse mwd mtd msz mto mfr mso mnu mfa mpl mro msm mln t w r9 KF SS bf lv9 mik su be fe my O9 S9 LF TF C9 rn9 rb TB o9) [some (.ref b), some (.ref (ca 0)), some (.ref (ma 0)), some (.ref oa), some (.int (nI i)), none, none] [] cs sl 538 := by
  obtain ⟨⟨htl, ht, hmtd⟩, ⟨hq, hmfa, hmfw⟩, hG, hI, ⟨hnx, hpl, hln, hpR, hmsm⟩, ⟨hmik, him⟩, ⟨hsgc, hPB, hPf, hPV⟩, hsg, hMV⟩ := id hR
  subst ht
  obtain rfl : tl = mtd := hmtd.symm
  subst hmfa
  subst hmfw
  obtain rfl : pl = msm := hmsm.symm
  obtain rfl : ik = mik := hmik.symm
  obtain ⟨hcd, hpt, hod, hex, hmfe, hafe⟩ := id hG
  subst hpt
  subst hod
  subst hex
  have hT := hG.tab
  have hn := hI.2.2.2.2.1
  have hfo := hI.2.2.2.2.2.2
  have hsm := g_small cd hcd
  have hf : ∀ j, j < n → f j < 24 := fun j hj => Nat.lt_of_lt_of_le (hfo j hj) hsm.2.1
  have hJ := jpl_cd hG
  have hO := jop_cd hG
  have hinv : ∀ a, a < god cd → ∀ c, c < god cd → jpl (god cd) mf (jpl (god cd) mf c a) (jop (god cd) af a) = c := fun a ha c hc => by rw [hJ, hO]; exact gP_can hcd ha hc
  have hcs0 : cs ≤ 601024 := by omega
  have hsl0 : sl ≤ 7293034 := by omega
  dsimp only [lW]
  cases hc : jhas a1 (god cd) with
  | false =>
    refine J.aload_n g dL_law_538 rfl rfl ?_
    refine J.aload_n g dL_law_539 rfl rfl ?_
    refine J.iload g dL_law_540 rfl ?_
    refine J.iconstN g 1 dL_law_542 ?_
    refine J.iaddN g dL_law_543 ?_
    refine J.sld g hX (k := i + 1) (by omega) (by omega) h1 dL_law_544 ?_
    refine J.aload_n g dL_law_545 rfl rfl ?_
    refine J.iload g dL_law_546 rfl ?_
    refine J.iconstN g 2 dL_law_548 ?_
    refine J.iaddN g dL_law_549 ?_
    refine J.sld g hX (k := i + 2) (by omega) (by omega) h2 dL_law_550 ?_
    refine J.callV0 g (c_X10_ways_no l γ _ _ _ _ _ _ _ _ _ _ _ _ _ _ _ _ _ _ _ _ _ _ _ _ _ _ _ hn hsm.2.1 (Or.inl hc)) jy_X10_ways lm_L_72 (q0 := 0) rfl jX10.1 ⟨⟨Nat.le_of_ble_eq_true rfl, Nat.le_of_ble_eq_true rfl⟩, hcs0, hsl0⟩ (Nat.le_of_ble_eq_true rfl) rfl [0, 9, 10, 6, 7, 8] rfl rfl dL_law_551 ?_
    intro _ _
    dsimp only [jpush]
    refine J.aload_n g dL_law_554 rfl rfl ?_
    refine J.aload_n g dL_law_555 rfl rfl ?_
    refine J.iload g dL_law_556 rfl ?_
    refine J.iconstN g 1 dL_law_558 ?_
    refine J.iaddN g dL_law_559 ?_
    refine J.sld g hX (k := i + 1) (by omega) (by omega) h1 dL_law_560 ?_
    refine J.aload_n g dL_law_561 rfl rfl ?_
    refine J.iload g dL_law_562 rfl ?_
    refine J.iconstN g 2 dL_law_564 ?_
    refine J.iaddN g dL_law_565 ?_
    refine J.sld g hX (k := i + 2) (by omega) (by omega) h2 dL_law_566 ?_
    refine J.callV g (c_X11_ways_no l γ _ _ _ _ _ _ _ _ _ _ _ _ _ _ _ _ _ _ _ _ _ _ _ _ _ _ _ _ _ _ _ _ _ _ _ _ _ _ _ _ _ _ hI (Or.inl hc)) jy_X11_ways lm_L_75 (q0 := 86) rfl jX11.1 ⟨⟨Nat.le_of_ble_eq_true rfl, Nat.le_of_ble_eq_true rfl⟩, hcs0, hsl0⟩ (Nat.le_of_ble_eq_true rfl) rfl [86, 88] rfl (fun _ => rfl) rfl dL_law_567 ?_
    intro _ _
    dsimp only [jput, List.set_cons_zero, List.set_cons_succ, Option.toList, List.append, List.cons_append, List.nil_append, List.append_nil]
    refine J.icmp_eq g dL_law_570 (tgt := 1075) (by decide) (fun c_570 => ?_) (fun c_570 => (c_570 (rfl)).elim)
    exact J.widen (Nat.le_add_right cs 1) (Nat.le_add_right sl 6) (K (hR))
  | true =>
    obtain ⟨k, hk, rfl⟩ := jhas_t hc
    cases hw : jhas a2 (n + 1) with
    | false =>
      refine J.aload_n g dL_law_538 rfl rfl ?_
      refine J.aload_n g dL_law_539 rfl rfl ?_
      refine J.iload g dL_law_540 rfl ?_
      refine J.iconstN g 1 dL_law_542 ?_
      refine J.iaddN g dL_law_543 ?_
      refine J.sld g hX (k := i + 1) (by omega) (by omega) h1 dL_law_544 ?_
      refine J.aload_n g dL_law_545 rfl rfl ?_
      refine J.iload g dL_law_546 rfl ?_
      refine J.iconstN g 2 dL_law_548 ?_
      refine J.iaddN g dL_law_549 ?_
      refine J.sld g hX (k := i + 2) (by omega) (by omega) h2 dL_law_550 ?_
      refine J.callV0 g (c_X10_ways_no l γ _ _ _ _ _ _ _ _ _ _ _ _ _ _ _ _ _ _ _ _ _ _ _ _ _ _ _ hn hsm.2.1 (Or.inr hw)) jy_X10_ways lm_L_72 (q0 := 0) rfl jX10.1 ⟨⟨Nat.le_of_ble_eq_true rfl, Nat.le_of_ble_eq_true rfl⟩, hcs0, hsl0⟩ (Nat.le_of_ble_eq_true rfl) rfl [0, 9, 10, 6, 7, 8] rfl rfl dL_law_551 ?_
      intro _ _
      dsimp only [jpush]
      refine J.aload_n g dL_law_554 rfl rfl ?_
      refine J.aload_n g dL_law_555 rfl rfl ?_
      refine J.iload g dL_law_556 rfl ?_
      refine J.iconstN g 1 dL_law_558 ?_
      refine J.iaddN g dL_law_559 ?_
      refine J.sld g hX (k := i + 1) (by omega) (by omega) h1 dL_law_560 ?_
      refine J.aload_n g dL_law_561 rfl rfl ?_
      refine J.iload g dL_law_562 rfl ?_
      refine J.iconstN g 2 dL_law_564 ?_
      refine J.iaddN g dL_law_565 ?_
      refine J.sld g hX (k := i + 2) (by omega) (by omega) h2 dL_law_566 ?_
      refine J.callV g (c_X11_ways_no l γ _ _ _ _ _ _ _ _ _ _ _ _ _ _ _ _ _ _ _ _ _ _ _ _ _ _ _ _ _ _ _ _ _ _ _ _ _ _ _ _ _ _ hI (Or.inr hw)) jy_X11_ways lm_L_75 (q0 := 86) rfl jX11.1 ⟨⟨Nat.le_of_ble_eq_true rfl, Nat.le_of_ble_eq_true rfl⟩, hcs0, hsl0⟩ (Nat.le_of_ble_eq_true rfl) rfl [86, 88] rfl (fun _ => rfl) rfl dL_law_567 ?_
      intro _ _
      dsimp only [jput, List.set_cons_zero, List.set_cons_succ, Option.toList, List.append, List.cons_append, List.nil_append, List.append_nil]
      refine J.icmp_eq g dL_law_570 (tgt := 1075) (by decide) (fun c_570 => ?_) (fun c_570 => (c_570 (rfl)).elim)
      exact J.widen (Nat.le_add_right cs 1) (Nat.le_add_right sl 6) (K (hR))
    | true =>
      obtain ⟨k2, hk2, rfl⟩ := jhas_t hw
      refine J.aload_n g dL_law_538 rfl rfl ?_
      refine J.aload_n g dL_law_539 rfl rfl ?_
      refine J.iload g dL_law_540 rfl ?_
      refine J.iconstN g 1 dL_law_542 ?_
      refine J.iaddN g dL_law_543 ?_
      refine J.sld g hX (k := i + 1) (by omega) (by omega) h1 dL_law_544 ?_
      refine J.aload_n g dL_law_545 rfl rfl ?_
      refine J.iload g dL_law_546 rfl ?_
      refine J.iconstN g 2 dL_law_548 ?_
      refine J.iaddN g dL_law_549 ?_
      refine J.sld g hX (k := i + 2) (by omega) (by omega) h2 dL_law_550 ?_
      refine J.callV g (c_X10_ways_yes l γ _ _ _ _ _ _ _ _ _ _ _ _ _ _ _ _ _ _ _ _ _ _ _ _ _ _ _ _ (fun i => ca (56 + i)) W _ _ hn hT hf hk (by omega)) jy_X10_ways lm_L_72 (q0 := 0) rfl jX10.1 ⟨⟨Nat.le_of_ble_eq_true rfl, Nat.le_of_ble_eq_true rfl⟩, hcs0, hsl0⟩ (Nat.le_of_ble_eq_true rfl) rfl [0, 40, 55, 9, 10, 6, 7, 8, 56, 57, 58, 59, 60, 61, 62, 63, 64, 65, 66, 67, 68] rfl (fun _ => rfl) rfl dL_law_551 ?_
      intro u_551 h_551
      dsimp only [jrows13, jput, List.set_cons_zero, List.set_cons_succ, Option.toList, List.append, List.cons_append, List.nil_append, List.append_nil]
      refine J.aload_n g dL_law_554 rfl rfl ?_
      refine J.aload_n g dL_law_555 rfl rfl ?_
      refine J.iload g dL_law_556 rfl ?_
      refine J.iconstN g 1 dL_law_558 ?_
      refine J.iaddN g dL_law_559 ?_
      refine J.sld g hX (k := i + 1) (by omega) (by omega) h1 dL_law_560 ?_
      refine J.aload_n g dL_law_561 rfl rfl ?_
      refine J.iload g dL_law_562 rfl ?_
      refine J.iconstN g 2 dL_law_564 ?_
      refine J.iaddN g dL_law_565 ?_
      refine J.sld g hX (k := i + 2) (by omega) (by omega) h2 dL_law_566 ?_
      refine J.callV g (c_X11_ways_yes l γ _ _ _ _ _ _ _ _ _ _ _ _ _ _ _ _ _ _ _ _ _ _ _ _ _ _ _ _ _ _ _ _ _ _ _ _ _ _ _ _ _ _ _ hI hk (by omega)) jy_X11_ways lm_L_75 (q0 := 86) rfl jX11.1 ⟨⟨Nat.le_of_ble_eq_true rfl, Nat.le_of_ble_eq_true rfl⟩, hcs0, hsl0⟩ (Nat.le_of_ble_eq_true rfl) rfl [86, 88, 95] rfl (fun _ => rfl) rfl dL_law_567 ?_
      intro u_567 h_567
      dsimp only [jput, List.set_cons_zero, List.set_cons_succ, Option.toList, List.append, List.cons_append, List.nil_append, List.append_nil]
      refine J.icmp_eq g dL_law_570 (tgt := 1075) (by decide) (fun c_570 => ?_) (fun c_570 => (c_570 (congrArg nI (by rw [wsub_tf hJ hO]; exact ways_eq hcd hn hfo hk (by omega)))).elim)
      exact J.widen (Nat.le_add_right cs 1) (Nat.le_add_right sl 6) (K (hR))
set_option maxHeartbeats 8000000 in
set_option maxRecDepth 100000 in
theorem lc_exactly {l : Launch} {γ : jγ} {x : jE} {ca ma : Nat → Nat} {oa b L i cs sl : Nat} {xs : Nat → Int32} {a1 a2 : Int32} (g : jG γ x ({ frames := 2048, cells := 601024, slots := 7293034, locals := 84000 } : Room) code RL (some .boolean)) (hX : jScr x b L xs) (hL : L ≤ 3072) (hi : i + 6 ≤ L) (hcs : cs + 1 ≤ 601024) (hsl : sl + 6 ≤ 7293034) (h1 : xs (i + 1) = a1) (h2 : xs (i + 2) = a2) {dsd : Int32} {tl : Nat} {tf : Nat → Int32} {q : jRS} {cd pt od ex : Nat} {mf af : Nat → Nat} {n : Nat} {f : Nat → Nat} {trn : Nat} {trf : Nat → Nat} {oon : Nat} {oof : Nat → Nat} {nx pl : Nat} {ln : Nat → Nat} {rf : Nat → Nat → Nat} {ic il : Nat → Nat} {ik : Nat → Bool} {iff : Nat → Nat → Nat} {pn : Nat} {M W : Nat → Nat → Nat} {s0 s1 s2 s3 : Nat → Nat} {sgc wh : Nat} {m0 m1 m2 : Nat → Nat} {rn : Nat} {rfp : Nat → Nat} {sg : Nat} {C : Nat → Nat} {gl : Nat} {gf : Nat → Nat} {fl : Nat} {ff : Nat → Nat} {mth mfw mse : Int32} {mwd : Int64} {mtd msz mto mfr mso mnu mfa mpl mro msm mln : Nat} {t w r9 KF SS bf lv9 : Nat → Nat} {mik : Nat → Bool} {su : Nat → Nat} {be : Nat → Bool} {fe my : Nat → Int32} {O9 : Nat → Nat} {S9 : Nat → Bool} {LF TF C9 rn9 rb TB : Nat → Nat} {o9 : Nat → Int64} (hR : lR tl tf q cd pt od ex mf af n f nx pl ln rf ic il ik iff sgc wh m0 m1 m2 rn rfp sg C fl ff mfw mtd mfa msm t w KF SS mik)
    (K : ∀ {dsd : Int32} {tl : Nat} {tf : Nat → Int32} {q : jRS} {cd pt od ex : Nat} {mf af : Nat → Nat} {n : Nat} {f : Nat → Nat} {trn : Nat} {trf : Nat → Nat} {oon : Nat} {oof : Nat → Nat} {nx pl : Nat} {ln : Nat → Nat} {rf : Nat → Nat → Nat} {ic il : Nat → Nat} {ik : Nat → Bool} {iff : Nat → Nat → Nat} {pn : Nat} {M W : Nat → Nat → Nat} {s0 s1 s2 s3 : Nat → Nat} {sgc wh : Nat} {m0 m1 m2 : Nat → Nat} {rn : Nat} {rfp : Nat → Nat} {sg : Nat} {C : Nat → Nat} {gl : Nat} {gf : Nat → Nat} {fl : Nat} {ff : Nat → Nat} {mth mfw mse : Int32} {mwd : Int64} {mtd msz mto mfr mso mnu mfa mpl mro msm mln : Nat} {t w r9 KF SS bf lv9 : Nat → Nat} {mik : Nat → Bool} {su : Nat → Nat} {be : Nat → Bool} {fe my : Nat → Int32} {O9 : Nat → Nat} {S9 : Nat → Bool} {LF TF C9 rn9 rb TB : Nat → Nat} {o9 : Nat → Int64}, lR tl tf q cd pt od ex mf af n f nx pl ln rf ic il ik iff sgc wh m0 m1 m2 rn rfp sg C fl ff mfw mtd mfa msm t w KF SS mik → J γ l x (lW γ ca ma oa dsd tl tf q cd pt od ex mf af n f trn trf oon oof nx pl ln rf ic il ik iff pn M W s0 s1 s2 s3 sgc wh m0 m1 m2 rn rfp sg C gl gf fl ff mth mfw mse mwd mtd msz mto mfr mso mnu mfa mpl mro msm mln t w r9 KF SS bf lv9 mik su be fe my O9 S9 LF TF C9 rn9 rb TB o9) [some (.ref b), some (.ref (ca 0)), some (.ref (ma 0)), some (.ref oa), some (.int (nI i)), none, none] [] (cs + 1) (sl + 6) 1075) : J γ l x (lW γ ca ma oa dsd tl tf q cd pt od ex mf af n f trn trf oon oof nx pl ln rf ic il ik iff pn M W s0 s1 s2 s3 sgc wh m0 m1 m2 rn rfp sg C gl gf fl ff mth mfw mse mwd mtd msz mto mfr mso mnu mfa mpl mro msm mln t w r9 KF SS bf lv9 mik su be fe my O9 S9 LF TF C9 rn9 rb TB o9) [some (.ref b), some (.ref (ca 0)), some (.ref (ma 0)), some (.ref oa), some (.int (nI i)), none, none] [] cs sl 575 := by
  obtain ⟨⟨htl, ht, hmtd⟩, ⟨hq, hmfa, hmfw⟩, hG, hI, ⟨hnx, hpl, hln, hpR, hmsm⟩, ⟨hmik, him⟩, ⟨hsgc, hPB, hPf, hPV⟩, hsg, hMV⟩ := id hR
  subst ht
  obtain rfl : tl = mtd := hmtd.symm
  subst hmfa
  subst hmfw
  obtain rfl : pl = msm := hmsm.symm
  obtain rfl : ik = mik := hmik.symm
  obtain ⟨hcd, hpt, hod, hex, hmfe, hafe⟩ := id hG
  subst hpt
  subst hod
  subst hex
  have hT := hG.tab
  have hn := hI.2.2.2.2.1
  have hfo := hI.2.2.2.2.2.2
  have hsm := g_small cd hcd
  have hf : ∀ j, j < n → f j < 24 := fun j hj => Nat.lt_of_lt_of_le (hfo j hj) hsm.2.1
  have hJ := jpl_cd hG
  have hO := jop_cd hG
  have hinv : ∀ a, a < god cd → ∀ c, c < god cd → jpl (god cd) mf (jpl (god cd) mf c a) (jop (god cd) af a) = c := fun a ha c hc => by rw [hJ, hO]; exact gP_can hcd ha hc
  have hcs0 : cs ≤ 601024 := by omega
  have hsl0 : sl ≤ 7293034 := by omega
  dsimp only [lW]
  cases hc : jhas a1 (god cd) with
  | false =>
    refine J.aload_n g dL_law_575 rfl rfl ?_
    refine J.aload_n g dL_law_576 rfl rfl ?_
    refine J.iload g dL_law_577 rfl ?_
    refine J.iconstN g 1 dL_law_579 ?_
    refine J.iaddN g dL_law_580 ?_
    refine J.sld g hX (k := i + 1) (by omega) (by omega) h1 dL_law_581 ?_
    refine J.aload_n g dL_law_582 rfl rfl ?_
    refine J.iload g dL_law_583 rfl ?_
    refine J.iconstN g 2 dL_law_585 ?_
    refine J.iaddN g dL_law_586 ?_
    refine J.sld g hX (k := i + 2) (by omega) (by omega) h2 dL_law_587 ?_
    refine J.callV0 g (c_X10_exactly_no l γ _ _ _ _ _ _ _ _ _ _ _ _ _ _ _ _ _ _ _ _ _ _ _ _ _ _ _ hn hsm.2.1 (Or.inl hc)) jy_X10_exactly lm_L_76 (q0 := 0) rfl jX10.1 ⟨⟨Nat.le_of_ble_eq_true rfl, Nat.le_of_ble_eq_true rfl⟩, hcs0, hsl0⟩ (Nat.le_of_ble_eq_true rfl) rfl [0, 9, 10, 6, 7, 8] rfl rfl dL_law_588 ?_
    intro _ _
    dsimp only [jpush]
    refine J.aload_n g dL_law_591 rfl rfl ?_
    refine J.aload_n g dL_law_592 rfl rfl ?_
    refine J.iload g dL_law_593 rfl ?_
    refine J.iconstN g 1 dL_law_595 ?_
    refine J.iaddN g dL_law_596 ?_
    refine J.sld g hX (k := i + 1) (by omega) (by omega) h1 dL_law_597 ?_
    refine J.aload_n g dL_law_598 rfl rfl ?_
    refine J.iload g dL_law_599 rfl ?_
    refine J.iconstN g 2 dL_law_601 ?_
    refine J.iaddN g dL_law_602 ?_
    refine J.sld g hX (k := i + 2) (by omega) (by omega) h2 dL_law_603 ?_
    refine J.callV g (c_X11_exactly_no l γ _ _ _ _ _ _ _ _ _ _ _ _ _ _ _ _ _ _ _ _ _ _ _ _ _ _ _ _ _ _ _ _ _ _ _ _ _ _ _ _ _ _ hI (Or.inl hc)) jy_X11_exactly lm_L_79 (q0 := 86) rfl jX11.1 ⟨⟨Nat.le_of_ble_eq_true rfl, Nat.le_of_ble_eq_true rfl⟩, hcs0, hsl0⟩ (Nat.le_of_ble_eq_true rfl) rfl [86, 88] rfl (fun _ => rfl) rfl dL_law_604 ?_
    intro _ _
    dsimp only [jput, List.set_cons_zero, List.set_cons_succ, Option.toList, List.append, List.cons_append, List.nil_append, List.append_nil]
    refine J.icmp_eq g dL_law_607 (tgt := 1075) (by decide) (fun c_607 => ?_) (fun c_607 => (c_607 (rfl)).elim)
    exact J.widen (Nat.le_add_right cs 1) (Nat.le_add_right sl 6) (K (hR))
  | true =>
    obtain ⟨k, hk, rfl⟩ := jhas_t hc
    cases hw : jhas a2 (n + 1) with
    | false =>
      refine J.aload_n g dL_law_575 rfl rfl ?_
      refine J.aload_n g dL_law_576 rfl rfl ?_
      refine J.iload g dL_law_577 rfl ?_
      refine J.iconstN g 1 dL_law_579 ?_
      refine J.iaddN g dL_law_580 ?_
      refine J.sld g hX (k := i + 1) (by omega) (by omega) h1 dL_law_581 ?_
      refine J.aload_n g dL_law_582 rfl rfl ?_
      refine J.iload g dL_law_583 rfl ?_
      refine J.iconstN g 2 dL_law_585 ?_
      refine J.iaddN g dL_law_586 ?_
      refine J.sld g hX (k := i + 2) (by omega) (by omega) h2 dL_law_587 ?_
      refine J.callV0 g (c_X10_exactly_no l γ _ _ _ _ _ _ _ _ _ _ _ _ _ _ _ _ _ _ _ _ _ _ _ _ _ _ _ hn hsm.2.1 (Or.inr (Or.inr hw))) jy_X10_exactly lm_L_76 (q0 := 0) rfl jX10.1 ⟨⟨Nat.le_of_ble_eq_true rfl, Nat.le_of_ble_eq_true rfl⟩, hcs0, hsl0⟩ (Nat.le_of_ble_eq_true rfl) rfl [0, 9, 10, 6, 7, 8] rfl rfl dL_law_588 ?_
      intro _ _
      dsimp only [jpush]
      refine J.aload_n g dL_law_591 rfl rfl ?_
      refine J.aload_n g dL_law_592 rfl rfl ?_
      refine J.iload g dL_law_593 rfl ?_
      refine J.iconstN g 1 dL_law_595 ?_
      refine J.iaddN g dL_law_596 ?_
      refine J.sld g hX (k := i + 1) (by omega) (by omega) h1 dL_law_597 ?_
      refine J.aload_n g dL_law_598 rfl rfl ?_
      refine J.iload g dL_law_599 rfl ?_
      refine J.iconstN g 2 dL_law_601 ?_
      refine J.iaddN g dL_law_602 ?_
      refine J.sld g hX (k := i + 2) (by omega) (by omega) h2 dL_law_603 ?_
      refine J.callV g (c_X11_exactly_no l γ _ _ _ _ _ _ _ _ _ _ _ _ _ _ _ _ _ _ _ _ _ _ _ _ _ _ _ _ _ _ _ _ _ _ _ _ _ _ _ _ _ _ hI (Or.inr (mIn1_f (by omega) hw))) jy_X11_exactly lm_L_79 (q0 := 86) rfl jX11.1 ⟨⟨Nat.le_of_ble_eq_true rfl, Nat.le_of_ble_eq_true rfl⟩, hcs0, hsl0⟩ (Nat.le_of_ble_eq_true rfl) rfl [86, 88] rfl (fun _ => rfl) rfl dL_law_604 ?_
      intro _ _
      dsimp only [jput, List.set_cons_zero, List.set_cons_succ, Option.toList, List.append, List.cons_append, List.nil_append, List.append_nil]
      refine J.icmp_eq g dL_law_607 (tgt := 1075) (by decide) (fun c_607 => ?_) (fun c_607 => (c_607 (rfl)).elim)
      exact J.widen (Nat.le_add_right cs 1) (Nat.le_add_right sl 6) (K (hR))
    | true =>
      obtain ⟨k2, hk2, rfl⟩ := jhas_t hw
      by_cases h0 : k2 = 0
      ·
        subst h0
        refine J.aload_n g dL_law_575 rfl rfl ?_
        refine J.aload_n g dL_law_576 rfl rfl ?_
        refine J.iload g dL_law_577 rfl ?_
        refine J.iconstN g 1 dL_law_579 ?_
        refine J.iaddN g dL_law_580 ?_
        refine J.sld g hX (k := i + 1) (by omega) (by omega) h1 dL_law_581 ?_
        refine J.aload_n g dL_law_582 rfl rfl ?_
        refine J.iload g dL_law_583 rfl ?_
        refine J.iconstN g 2 dL_law_585 ?_
        refine J.iaddN g dL_law_586 ?_
        refine J.sld g hX (k := i + 2) (by omega) (by omega) h2 dL_law_587 ?_
        refine J.callV0 g (c_X10_exactly_no l γ _ _ _ _ _ _ _ _ _ _ _ _ _ _ _ _ _ _ _ _ _ _ _ _ _ _ _ hn hsm.2.1 (Or.inr (Or.inl (by decide)))) jy_X10_exactly lm_L_76 (q0 := 0) rfl jX10.1 ⟨⟨Nat.le_of_ble_eq_true rfl, Nat.le_of_ble_eq_true rfl⟩, hcs0, hsl0⟩ (Nat.le_of_ble_eq_true rfl) rfl [0, 9, 10, 6, 7, 8] rfl rfl dL_law_588 ?_
        intro _ _
        dsimp only [jpush]
        refine J.aload_n g dL_law_591 rfl rfl ?_
        refine J.aload_n g dL_law_592 rfl rfl ?_
        refine J.iload g dL_law_593 rfl ?_
        refine J.iconstN g 1 dL_law_595 ?_
        refine J.iaddN g dL_law_596 ?_
        refine J.sld g hX (k := i + 1) (by omega) (by omega) h1 dL_law_597 ?_
        refine J.aload_n g dL_law_598 rfl rfl ?_
        refine J.iload g dL_law_599 rfl ?_
        refine J.iconstN g 2 dL_law_601 ?_
        refine J.iaddN g dL_law_602 ?_
        refine J.sld g hX (k := i + 2) (by omega) (by omega) h2 dL_law_603 ?_
        refine J.callV g (c_X11_exactly_no l γ _ _ _ _ _ _ _ _ _ _ _ _ _ _ _ _ _ _ _ _ _ _ _ _ _ _ _ _ _ _ _ _ _ _ _ _ _ _ _ _ _ _ hI (Or.inr (by rw [mIn_nn (by omega) (by omega) (by omega)]; exact decide_eq_false (by omega)))) jy_X11_exactly lm_L_79 (q0 := 86) rfl jX11.1 ⟨⟨Nat.le_of_ble_eq_true rfl, Nat.le_of_ble_eq_true rfl⟩, hcs0, hsl0⟩ (Nat.le_of_ble_eq_true rfl) rfl [86, 88] rfl (fun _ => rfl) rfl dL_law_604 ?_
        intro _ _
        dsimp only [jput, List.set_cons_zero, List.set_cons_succ, Option.toList, List.append, List.cons_append, List.nil_append, List.append_nil]
        refine J.icmp_eq g dL_law_607 (tgt := 1075) (by decide) (fun c_607 => ?_) (fun c_607 => (c_607 (rfl)).elim)
        exact J.widen (Nat.le_add_right cs 1) (Nat.le_add_right sl 6) (K (hR))
      ·
        refine J.aload_n g dL_law_575 rfl rfl ?_
        refine J.aload_n g dL_law_576 rfl rfl ?_
        refine J.iload g dL_law_577 rfl ?_
        refine J.iconstN g 1 dL_law_579 ?_
        refine J.iaddN g dL_law_580 ?_
        refine J.sld g hX (k := i + 1) (by omega) (by omega) h1 dL_law_581 ?_
        refine J.aload_n g dL_law_582 rfl rfl ?_
        refine J.iload g dL_law_583 rfl ?_
        refine J.iconstN g 2 dL_law_585 ?_
        refine J.iaddN g dL_law_586 ?_
        refine J.sld g hX (k := i + 2) (by omega) (by omega) h2 dL_law_587 ?_
        refine J.callV g (c_X10_exactly_yes l γ _ _ _ _ _ _ _ _ _ _ _ _ _ _ _ _ _ _ _ _ _ _ _ _ _ _ _ _ (fun i => ca (42 + i)) M _ _ hn hT hf hinv hfo hk ⟨by omega, by omega⟩) jy_X10_exactly lm_L_76 (q0 := 0) rfl jX10.1 ⟨⟨Nat.le_of_ble_eq_true rfl, Nat.le_of_ble_eq_true rfl⟩, hcs0, hsl0⟩ (Nat.le_of_ble_eq_true rfl) rfl [0, 40, 41, 9, 10, 6, 7, 8, 42, 43, 44, 45, 46, 47, 48, 49, 50, 51, 52, 53, 54] rfl (fun _ => rfl) rfl dL_law_588 ?_
        intro u_588 h_588
        dsimp only [jrows13, jput, List.set_cons_zero, List.set_cons_succ, Option.toList, List.append, List.cons_append, List.nil_append, List.append_nil]
        refine J.aload_n g dL_law_591 rfl rfl ?_
        refine J.aload_n g dL_law_592 rfl rfl ?_
        refine J.iload g dL_law_593 rfl ?_
        refine J.iconstN g 1 dL_law_595 ?_
        refine J.iaddN g dL_law_596 ?_
        refine J.sld g hX (k := i + 1) (by omega) (by omega) h1 dL_law_597 ?_
        refine J.aload_n g dL_law_598 rfl rfl ?_
        refine J.iload g dL_law_599 rfl ?_
        refine J.iconstN g 2 dL_law_601 ?_
        refine J.iaddN g dL_law_602 ?_
        refine J.sld g hX (k := i + 2) (by omega) (by omega) h2 dL_law_603 ?_
        refine J.callV g (c_X11_exactly_yes l γ _ _ _ _ _ _ _ _ _ _ _ _ _ _ _ _ _ _ _ _ _ _ _ _ _ _ _ _ _ _ _ _ _ _ _ _ _ _ _ _ _ _ _ hI hk ⟨by omega, by omega⟩) jy_X11_exactly lm_L_79 (q0 := 86) rfl jX11.1 ⟨⟨Nat.le_of_ble_eq_true rfl, Nat.le_of_ble_eq_true rfl⟩, hcs0, hsl0⟩ (Nat.le_of_ble_eq_true rfl) rfl [86, 88, 95] rfl (fun _ => rfl) rfl dL_law_604 ?_
        intro u_604 h_604
        dsimp only [jput, List.set_cons_zero, List.set_cons_succ, Option.toList, List.append, List.cons_append, List.nil_append, List.append_nil]
        refine J.icmp_eq g dL_law_607 (tgt := 1075) (by decide) (fun c_607 => ?_) (fun c_607 => (c_607 (by rw [msub_tf hJ, jls_t hJ hO]; exact exactly_eq hcd hn hfo hk (by omega))).elim)
        exact J.widen (Nat.le_add_right cs 1) (Nat.le_add_right sl 6) (K (hR))
set_option maxHeartbeats 8000000 in
set_option maxRecDepth 100000 in
theorem lc_run {l : Launch} {γ : jγ} {x : jE} {ca ma : Nat → Nat} {oa b L i cs sl : Nat} {xs : Nat → Int32} {a1 a2 : Int32} (g : jG γ x ({ frames := 2048, cells := 601024, slots := 7293034, locals := 84000 } : Room) code RL (some .boolean)) (hX : jScr x b L xs) (hL : L ≤ 3072) (hi : i + 6 ≤ L) (hcs : cs + 1 ≤ 601024) (hsl : sl + 6 ≤ 7293034) (h1 : xs (i + 1) = a1) (h2 : xs (i + 2) = a2) {dsd : Int32} {tl : Nat} {tf : Nat → Int32} {q : jRS} {cd pt od ex : Nat} {mf af : Nat → Nat} {n : Nat} {f : Nat → Nat} {trn : Nat} {trf : Nat → Nat} {oon : Nat} {oof : Nat → Nat} {nx pl : Nat} {ln : Nat → Nat} {rf : Nat → Nat → Nat} {ic il : Nat → Nat} {ik : Nat → Bool} {iff : Nat → Nat → Nat} {pn : Nat} {M W : Nat → Nat → Nat} {s0 s1 s2 s3 : Nat → Nat} {sgc wh : Nat} {m0 m1 m2 : Nat → Nat} {rn : Nat} {rfp : Nat → Nat} {sg : Nat} {C : Nat → Nat} {gl : Nat} {gf : Nat → Nat} {fl : Nat} {ff : Nat → Nat} {mth mfw mse : Int32} {mwd : Int64} {mtd msz mto mfr mso mnu mfa mpl mro msm mln : Nat} {t w r9 KF SS bf lv9 : Nat → Nat} {mik : Nat → Bool} {su : Nat → Nat} {be : Nat → Bool} {fe my : Nat → Int32} {O9 : Nat → Nat} {S9 : Nat → Bool} {LF TF C9 rn9 rb TB : Nat → Nat} {o9 : Nat → Int64} (hR : lR tl tf q cd pt od ex mf af n f nx pl ln rf ic il ik iff sgc wh m0 m1 m2 rn rfp sg C fl ff mfw mtd mfa msm t w KF SS mik)
    (K : ∀ {dsd : Int32} {tl : Nat} {tf : Nat → Int32} {q : jRS} {cd pt od ex : Nat} {mf af : Nat → Nat} {n : Nat} {f : Nat → Nat} {trn : Nat} {trf : Nat → Nat} {oon : Nat} {oof : Nat → Nat} {nx pl : Nat} {ln : Nat → Nat} {rf : Nat → Nat → Nat} {ic il : Nat → Nat} {ik : Nat → Bool} {iff : Nat → Nat → Nat} {pn : Nat} {M W : Nat → Nat → Nat} {s0 s1 s2 s3 : Nat → Nat} {sgc wh : Nat} {m0 m1 m2 : Nat → Nat} {rn : Nat} {rfp : Nat → Nat} {sg : Nat} {C : Nat → Nat} {gl : Nat} {gf : Nat → Nat} {fl : Nat} {ff : Nat → Nat} {mth mfw mse : Int32} {mwd : Int64} {mtd msz mto mfr mso mnu mfa mpl mro msm mln : Nat} {t w r9 KF SS bf lv9 : Nat → Nat} {mik : Nat → Bool} {su : Nat → Nat} {be : Nat → Bool} {fe my : Nat → Int32} {O9 : Nat → Nat} {S9 : Nat → Bool} {LF TF C9 rn9 rb TB : Nat → Nat} {o9 : Nat → Int64}, lR tl tf q cd pt od ex mf af n f nx pl ln rf ic il ik iff sgc wh m0 m1 m2 rn rfp sg C fl ff mfw mtd mfa msm t w KF SS mik → J γ l x (lW γ ca ma oa dsd tl tf q cd pt od ex mf af n f trn trf oon oof nx pl ln rf ic il ik iff pn M W s0 s1 s2 s3 sgc wh m0 m1 m2 rn rfp sg C gl gf fl ff mth mfw mse mwd mtd msz mto mfr mso mnu mfa mpl mro msm mln t w r9 KF SS bf lv9 mik su be fe my O9 S9 LF TF C9 rn9 rb TB o9) [some (.ref b), some (.ref (ca 0)), some (.ref (ma 0)), some (.ref oa), some (.int (nI i)), none, none] [] (cs + 1) (sl + 6) 1075) : J γ l x (lW γ ca ma oa dsd tl tf q cd pt od ex mf af n f trn trf oon oof nx pl ln rf ic il ik iff pn M W s0 s1 s2 s3 sgc wh m0 m1 m2 rn rfp sg C gl gf fl ff mth mfw mse mwd mtd msz mto mfr mso mnu mfa mpl mro msm mln t w r9 KF SS bf lv9 mik su be fe my O9 S9 LF TF C9 rn9 rb TB o9) [some (.ref b), some (.ref (ca 0)), some (.ref (ma 0)), some (.ref oa), some (.int (nI i)), none, none] [] cs sl 612 := by
  obtain ⟨⟨htl, ht, hmtd⟩, ⟨hq, hmfa, hmfw⟩, hG, hI, ⟨hnx, hpl, hln, hpR, hmsm⟩, ⟨hmik, him⟩, ⟨hsgc, hPB, hPf, hPV⟩, hsg, hMV⟩ := id hR
  subst ht
  obtain rfl : tl = mtd := hmtd.symm
  subst hmfa
  subst hmfw
  obtain rfl : pl = msm := hmsm.symm
  obtain rfl : ik = mik := hmik.symm
  obtain ⟨hcd, hpt, hod, hex, hmfe, hafe⟩ := id hG
  subst hpt
  subst hod
  subst hex
  have hT := hG.tab
  have hn := hI.2.2.2.2.1
  have hfo := hI.2.2.2.2.2.2
  have hsm := g_small cd hcd
  have hf : ∀ j, j < n → f j < 24 := fun j hj => Nat.lt_of_lt_of_le (hfo j hj) hsm.2.1
  have hJ := jpl_cd hG
  have hO := jop_cd hG
  have hinv : ∀ a, a < god cd → ∀ c, c < god cd → jpl (god cd) mf (jpl (god cd) mf c a) (jop (god cd) af a) = c := fun a ha c hc => by rw [hJ, hO]; exact gP_can hcd ha hc
  have hcs0 : cs ≤ 601024 := by omega
  have hsl0 : sl ≤ 7293034 := by omega
  dsimp only [lW]
  cases hc : jhas a1 (god cd) with
  | false =>
    refine J.aload_n g dL_law_612 rfl rfl ?_
    refine J.aload_n g dL_law_613 rfl rfl ?_
    refine J.iload g dL_law_614 rfl ?_
    refine J.iconstN g 1 dL_law_616 ?_
    refine J.iaddN g dL_law_617 ?_
    refine J.sld g hX (k := i + 1) (by omega) (by omega) h1 dL_law_618 ?_
    refine J.aload_n g dL_law_619 rfl rfl ?_
    refine J.iload g dL_law_620 rfl ?_
    refine J.iconstN g 2 dL_law_622 ?_
    refine J.iaddN g dL_law_623 ?_
    refine J.sld g hX (k := i + 2) (by omega) (by omega) h2 dL_law_624 ?_
    refine J.callV0 g (c_X10_run_no l γ _ _ _ _ _ _ _ _ _ _ _ _ _ _ _ _ _ _ _ _ _ _ _ _ _ _ _ hsm.2.1 (Or.inl hc)) jy_X10_run lm_L_80 (q0 := 0) rfl jX10.1 ⟨⟨Nat.le_of_ble_eq_true rfl, Nat.le_of_ble_eq_true rfl⟩, hcs0, hsl0⟩ (Nat.le_of_ble_eq_true rfl) rfl [0, 9, 10, 6, 7, 8] rfl rfl dL_law_625 ?_
    intro _ _
    dsimp only [jpush]
    refine J.aload_n g dL_law_628 rfl rfl ?_
    refine J.aload_n g dL_law_629 rfl rfl ?_
    refine J.iload g dL_law_630 rfl ?_
    refine J.iconstN g 1 dL_law_632 ?_
    refine J.iaddN g dL_law_633 ?_
    refine J.sld g hX (k := i + 1) (by omega) (by omega) h1 dL_law_634 ?_
    refine J.aload_n g dL_law_635 rfl rfl ?_
    refine J.iload g dL_law_636 rfl ?_
    refine J.iconstN g 2 dL_law_638 ?_
    refine J.iaddN g dL_law_639 ?_
    refine J.sld g hX (k := i + 2) (by omega) (by omega) h2 dL_law_640 ?_
    refine J.callV g (c_X11_run_no l γ _ _ _ _ _ _ _ _ _ _ _ _ _ _ _ _ _ _ _ _ _ _ _ _ _ _ _ _ _ _ _ _ _ _ _ _ _ _ _ _ _ _ hI (Or.inl hc)) jy_X11_run lm_L_83 (q0 := 86) rfl jX11.1 ⟨⟨Nat.le_of_ble_eq_true rfl, Nat.le_of_ble_eq_true rfl⟩, hcs0, hsl0⟩ (Nat.le_of_ble_eq_true rfl) rfl [86, 88] rfl (fun _ => rfl) rfl dL_law_641 ?_
    intro _ _
    dsimp only [jput, List.set_cons_zero, List.set_cons_succ, Option.toList, List.append, List.cons_append, List.nil_append, List.append_nil]
    refine J.icmp_eq g dL_law_644 (tgt := 1075) (by decide) (fun c_644 => ?_) (fun c_644 => (c_644 (rfl)).elim)
    exact J.widen (Nat.le_add_right cs 1) (Nat.le_add_right sl 6) (K (hR))
  | true =>
    obtain ⟨k, hk, rfl⟩ := jhas_t hc
    cases hw : mIn a2 (nI 0) (nI 1) with
    | false =>
      refine J.aload_n g dL_law_612 rfl rfl ?_
      refine J.aload_n g dL_law_613 rfl rfl ?_
      refine J.iload g dL_law_614 rfl ?_
      refine J.iconstN g 1 dL_law_616 ?_
      refine J.iaddN g dL_law_617 ?_
      refine J.sld g hX (k := i + 1) (by omega) (by omega) h1 dL_law_618 ?_
      refine J.aload_n g dL_law_619 rfl rfl ?_
      refine J.iload g dL_law_620 rfl ?_
      refine J.iconstN g 2 dL_law_622 ?_
      refine J.iaddN g dL_law_623 ?_
      refine J.sld g hX (k := i + 2) (by omega) (by omega) h2 dL_law_624 ?_
      refine J.callV0 g (c_X10_run_no l γ _ _ _ _ _ _ _ _ _ _ _ _ _ _ _ _ _ _ _ _ _ _ _ _ _ _ _ hsm.2.1 (Or.inr (mIn01_f hw))) jy_X10_run lm_L_80 (q0 := 0) rfl jX10.1 ⟨⟨Nat.le_of_ble_eq_true rfl, Nat.le_of_ble_eq_true rfl⟩, hcs0, hsl0⟩ (Nat.le_of_ble_eq_true rfl) rfl [0, 9, 10, 6, 7, 8] rfl rfl dL_law_625 ?_
      intro _ _
      dsimp only [jpush]
      refine J.aload_n g dL_law_628 rfl rfl ?_
      refine J.aload_n g dL_law_629 rfl rfl ?_
      refine J.iload g dL_law_630 rfl ?_
      refine J.iconstN g 1 dL_law_632 ?_
      refine J.iaddN g dL_law_633 ?_
      refine J.sld g hX (k := i + 1) (by omega) (by omega) h1 dL_law_634 ?_
      refine J.aload_n g dL_law_635 rfl rfl ?_
      refine J.iload g dL_law_636 rfl ?_
      refine J.iconstN g 2 dL_law_638 ?_
      refine J.iaddN g dL_law_639 ?_
      refine J.sld g hX (k := i + 2) (by omega) (by omega) h2 dL_law_640 ?_
      refine J.callV g (c_X11_run_no l γ _ _ _ _ _ _ _ _ _ _ _ _ _ _ _ _ _ _ _ _ _ _ _ _ _ _ _ _ _ _ _ _ _ _ _ _ _ _ _ _ _ _ hI (Or.inr hw)) jy_X11_run lm_L_83 (q0 := 86) rfl jX11.1 ⟨⟨Nat.le_of_ble_eq_true rfl, Nat.le_of_ble_eq_true rfl⟩, hcs0, hsl0⟩ (Nat.le_of_ble_eq_true rfl) rfl [86, 88] rfl (fun _ => rfl) rfl dL_law_641 ?_
      intro _ _
      dsimp only [jput, List.set_cons_zero, List.set_cons_succ, Option.toList, List.append, List.cons_append, List.nil_append, List.append_nil]
      refine J.icmp_eq g dL_law_644 (tgt := 1075) (by decide) (fun c_644 => ?_) (fun c_644 => (c_644 (rfl)).elim)
      exact J.widen (Nat.le_add_right cs 1) (Nat.le_add_right sl 6) (K (hR))
    | true =>
      refine J.aload_n g dL_law_612 rfl rfl ?_
      refine J.aload_n g dL_law_613 rfl rfl ?_
      refine J.iload g dL_law_614 rfl ?_
      refine J.iconstN g 1 dL_law_616 ?_
      refine J.iaddN g dL_law_617 ?_
      refine J.sld g hX (k := i + 1) (by omega) (by omega) h1 dL_law_618 ?_
      refine J.aload_n g dL_law_619 rfl rfl ?_
      refine J.iload g dL_law_620 rfl ?_
      refine J.iconstN g 2 dL_law_622 ?_
      refine J.iaddN g dL_law_623 ?_
      refine J.sld g hX (k := i + 2) (by omega) (by omega) h2 dL_law_624 ?_
      refine J.callV0 g (c_X10_run_yes l γ _ _ _ _ _ _ _ _ _ _ _ _ _ _ _ _ _ _ _ _ _ _ _ _ _ _ _ hn hT hf hk (mIn01_t hw).1 (mIn01_t hw).2) jy_X10_run lm_L_80 (q0 := 0) rfl jX10.1 ⟨⟨Nat.le_of_ble_eq_true rfl, Nat.le_of_ble_eq_true rfl⟩, hcs0, hsl0⟩ (Nat.le_of_ble_eq_true rfl) rfl [0, 9, 10, 6, 7, 8] rfl rfl dL_law_625 ?_
      intro _ _
      dsimp only [jpush]
      refine J.aload_n g dL_law_628 rfl rfl ?_
      refine J.aload_n g dL_law_629 rfl rfl ?_
      refine J.iload g dL_law_630 rfl ?_
      refine J.iconstN g 1 dL_law_632 ?_
      refine J.iaddN g dL_law_633 ?_
      refine J.sld g hX (k := i + 1) (by omega) (by omega) h1 dL_law_634 ?_
      refine J.aload_n g dL_law_635 rfl rfl ?_
      refine J.iload g dL_law_636 rfl ?_
      refine J.iconstN g 2 dL_law_638 ?_
      refine J.iaddN g dL_law_639 ?_
      refine J.sld g hX (k := i + 2) (by omega) (by omega) h2 dL_law_640 ?_
      refine J.callV g (c_X11_run_yes l γ _ _ _ _ _ _ _ _ _ _ _ _ _ _ _ _ _ _ _ _ _ _ _ _ _ _ _ _ _ _ _ _ _ _ _ _ _ _ _ _ _ _ hI hk hw) jy_X11_run lm_L_83 (q0 := 86) rfl jX11.1 ⟨⟨Nat.le_of_ble_eq_true rfl, Nat.le_of_ble_eq_true rfl⟩, hcs0, hsl0⟩ (Nat.le_of_ble_eq_true rfl) rfl [86, 88] rfl (fun _ => rfl) rfl dL_law_641 ?_
      intro _ _
      dsimp only [jput, List.set_cons_zero, List.set_cons_succ, Option.toList, List.append, List.cons_append, List.nil_append, List.append_nil]
      refine J.icmp_eq g dL_law_644 (tgt := 1075) (by decide) (fun c_644 => ?_) (fun c_644 => (c_644 (jrun_t hJ _ _ _ _ _)).elim)
      exact J.widen (Nat.le_add_right cs 1) (Nat.le_add_right sl 6) (K (hR))
set_option maxHeartbeats 8000000 in
set_option maxRecDepth 100000 in
theorem lc_free {l : Launch} {γ : jγ} {x : jE} {ca ma : Nat → Nat} {oa b L i cs sl : Nat} {xs : Nat → Int32} {a1 : Int32} (g : jG γ x ({ frames := 2048, cells := 601024, slots := 7293034, locals := 84000 } : Room) code RL (some .boolean)) (hX : jScr x b L xs) (hL : L ≤ 3072) (hi : i + 6 ≤ L) (hcs : cs + 1 ≤ 601024) (hsl : sl + 6 ≤ 7293034) (h1 : xs (i + 1) = a1) {dsd : Int32} {tl : Nat} {tf : Nat → Int32} {q : jRS} {cd pt od ex : Nat} {mf af : Nat → Nat} {n : Nat} {f : Nat → Nat} {trn : Nat} {trf : Nat → Nat} {oon : Nat} {oof : Nat → Nat} {nx pl : Nat} {ln : Nat → Nat} {rf : Nat → Nat → Nat} {ic il : Nat → Nat} {ik : Nat → Bool} {iff : Nat → Nat → Nat} {pn : Nat} {M W : Nat → Nat → Nat} {s0 s1 s2 s3 : Nat → Nat} {sgc wh : Nat} {m0 m1 m2 : Nat → Nat} {rn : Nat} {rfp : Nat → Nat} {sg : Nat} {C : Nat → Nat} {gl : Nat} {gf : Nat → Nat} {fl : Nat} {ff : Nat → Nat} {mth mfw mse : Int32} {mwd : Int64} {mtd msz mto mfr mso mnu mfa mpl mro msm mln : Nat} {t w r9 KF SS bf lv9 : Nat → Nat} {mik : Nat → Bool} {su : Nat → Nat} {be : Nat → Bool} {fe my : Nat → Int32} {O9 : Nat → Nat} {S9 : Nat → Bool} {LF TF C9 rn9 rb TB : Nat → Nat} {o9 : Nat → Int64} (hR : lR tl tf q cd pt od ex mf af n f nx pl ln rf ic il ik iff sgc wh m0 m1 m2 rn rfp sg C fl ff mfw mtd mfa msm t w KF SS mik)
    (K : ∀ {dsd : Int32} {tl : Nat} {tf : Nat → Int32} {q : jRS} {cd pt od ex : Nat} {mf af : Nat → Nat} {n : Nat} {f : Nat → Nat} {trn : Nat} {trf : Nat → Nat} {oon : Nat} {oof : Nat → Nat} {nx pl : Nat} {ln : Nat → Nat} {rf : Nat → Nat → Nat} {ic il : Nat → Nat} {ik : Nat → Bool} {iff : Nat → Nat → Nat} {pn : Nat} {M W : Nat → Nat → Nat} {s0 s1 s2 s3 : Nat → Nat} {sgc wh : Nat} {m0 m1 m2 : Nat → Nat} {rn : Nat} {rfp : Nat → Nat} {sg : Nat} {C : Nat → Nat} {gl : Nat} {gf : Nat → Nat} {fl : Nat} {ff : Nat → Nat} {mth mfw mse : Int32} {mwd : Int64} {mtd msz mto mfr mso mnu mfa mpl mro msm mln : Nat} {t w r9 KF SS bf lv9 : Nat → Nat} {mik : Nat → Bool} {su : Nat → Nat} {be : Nat → Bool} {fe my : Nat → Int32} {O9 : Nat → Nat} {S9 : Nat → Bool} {LF TF C9 rn9 rb TB : Nat → Nat} {o9 : Nat → Int64}, lR tl tf q cd pt od ex mf af n f nx pl ln rf ic il ik iff sgc wh m0 m1 m2 rn rfp sg C fl ff mfw mtd mfa msm t w KF SS mik → J γ l x (lW γ ca ma oa dsd tl tf q cd pt od ex mf af n f trn trf oon oof nx pl ln rf ic il ik iff pn M W s0 s1 s2 s3 sgc wh m0 m1 m2 rn rfp sg C gl gf fl ff mth mfw mse mwd mtd msz mto mfr mso mnu mfa mpl mro msm mln t w r9 KF SS bf lv9 mik su be fe my O9 S9 LF TF C9 rn9 rb TB o9) [some (.ref b), some (.ref (ca 0)), some (.ref (ma 0)), some (.ref oa), some (.int (nI i)), none, none] [] (cs + 1) (sl + 6) 1075) : J γ l x (lW γ ca ma oa dsd tl tf q cd pt od ex mf af n f trn trf oon oof nx pl ln rf ic il ik iff pn M W s0 s1 s2 s3 sgc wh m0 m1 m2 rn rfp sg C gl gf fl ff mth mfw mse mwd mtd msz mto mfr mso mnu mfa mpl mro msm mln t w r9 KF SS bf lv9 mik su be fe my O9 S9 LF TF C9 rn9 rb TB o9) [some (.ref b), some (.ref (ca 0)), some (.ref (ma 0)), some (.ref oa), some (.int (nI i)), none, none] [] cs sl 649 := by
  obtain ⟨⟨htl, ht, hmtd⟩, ⟨hq, hmfa, hmfw⟩, hG, hI, ⟨hnx, hpl, hln, hpR, hmsm⟩, ⟨hmik, him⟩, ⟨hsgc, hPB, hPf, hPV⟩, hsg, hMV⟩ := id hR
  subst ht
  obtain rfl : tl = mtd := hmtd.symm
  subst hmfa
  subst hmfw
  obtain rfl : pl = msm := hmsm.symm
  obtain rfl : ik = mik := hmik.symm
  obtain ⟨hcd, hpt, hod, hex, hmfe, hafe⟩ := id hG
  subst hpt
  subst hod
  subst hex
  have hT := hG.tab
  have hn := hI.2.2.2.2.1
  have hfo := hI.2.2.2.2.2.2
  have hsm := g_small cd hcd
  have hf : ∀ j, j < n → f j < 24 := fun j hj => Nat.lt_of_lt_of_le (hfo j hj) hsm.2.1
  have hJ := jpl_cd hG
  have hO := jop_cd hG
  have hinv : ∀ a, a < god cd → ∀ c, c < god cd → jpl (god cd) mf (jpl (god cd) mf c a) (jop (god cd) af a) = c := fun a ha c hc => by rw [hJ, hO]; exact gP_can hcd ha hc
  have hcs0 : cs ≤ 601024 := by omega
  have hsl0 : sl ≤ 7293034 := by omega
  dsimp only [lW]
  cases hc : jhas a1 (3) with
  | false =>
    refine J.aload_n g dL_law_649 rfl rfl ?_
    refine J.aload_n g dL_law_650 rfl rfl ?_
    refine J.iload g dL_law_651 rfl ?_
    refine J.iconstN g 1 dL_law_653 ?_
    refine J.iaddN g dL_law_654 ?_
    refine J.sld g hX (k := i + 1) (by omega) (by omega) h1 dL_law_655 ?_
    refine J.callV0 g (c_X10_free_no l γ _ _ _ _ _ _ _ _ _ _ _ _ _ _ _ hc) jy_X10_free lm_L_84 (q0 := 0) rfl jX10.1 ⟨⟨Nat.le_of_ble_eq_true rfl, Nat.le_of_ble_eq_true rfl⟩, hcs0, hsl0⟩ (Nat.le_of_ble_eq_true rfl) rfl [0] rfl rfl dL_law_656 ?_
    intro _ _
    dsimp only [jpush]
    refine J.aload_n g dL_law_659 rfl rfl ?_
    refine J.aload_n g dL_law_660 rfl rfl ?_
    refine J.iload g dL_law_661 rfl ?_
    refine J.iconstN g 1 dL_law_663 ?_
    refine J.iaddN g dL_law_664 ?_
    refine J.sld g hX (k := i + 1) (by omega) (by omega) h1 dL_law_665 ?_
    refine J.callV g (c_X11_free l γ _ _ _ _ _ _ _ _ _ _ _ _ _ _ _ _ _ _ _ _ _ _ _ _ _ _ _ _ _ _ _ _ _ _ _ _ _ _ _ _ _ _ _ hI) jy_X11_free lm_L_87 (q0 := 86) rfl jX11.1 ⟨⟨Nat.le_of_ble_eq_true rfl, Nat.le_of_ble_eq_true rfl⟩, hcs0, hsl0⟩ (Nat.le_of_ble_eq_true rfl) rfl [86, 88, 95, 96] rfl (fun _ => rfl) rfl dL_law_666 ?_
    intro u_666 h_666
    dsimp only [jput, List.set_cons_zero, List.set_cons_succ, Option.toList, List.append, List.cons_append, List.nil_append, List.append_nil]
    refine J.icmp_eq g dL_law_669 (tgt := 1075) (by decide) (fun c_669 => ?_) (fun c_669 => (c_669 ((jsel_f hc).symm)).elim)
    exact J.widen (Nat.le_add_right cs 1) (Nat.le_add_right sl 6) (K (hR))
  | true =>
    obtain ⟨k, hk, rfl⟩ := jhas_t hc
    refine J.aload_n g dL_law_649 rfl rfl ?_
    refine J.aload_n g dL_law_650 rfl rfl ?_
    refine J.iload g dL_law_651 rfl ?_
    refine J.iconstN g 1 dL_law_653 ?_
    refine J.iaddN g dL_law_654 ?_
    refine J.sld g hX (k := i + 1) (by omega) (by omega) h1 dL_law_655 ?_
    refine J.callV g (c_X10_free_yes l γ _ _ _ _ _ _ _ _ _ _ _ _ _ _ _ _ _ _ _ _ _ _ _ _ _ _ _ _ (fun i => ca (42 + i)) M _ hn hT hf hk) jy_X10_free lm_L_84 (q0 := 0) rfl jX10.1 ⟨⟨Nat.le_of_ble_eq_true rfl, Nat.le_of_ble_eq_true rfl⟩, hcs0, hsl0⟩ (Nat.le_of_ble_eq_true rfl) rfl [0, 40, 41, 9, 10, 6, 7, 8, 42, 43, 44, 45, 46, 47, 48, 49, 50, 51, 52, 53, 54] rfl (fun _ => rfl) rfl dL_law_656 ?_
    intro u_656 h_656
    dsimp only [jrows13, jput, List.set_cons_zero, List.set_cons_succ, Option.toList, List.append, List.cons_append, List.nil_append, List.append_nil]
    refine J.aload_n g dL_law_659 rfl rfl ?_
    refine J.aload_n g dL_law_660 rfl rfl ?_
    refine J.iload g dL_law_661 rfl ?_
    refine J.iconstN g 1 dL_law_663 ?_
    refine J.iaddN g dL_law_664 ?_
    refine J.sld g hX (k := i + 1) (by omega) (by omega) h1 dL_law_665 ?_
    refine J.callV g (c_X11_free l γ _ _ _ _ _ _ _ _ _ _ _ _ _ _ _ _ _ _ _ _ _ _ _ _ _ _ _ _ _ _ _ _ _ _ _ _ _ _ _ _ _ _ _ hI) jy_X11_free lm_L_87 (q0 := 86) rfl jX11.1 ⟨⟨Nat.le_of_ble_eq_true rfl, Nat.le_of_ble_eq_true rfl⟩, hcs0, hsl0⟩ (Nat.le_of_ble_eq_true rfl) rfl [86, 88, 95, 96] rfl (fun _ => rfl) rfl dL_law_666 ?_
    intro u_666 h_666
    dsimp only [jput, List.set_cons_zero, List.set_cons_succ, Option.toList, List.append, List.cons_append, List.nil_append, List.append_nil]
    refine J.icmp_eq g dL_law_669 (tgt := 1075) (by decide) (fun c_669 => ?_) (fun c_669 => (c_669 (by rw [jfree_t' hJ hO, jsel_t (N := 3) rfl hk (by decide)]; rcases (show k = 0 ∨ k = 1 ∨ k = 2 by omega) with rfl | rfl | rfl; exact free_0 hcd hn hfo; exact free_1 hcd hn hfo; exact congrArg nI (free_2 hcd hn hfo))).elim)
    exact J.widen (Nat.le_add_right cs 1) (Nat.le_add_right sl 6) (K (hR))
