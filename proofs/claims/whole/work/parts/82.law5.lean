theorem jy5_L_sum : yL_sum.cls ≠ "java/lang/invoke/MethodHandle" ∧ yL_sum.cls ≠ "java/lang/invoke/VarHandle" ∧ (parseMethodDescriptor yL_sum.desc).map (fun d => d.parameters.length) = some 3 := by decide +kernel
set_option maxHeartbeats 8000000 in
set_option maxRecDepth 100000 in
theorem lc_sum {l : Launch} (hfl : l.stackTraces = false) {γ : jγ} {x : jE} {ca ma : Nat → Nat} {oa b L i cs sl : Nat} {xs : Nat → Int32} {a1 : Int32} (g : jG γ x ({ frames := 2048, cells := 601024, slots := 7293034, locals := 84000 } : Room) code RL (some .boolean)) (hz : jZ (jA x) (jS x) (jS x).heap) (hX : jScr x b L xs) (hL : L ≤ 3072) (hi : i + 6 ≤ L) (hcs : cs + 1 ≤ 601024) (hsl : sl + 6 ≤ 7293034) (h1 : xs (i + 1) = a1) {dsd : Int32} {tl : Nat} {tf : Nat → Int32} {q : jRS} {cd pt od ex : Nat} {mf af : Nat → Nat} {n : Nat} {f : Nat → Nat} {trn : Nat} {trf : Nat → Nat} {oon : Nat} {oof : Nat → Nat} {nx pl : Nat} {ln : Nat → Nat} {rf : Nat → Nat → Nat} {ic il : Nat → Nat} {ik : Nat → Bool} {iff : Nat → Nat → Nat} {pn : Nat} {M W : Nat → Nat → Nat} {s0 s1 s2 s3 : Nat → Nat} {sgc wh : Nat} {m0 m1 m2 : Nat → Nat} {rn : Nat} {rfp : Nat → Nat} {sg : Nat} {C : Nat → Nat} {gl : Nat} {gf : Nat → Nat} {fl : Nat} {ff : Nat → Nat} {mth mfw mse : Int32} {mwd : Int64} {mtd msz mto mfr mso mnu mfa mpl mro msm mln : Nat} {t w r9 KF SS bf lv9 : Nat → Nat} {mik : Nat → Bool} {su : Nat → Nat} {be : Nat → Bool} {fe my : Nat → Int32} {O9 : Nat → Nat} {S9 : Nat → Bool} {LF TF C9 rn9 rb TB : Nat → Nat} {o9 : Nat → Int64} (hR : lR tl tf q cd pt od ex mf af n f nx pl ln rf ic il ik iff sgc wh m0 m1 m2 rn rfp sg C fl ff mfw mtd mfa msm t w KF SS mik)
    (K : ∀ {dsd : Int32} {tl : Nat} {tf : Nat → Int32} {q : jRS} {cd pt od ex : Nat} {mf af : Nat → Nat} {n : Nat} {f : Nat → Nat} {trn : Nat} {trf : Nat → Nat} {oon : Nat} {oof : Nat → Nat} {nx pl : Nat} {ln : Nat → Nat} {rf : Nat → Nat → Nat} {ic il : Nat → Nat} {ik : Nat → Bool} {iff : Nat → Nat → Nat} {pn : Nat} {M W : Nat → Nat → Nat} {s0 s1 s2 s3 : Nat → Nat} {sgc wh : Nat} {m0 m1 m2 : Nat → Nat} {rn : Nat} {rfp : Nat → Nat} {sg : Nat} {C : Nat → Nat} {gl : Nat} {gf : Nat → Nat} {fl : Nat} {ff : Nat → Nat} {mth mfw mse : Int32} {mwd : Int64} {mtd msz mto mfr mso mnu mfa mpl mro msm mln : Nat} {t w r9 KF SS bf lv9 : Nat → Nat} {mik : Nat → Bool} {su : Nat → Nat} {be : Nat → Bool} {fe my : Nat → Int32} {O9 : Nat → Nat} {S9 : Nat → Bool} {LF TF C9 rn9 rb TB : Nat → Nat} {o9 : Nat → Int64}, lR tl tf q cd pt od ex mf af n f nx pl ln rf ic il ik iff sgc wh m0 m1 m2 rn rfp sg C fl ff mfw mtd mfa msm t w KF SS mik → J γ l x (lW γ ca ma oa dsd tl tf q cd pt od ex mf af n f trn trf oon oof nx pl ln rf ic il ik iff pn M W s0 s1 s2 s3 sgc wh m0 m1 m2 rn rfp sg C gl gf fl ff mth mfw mse mwd mtd msz mto mfr mso mnu mfa mpl mro msm mln t w r9 KF SS bf lv9 mik su be fe my O9 S9 LF TF C9 rn9 rb TB o9) [some (.ref b), some (.ref (ca 0)), some (.ref (ma 0)), some (.ref oa), some (.int (nI i)), none, none] [] (cs + 1) (sl + 6) 1075) : J γ l x (lW γ ca ma oa dsd tl tf q cd pt od ex mf af n f trn trf oon oof nx pl ln rf ic il ik iff pn M W s0 s1 s2 s3 sgc wh m0 m1 m2 rn rfp sg C gl gf fl ff mth mfw mse mwd mtd msz mto mfr mso mnu mfa mpl mro msm mln t w r9 KF SS bf lv9 mik su be fe my O9 S9 LF TF C9 rn9 rb TB o9) [some (.ref b), some (.ref (ca 0)), some (.ref (ma 0)), some (.ref oa), some (.int (nI i)), none, none] [] cs sl 432 := by
  obtain ⟨⟨htl, ht, hmtd⟩, ⟨hq, hmfa, hmfw⟩, hG, hI, ⟨hnx, hpl, hln, hpR, hmsm⟩, ⟨hmik, him⟩, ⟨hsgc, hPB, hPf, hPV⟩, hsg, hMV⟩ := id hR
  subst ht
  obtain rfl : tl = mtd := hmtd.symm
  subst hmfa
  subst hmfw
  obtain rfl : pl = msm := hmsm.symm
  obtain rfl : ik = mik := hmik.symm
  obtain ⟨hcd, hpt, hod, hex, hmfe, hafe⟩ := id hG
  subst hpt
  subst hod
  subst hex
  have hT := hG.tab
  have hn := hI.2.2.2.2.1
  have hfo := hI.2.2.2.2.2.2
  have hsm := g_small cd hcd
  have hf : ∀ j, j < n → f j < 24 := fun j hj => Nat.lt_of_lt_of_le (hfo j hj) hsm.2.1
  have hJ := jpl_cd hG
  have hO := jop_cd hG
  have hinv : ∀ a, a < god cd → ∀ c, c < god cd → jpl (god cd) mf (jpl (god cd) mf c a) (jop (god cd) af a) = c := fun a ha c hc => by rw [hJ, hO]; exact gP_can hcd ha hc
  have hcs0 : cs ≤ 601024 := by omega
  have hsl0 : sl ≤ 7293034 := by omega
  have hp12 : 2 ^ n ≤ 2 ^ 12 := Nat.pow_le_pow_right (by omega) hn
  dsimp only [lW]
  cases hc : mIn a1 (nI 1) (nI (2 ^ n - 1)) with
  | false =>
    refine J.aload_n g dL_law_432 rfl rfl ?_
    refine J.aload_n g dL_law_433 rfl rfl ?_
    refine J.iload g dL_law_434 rfl ?_
    refine J.iconstN g 1 dL_law_436 ?_
    refine J.iaddN g dL_law_437 ?_
    refine J.sld g hX (k := i + 1) (by omega) (by omega) h1 dL_law_438 ?_
    refine J.aload_n g dL_law_439 rfl rfl ?_
    refine J.callZ g hz (cz_L_sum_no l hfl γ _ _ _ _ _ _ _ _ _ _ _ _ _ _ _ _ _ _ _ _ _ _ _ _ _ _ _ _ hn hc) jyl_L_sum jys_L_sum jit_L jyw_L_sum jy5_L_sum ⟨⟨Nat.le_of_ble_eq_true rfl, Nat.le_of_ble_eq_true rfl⟩, hcs, hsl⟩ (Nat.le_of_ble_eq_true rfl) rfl [0, 9, 10, 6, 7, 8, 107] rfl (fun _ => rfl) rfl dL_law_440 ?_
    intro _ _
    dsimp only [jput, List.set_cons_zero, List.set_cons_succ, Option.toList, List.append, List.cons_append, List.nil_append, List.append_nil]
    refine J.istore g dL_law_443 rfl rfl ?_
    try dsimp only [List.set_cons_zero, List.set_cons_succ]
    refine J.aload_n g dL_law_445 rfl rfl ?_
    refine J.aload_n g dL_law_446 rfl rfl ?_
    refine J.iload g dL_law_447 rfl ?_
    refine J.iconstN g 1 dL_law_449 ?_
    refine J.iaddN g dL_law_450 ?_
    refine J.sld g hX (k := i + 1) (by omega) (by omega) h1 dL_law_451 ?_
    refine J.callV g (c_X11_sum_no l γ _ _ _ _ _ _ _ _ _ _ _ _ _ _ _ _ _ _ _ _ _ _ _ _ _ _ _ _ _ _ _ _ _ _ _ _ _ _ _ _ _ hI hc) jy_X11_sum lm_L_60 (q0 := 86) rfl jX11.1 ⟨⟨Nat.le_of_ble_eq_true rfl, Nat.le_of_ble_eq_true rfl⟩, hcs, hsl⟩ (Nat.le_of_ble_eq_true rfl) rfl [86, 88] rfl (fun _ => rfl) rfl dL_law_452 ?_
    intro _ _
    dsimp only [jput, List.set_cons_zero, List.set_cons_succ, Option.toList, List.append, List.cons_append, List.nil_append, List.append_nil]
    refine J.istore g dL_law_455 rfl rfl ?_
    try dsimp only [List.set_cons_zero, List.set_cons_succ]
    refine J.aload_n g dL_law_457 rfl rfl ?_
    refine J.callV0 g (c_X11_thrown l γ _ _ _ _ _ _ _ _ _ _ _ _ _ _ _ _ _ _ _ _ _ _ _ _ _ _ _ _ _ _ _ _ _ _ _ _) jy_X11_thrown lm_L_61 (q0 := 86) rfl jX11.1 ⟨⟨Nat.le_of_ble_eq_true rfl, Nat.le_of_ble_eq_true rfl⟩, hcs, hsl⟩ (Nat.le_of_ble_eq_true rfl) rfl [86] rfl rfl dL_law_458 ?_
    intro _ _
    dsimp only [jpush]
    refine J.iload g dL_law_461 rfl ?_
    refine J.icmp_eq g dL_law_463 (tgt := 468) (by decide) (fun c_463 => ?_) (fun c_463 => (c_463 (rfl)).elim)
    refine J.iload g dL_law_468 rfl ?_
    refine J.if_neN g dL_law_470 (tgt := 485) (by decide) (by omega) (fun c_470 => ?_) (fun c_470 => absurd c_470 (by omega))
    refine J.goto g dL_law_485 (tgt := 1075) (by decide) ?_
    exact J.lvle (jle_s (jle_s (jle_s (jle_s (jle_s (jle_n (jle_n jle_0))))))) (K hR)
  | true =>
    obtain ⟨k, hk1, hk2, rfl⟩ := mIn_k9 (by omega) (by omega) hc
    have hcmp : lg_cmp (vp_updL o9 0 (nI (jsum (god cd) mf f k n)).toInt64 0) (nI (gS cd f n k)).toInt64 = 0 := by
      have h9 : jsum (god cd) mf f k n = gS cd f n k := jsum_pl hJ n
      rw [show vp_updL o9 0 (nI (jsum (god cd) mf f k n)).toInt64 0 = (nI (jsum (god cd) mf f k n)).toInt64 from if_pos rfl, h9]
      unfold lg_cmp; rw [if_neg Int64.lt_irrefl, if_pos rfl]
    refine J.aload_n g dL_law_432 rfl rfl ?_
    refine J.aload_n g dL_law_433 rfl rfl ?_
    refine J.iload g dL_law_434 rfl ?_
    refine J.iconstN g 1 dL_law_436 ?_
    refine J.iaddN g dL_law_437 ?_
    refine J.sld g hX (k := i + 1) (by omega) (by omega) h1 dL_law_438 ?_
    refine J.aload_n g dL_law_439 rfl rfl ?_
    refine J.callZ g hz (cz_L_sum_yes l γ _ _ _ _ _ _ _ _ _ _ _ _ _ _ _ _ _ _ _ _ _ _ _ _ _ _ _ _ hn hT hf ⟨hk1, hk2⟩) jyl_L_sum jys_L_sum jit_L jyw_L_sum jy5_L_sum ⟨⟨Nat.le_of_ble_eq_true rfl, Nat.le_of_ble_eq_true rfl⟩, hcs, hsl⟩ (Nat.le_of_ble_eq_true rfl) rfl [0, 9, 10, 6, 7, 8, 107] rfl (fun _ => rfl) rfl dL_law_440 ?_
    intro _ _
    dsimp only [jput, List.set_cons_zero, List.set_cons_succ, Option.toList, List.append, List.cons_append, List.nil_append, List.append_nil]
    refine J.istore g dL_law_443 rfl rfl ?_
    try dsimp only [List.set_cons_zero, List.set_cons_succ]
    refine J.aload_n g dL_law_445 rfl rfl ?_
    refine J.aload_n g dL_law_446 rfl rfl ?_
    refine J.iload g dL_law_447 rfl ?_
    refine J.iconstN g 1 dL_law_449 ?_
    refine J.iaddN g dL_law_450 ?_
    refine J.sld g hX (k := i + 1) (by omega) (by omega) h1 dL_law_451 ?_
    refine J.callV g (c_X11_sum_yes l γ _ _ _ _ _ _ _ _ _ _ _ _ _ _ _ _ _ _ _ _ _ _ _ _ _ _ _ _ _ _ _ _ _ _ _ _ _ _ _ _ _ _ hI ⟨hk1, hk2⟩) jy_X11_sum lm_L_60 (q0 := 86) rfl jX11.1 ⟨⟨Nat.le_of_ble_eq_true rfl, Nat.le_of_ble_eq_true rfl⟩, hcs, hsl⟩ (Nat.le_of_ble_eq_true rfl) rfl [86, 88, 95] rfl (fun _ => rfl) rfl dL_law_452 ?_
    intro u_452 h_452
    dsimp only [jput, List.set_cons_zero, List.set_cons_succ, Option.toList, List.append, List.cons_append, List.nil_append, List.append_nil]
    refine J.istore g dL_law_455 rfl rfl ?_
    try dsimp only [List.set_cons_zero, List.set_cons_succ]
    refine J.aload_n g dL_law_457 rfl rfl ?_
    refine J.callV0 g (c_X11_thrown l γ _ _ _ _ _ _ _ _ _ _ _ _ _ _ _ _ _ _ _ _ _ _ _ _ _ _ _ _ _ _ _ _ _ _ _ _) jy_X11_thrown lm_L_61 (q0 := 86) rfl jX11.1 ⟨⟨Nat.le_of_ble_eq_true rfl, Nat.le_of_ble_eq_true rfl⟩, hcs, hsl⟩ (Nat.le_of_ble_eq_true rfl) rfl [86] rfl rfl dL_law_458 ?_
    intro _ _
    dsimp only [jpush]
    refine J.iload g dL_law_461 rfl ?_
    refine J.icmp_eq g dL_law_463 (tgt := 468) (by decide) (fun c_463 => ?_) (fun c_463 => (c_463 (rfl)).elim)
    refine J.iload g dL_law_468 rfl ?_
    refine J.if_neN g dL_law_470 (tgt := 485) (by decide) (by omega) (fun c_470 => absurd c_470 (by omega)) (fun c_470 => ?_)
    refine J.aload_n g dL_law_473 rfl rfl ?_
    refine J.iconstN g 0 dL_law_474 ?_
    refine J.lald g 107 (k := 0) rfl (by decide) (by decide) rfl dL_law_475 ?_
    refine J.iload g dL_law_476 rfl ?_
    refine J.i2l g dL_law_478 rfl ?_
    refine J.lcmp g dL_law_479 ?_
    refine J.if_eq g dL_law_480 (tgt := 485) (by decide) (fun c_480 => ?_) (fun c_480 => (c_480 (hcmp)).elim)
    refine J.goto g dL_law_485 (tgt := 1075) (by decide) ?_
    exact J.lvle (jle_s (jle_s (jle_s (jle_s (jle_s (jle_n (jle_n jle_0))))))) (K hR)
