theorem jw_cmp {i L : Nat} (hL : L ≤ 3072) (hi : i ≤ L) : (nI L - nI 6 < nI i) ↔ L < i + 6 := by
  rw [Int32.lt_iff_toInt_lt, Int32.toInt_sub, nI_toInt (by omega), nI_toInt (by omega), nI_toInt (by omega), Int.bmod_eq_of_le (by omega) (by omega)]
  omega
set_option maxHeartbeats 8000000 in
set_option maxRecDepth 100000 in
/-- the law's loop: class and model go on together -/
theorem lc_loop {l : Launch} (hfl : l.stackTraces = false) {γ : jγ} {x : jE} {ca ma : Nat → Nat} {oa b L : Nat} {xs : Nat → Int32} (g : jG γ x ({ frames := 2048, cells := 601024, slots := 7293034, locals := 84000 } : Room) code RL (some .boolean)) (hz : jZ (jA x) (jS x) (jS x).heap) (hX : jScr x b L xs) (hL : L ≤ 3072)
    (hEnd : ∀ (ws : va_W) (lv : List (Option Value)) (cs sl : Nat), cs ≤ 601024 → sl ≤ 7293034 → J γ l x ws lv [] cs sl 1081) :
    ∀ (N : Nat) {dsd : Int32} {tl : Nat} {tf : Nat → Int32} {q : jRS} {cd pt od ex : Nat} {mf af : Nat → Nat} {n : Nat} {f : Nat → Nat} {trn : Nat} {trf : Nat → Nat} {oon : Nat} {oof : Nat → Nat} {nx pl : Nat} {ln : Nat → Nat} {rf : Nat → Nat → Nat} {ic il : Nat → Nat} {ik : Nat → Bool} {iff : Nat → Nat → Nat} {pn : Nat} {M W : Nat → Nat → Nat} {s0 s1 s2 s3 : Nat → Nat} {sgc wh : Nat} {m0 m1 m2 : Nat → Nat} {rn : Nat} {rfp : Nat → Nat} {sg : Nat} {C : Nat → Nat} {gl : Nat} {gf : Nat → Nat} {fl : Nat} {ff : Nat → Nat} {mth mfw mse : Int32} {mwd : Int64} {mtd msz mto mfr mso mnu mfa mpl mro msm mln : Nat} {t w r9 KF SS bf lv9 : Nat → Nat} {mik : Nat → Bool} {su : Nat → Nat} {be : Nat → Bool} {fe my : Nat → Int32} {O9 : Nat → Nat} {S9 : Nat → Bool} {LF TF C9 rn9 rb TB : Nat → Nat} {o9 : Nat → Int64} (i cs sl : Nat), L - i < N → i ≤ L → cs + (L - i) ≤ 601024 → sl + (L - i) ≤ 7293034 → lR tl tf q cd pt od ex mf af n f nx pl ln rf ic il ik iff sgc wh m0 m1 m2 rn rfp sg C fl ff mfw mtd mfa msm t w KF SS mik → J γ l x (lW γ ca ma oa dsd tl tf q cd pt od ex mf af n f trn trf oon oof nx pl ln rf ic il ik iff pn M W s0 s1 s2 s3 sgc wh m0 m1 m2 rn rfp sg C gl gf fl ff mth mfw mse mwd mtd msz mto mfr mso mnu mfa mpl mro msm mln t w r9 KF SS bf lv9 mik su be fe my O9 S9 LF TF C9 rn9 rb TB o9) [some (.ref b), some (.ref (ca 0)), some (.ref (ma 0)), some (.ref oa), some (.int (nI i)), none, none] [] cs sl 23 := by
  intro N
  induction N with
  | zero => intros; omega
  | succ N ih =>
    intro dsd tl tf q cd pt od ex mf af n f trn trf oon oof nx pl ln rf ic il ik iff pn M W s0 s1 s2 s3 sgc wh m0 m1 m2 rn rfp sg C gl gf fl ff mth mfw mse mwd mtd msz mto mfr mso mnu mfa mpl mro msm mln t w r9 KF SS bf lv9 mik su be fe my O9 S9 LF TF C9 rn9 rb TB o9 i cs sl hN hiL hcs hsl hR
    refine J.iload g dL_law_23 rfl ?_
    refine J.aload_n g dL_law_25 rfl rfl ?_
    refine J.slen g hX dL_law_26 ?_
    refine J.bipush (v := nI 6) g dL_law_27 (by decide +kernel) ?_
    refine J.isub g dL_law_29 ?_
    refine J.icmp_gt g dL_law_30 (tgt := 1081) (by decide) (fun _ => hEnd _ _ _ _ (by omega) (by omega)) (fun c_30 => ?_)
    have hi6 : i + 6 ≤ L := by
      have := mt (jw_cmp hL hiL).mpr c_30
      omega
    have K : ∀ {dsd : Int32} {tl : Nat} {tf : Nat → Int32} {q : jRS} {cd pt od ex : Nat} {mf af : Nat → Nat} {n : Nat} {f : Nat → Nat} {trn : Nat} {trf : Nat → Nat} {oon : Nat} {oof : Nat → Nat} {nx pl : Nat} {ln : Nat → Nat} {rf : Nat → Nat → Nat} {ic il : Nat → Nat} {ik : Nat → Bool} {iff : Nat → Nat → Nat} {pn : Nat} {M W : Nat → Nat → Nat} {s0 s1 s2 s3 : Nat → Nat} {sgc wh : Nat} {m0 m1 m2 : Nat → Nat} {rn : Nat} {rfp : Nat → Nat} {sg : Nat} {C : Nat → Nat} {gl : Nat} {gf : Nat → Nat} {fl : Nat} {ff : Nat → Nat} {mth mfw mse : Int32} {mwd : Int64} {mtd msz mto mfr mso mnu mfa mpl mro msm mln : Nat} {t w r9 KF SS bf lv9 : Nat → Nat} {mik : Nat → Bool} {su : Nat → Nat} {be : Nat → Bool} {fe my : Nat → Int32} {O9 : Nat → Nat} {S9 : Nat → Bool} {LF TF C9 rn9 rb TB : Nat → Nat} {o9 : Nat → Int64}, lR tl tf q cd pt od ex mf af n f nx pl ln rf ic il ik iff sgc wh m0 m1 m2 rn rfp sg C fl ff mfw mtd mfa msm t w KF SS mik → J γ l x (lW γ ca ma oa dsd tl tf q cd pt od ex mf af n f trn trf oon oof nx pl ln rf ic il ik iff pn M W s0 s1 s2 s3 sgc wh m0 m1 m2 rn rfp sg C gl gf fl ff mth mfw mse mwd mtd msz mto mfr mso mnu mfa mpl mro msm mln t w r9 KF SS bf lv9 mik su be fe my O9 S9 LF TF C9 rn9 rb TB o9) [some (.ref b), some (.ref (ca 0)), some (.ref (ma 0)), some (.ref oa), some (.int (nI i)), none, none] [] (cs + 1) (sl + 6) 1075 := by
      intro dsd tl tf q cd pt od ex mf af n f trn trf oon oof nx pl ln rf ic il ik iff pn M W s0 s1 s2 s3 sgc wh m0 m1 m2 rn rfp sg C gl gf fl ff mth mfw mse mwd mtd msz mto mfr mso mnu mfa mpl mro msm mln t w r9 KF SS bf lv9 mik su be fe my O9 S9 LF TF C9 rn9 rb TB o9 hR2
      refine J.iincN g 6 dL_law_1075 rfl rfl ?_
      try dsimp only [List.set_cons_zero, List.set_cons_succ]
      refine J.goto g dL_law_1078 (tgt := 23) (by decide) ?_
      exact ih (i + 6) (cs + 1) (sl + 6) (by omega) (by omega) (by omega) (by omega) hR2
    refine J.aload_n g dL_law_33 rfl rfl ?_
    refine J.iload g dL_law_34 rfl ?_
    refine J.sld g hX (k := i) (by omega) (by omega) rfl dL_law_36 ?_
    refine J.bipush (v := nI 31) g dL_law_37 (by decide +kernel) ?_
    refine J.iand g dL_law_39 ?_
    refine J.ts g (N := 32) (dt := 1075) [184, 257, 282, 295, 320, 345, 370, 395, 432, 488, 501, 538, 575, 612, 649, 674, 699, 724, 749, 786, 811, 836, 849, 874, 887, 912, 937, 962, 975, 1012, 1025, 1050] dL_law_40 rfl (by decide) (by decide +kernel) (by decide) (fun k hk _ => ?_) (fun _ => J.widen (Nat.le_add_right cs 1) (Nat.le_add_right sl 6) (K hR))
    rcases (show k = 0 ∨ k = 1 ∨ k = 2 ∨ k = 3 ∨ k = 4 ∨ k = 5 ∨ k = 6 ∨ k = 7 ∨ k = 8 ∨ k = 9 ∨ k = 10 ∨ k = 11 ∨ k = 12 ∨ k = 13 ∨ k = 14 ∨ k = 15 ∨ k = 16 ∨ k = 17 ∨ k = 18 ∨ k = 19 ∨ k = 20 ∨ k = 21 ∨ k = 22 ∨ k = 23 ∨ k = 24 ∨ k = 25 ∨ k = 26 ∨ k = 27 ∨ k = 28 ∨ k = 29 ∨ k = 30 ∨ k = 31 by omega) with rfl | rfl | rfl | rfl | rfl | rfl | rfl | rfl | rfl | rfl | rfl | rfl | rfl | rfl | rfl | rfl | rfl | rfl | rfl | rfl | rfl | rfl | rfl | rfl | rfl | rfl | rfl | rfl | rfl | rfl | rfl | rfl
    · exact lc_feed g hX hL hi6 (by omega) (by omega) rfl rfl rfl rfl rfl hR K
    · exact lc_end g hX hL hi6 (by omega) (by omega) rfl hR K
    · exact lc_text g hX hL hi6 (by omega) (by omega)  hR K
    · exact lc_fault g hX hL hi6 (by omega) (by omega) rfl hR K
    · exact lc_now g hX hL hi6 (by omega) (by omega) rfl hR K
    · exact lc_part g hX hL hi6 (by omega) (by omega) rfl hR K
    · exact lc_at g hX hL hi6 (by omega) (by omega) rfl hR K
    · exact lc_add g hX hL hi6 (by omega) (by omega) rfl rfl hR K
    · exact lc_sum hfl g hz hX hL hi6 (by omega) (by omega) rfl hR K
    · exact lc_sums g hX hL hi6 (by omega) (by omega)  hR K
    · exact lc_found g hX hL hi6 (by omega) (by omega) rfl rfl hR K
    · exact lc_ways g hX hL hi6 (by omega) (by omega) rfl rfl hR K
    · exact lc_exactly g hX hL hi6 (by omega) (by omega) rfl rfl hR K
    · exact lc_run g hX hL hi6 (by omega) (by omega) rfl rfl hR K
    · exact lc_free g hX hL hi6 (by omega) (by omega) rfl hR K
    · exact lc_atoms g hX hL hi6 (by omega) (by omega) rfl hR K
    · exact lc_atom g hX hL hi6 (by omega) (by omega) rfl hR K
    · exact lc_signed g hX hL hi6 (by omega) (by omega) rfl hR K
    · exact lc_sign g hX hL hi6 (by omega) (by omega) rfl rfl hR K
    · exact lc_like g hX hL hi6 (by omega) (by omega) rfl hR K
    · exact lc_frees g hX hL hi6 (by omega) (by omega) rfl hR K
    · exact lc_longest g hX hL hi6 (by omega) (by omega)  hR K
    · exact lc_longestAt g hX hL hi6 (by omega) (by omega) rfl hR K
    · exact lc_enough g hX hL hi6 (by omega) (by omega)  hR K
    · exact lc_come g hX hL hi6 (by omega) (by omega) rfl hR K
    · exact lc_go g hX hL hi6 (by omega) (by omega) rfl hR K
    · exact lc_times g hX hL hi6 (by omega) (by omega) rfl hR K
    · exact lc_sort g hX hL hi6 (by omega) (by omega)  hR K
    · exact lc_drawn g hX hL hi6 (by omega) (by omega) rfl rfl hR K
    · exact lc_undo g hX hL hi6 (by omega) (by omega)  hR K
    · exact lc_image g hX hL hi6 (by omega) (by omega) rfl hR K
    · exact lc_restore g hX hL hi6 (by omega) (by omega) rfl hR K
