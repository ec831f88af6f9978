set_option maxHeartbeats 4000000 in
set_option maxRecDepth 100000 in
theorem c_X5_readPutRow (l : Launch) (γ : jγ) (rd tp tb tl rr rre : Nat) (tf : Nat → Int32) (q : jRS) (hl : tl ≤ 340) (hq : jRB q) : jM (S := jRS) l γ yX5_readPutRow cX5_readPutRow 6 (some .boolean) ({ frames := 7, cells := 0, slots := 0, locals := 155 } : Room) [.ref rd] [(rd, .inr (5, [.ref tp, .int (nI q.1.1), .int (nI q.1.2.1), .int (nI q.1.2.2.1), .int (nI q.1.2.2.2), .int (nI q.2.1.1), .int (nI q.2.1.2), .int (nI q.2.2.1.1), .int (nI q.2.2.1.2.1), .int q.2.2.1.2.2, .ref rr])), (tp, .inr (9, [.ref tb, .int (nI tl)])), (tb, .inl (γ.2 1, 340, .inl tf)), (rr, .inr (6, [.ref rre, .int (nI q.2.2.2.1)])), (rre, .inl (γ.2 0, 12, .inl (fun j => nI ((q.2.2.2.2) j))))] (fun u => some (.int (jB ((jrPut (jbs tf) tl q).1)))) (fun u => [(rd, .inr (5, [.ref tp, .int (nI u.1.1), .int (nI u.1.2.1), .int (nI u.1.2.2.1), .int (nI u.1.2.2.2), .int (nI u.2.1.1), .int (nI u.2.1.2), .int (nI u.2.2.1.1), .int (nI u.2.2.1.2.1), .int u.2.2.1.2.2, .ref rr])), (tp, .inr (9, [.ref tb, .int (nI tl)])), (tb, .inl (γ.2 1, 340, .inl tf)), (rr, .inr (6, [.ref rre, .int (nI u.2.2.2.1)])), (rre, .inl (γ.2 0, 12, .inl (fun j => nI ((u.2.2.2.2) j))))]) (fun u => u = (jrPut (jbs tf) tl q).2) := by
  refine jM.of [some (.ref rd), none, none, none, none, none] rfl (Nat.le_of_ble_eq_true rfl) (by decide) ?_
  intro x g hE hin
  have hb1 := hq.1.2.1
  refine J.aload_n g dX5_readPutRow_0 rfl rfl ?_
  refine J.get g jX5 2 (by decide) lf_X5_22 0 rfl rfl dX5_readPutRow_1 ?_
  refine J.iconstN g 5 dX5_readPutRow_4 ?_
  refine J.icmp_eqN g dX5_readPutRow_5 (tgt := 14) (by decide) (by omega) (by omega) (fun c_5 => ?_) (fun c_5 => ?_)
  · refine J.aload_n g dX5_readPutRow_14 rfl rfl ?_
    refine J.get g jX5 3 (by decide) lf_X5_25 0 rfl rfl dX5_readPutRow_15 ?_
    refine J.istore_n g dX5_readPutRow_18 rfl rfl rfl ?_
    try dsimp only [List.set_cons_zero, List.set_cons_succ]
    refine J.aload_n g dX5_readPutRow_19 rfl rfl ?_
    refine J.callV g (c_X5_readToken l γ _ _ _ _ _ _ _ q hl hq) jy_X5_readToken lm_X5_56 (q0 := 0) rfl jX5.1 ⟨⟨Nat.le_of_ble_eq_true rfl, Nat.le_of_ble_eq_true rfl⟩, Nat.le_of_ble_eq_true rfl, Nat.le_of_ble_eq_true rfl⟩ (Nat.le_of_ble_eq_true rfl) rfl [0, 1, 2, 3, 4] rfl (fun _ => rfl) rfl dX5_readPutRow_20 ?_
    intro u_20 h_20
    dsimp only [jput, List.set_cons_zero, List.set_cons_succ, Option.toList, List.append, List.cons_append, List.nil_append, List.append_nil]
    have hq1 : jRB u_20 := by rw [h_20]; exact hq.tok hl
    have hP0 : jrPut (jbs tf) tl q = jrPut1 (jbs tf) tl q.1.2.2.1 (jrElt (jbs tf) tl 3 0 0 u_20) := by rw [h_20, jrPut, if_neg (fun z => z c_5)]
    refine J.aload_n g dX5_readPutRow_23 rfl rfl ?_
    refine J.callV g (c_X5_readElement l γ _ _ _ _ _ _ _ u_20 hl hq1) jy_X5_readElement lm_X5_79 (q0 := 0) rfl jX5.1 ⟨⟨Nat.le_of_ble_eq_true rfl, Nat.le_of_ble_eq_true rfl⟩, Nat.le_of_ble_eq_true rfl, Nat.le_of_ble_eq_true rfl⟩ (Nat.le_of_ble_eq_true rfl) rfl [0, 1, 2, 3, 4] rfl (fun _ => rfl) rfl dX5_readPutRow_24 ?_
    intro u_24 h_24
    dsimp only [jput, List.set_cons_zero, List.set_cons_succ, Option.toList, List.append, List.cons_append, List.nil_append, List.append_nil]
    subst h_24
    have hq2 : jRB (jrElt (jbs tf) tl 3 0 0 u_20).2 := jRB.elt hl 3 0 0 u_20 hq1
    have hb2 := hq2.1.2.1
    refine J.istore_n g dX5_readPutRow_27 rfl rfl rfl ?_
    try dsimp only [List.set_cons_zero, List.set_cons_succ]
    refine J.iload_n g dX5_readPutRow_28 rfl rfl ?_
    refine J.iconst (v := -1) g dX5_readPutRow_29 (by decide) ?_
    refine J.icmp_ne g dX5_readPutRow_30 (tgt := 35) (by decide) (fun c_30 => ?_) (fun c_30 => ?_)
    · obtain ⟨e9, he⟩ := jov_some c_30
      have he31 := jrElt_b he
      rw [he]
      dsimp only [jov]
      refine J.iconstN g 1 dX5_readPutRow_35 ?_
      refine J.istore_n g dX5_readPutRow_36 rfl rfl rfl ?_
      try dsimp only [List.set_cons_zero, List.set_cons_succ]
      refine J.aload_n g dX5_readPutRow_37 rfl rfl ?_
      refine J.get g jX5 2 (by decide) lf_X5_22 0 rfl rfl dX5_readPutRow_38 ?_
      refine J.bipush (v := nI 6) g dX5_readPutRow_41 (by decide +kernel) ?_
      refine J.icmp_neN g dX5_readPutRow_43 (tgt := 50) (by decide) (by omega) (by omega) (fun c_43 => ?_) (fun c_43 => ?_)
      · have hP2 : jrPut (jbs tf) tl q = jrPut2 (jbs tf) tl q.1.2.2.1 e9 false (some 1, (jrElt (jbs tf) tl 3 0 0 u_20).2) := by rw [hP0, jrPut1_f he c_43]
        refine J.iconstN g 0 dX5_readPutRow_50 ?_
        refine J.istore g dX5_readPutRow_51 rfl rfl ?_
        try dsimp only [List.set_cons_zero, List.set_cons_succ]
        refine J.iload g dX5_readPutRow_53 rfl ?_
        refine J.if_eqN g dX5_readPutRow_55 (tgt := 74) (by decide) (by omega) (fun c_55 => ?_) (fun c_55 => absurd c_55 (by omega))
        refine J.aload_n g dX5_readPutRow_74 rfl rfl ?_
        refine J.callV g (c_X5_passSemicolon l γ _ _ _ _ _ _ _ ((jrElt (jbs tf) tl 3 0 0 u_20).2) hl hq2) jy_X5_passSemicolon lm_X5_76 (q0 := 0) rfl jX5.1 ⟨⟨Nat.le_of_ble_eq_true rfl, Nat.le_of_ble_eq_true rfl⟩, Nat.le_of_ble_eq_true rfl, Nat.le_of_ble_eq_true rfl⟩ (Nat.le_of_ble_eq_true rfl) rfl [0, 1, 2, 3, 4] rfl (fun _ => rfl) rfl dX5_readPutRow_75 ?_
        intro u_75 h_75
        dsimp only [jput, List.set_cons_zero, List.set_cons_succ, Option.toList, List.append, List.cons_append, List.nil_append, List.append_nil]
        have hr9 : u_75.2.2.2.1 = ((jrElt (jbs tf) tl 3 0 0 u_20).2).2.2.2.1 := by rw [h_75]; exact jrSemi_r
        have hq5 : jRB u_75 := by rw [h_75]; exact hq2.semi hl
        refine J.if_neB g dX5_readPutRow_78 (tgt := 83) (by decide) (fun c_78 => ?_) (fun c_78 => ?_)
        · refine J.iload g dX5_readPutRow_83 rfl ?_
          refine J.if_neN g dX5_readPutRow_85 (tgt := 105) (by decide) (by omega) (fun c_85 => absurd c_85 (by omega)) (fun c_85 => ?_)
          refine J.aload_n g dX5_readPutRow_88 rfl rfl ?_
          refine J.get g jX5 10 (by decide) lf_X5_49 0 rfl rfl dX5_readPutRow_89 ?_
          refine J.callV0 g (c_X6_isFull l γ _ _ _ _ hq5.2.2.2) jy_X6_isFull lm_X5_86 (q0 := 3) rfl jX6.1 ⟨⟨Nat.le_of_ble_eq_true rfl, Nat.le_of_ble_eq_true rfl⟩, Nat.le_of_ble_eq_true rfl, Nat.le_of_ble_eq_true rfl⟩ (Nat.le_of_ble_eq_true rfl) rfl [3, 4] rfl rfl dX5_readPutRow_92 ?_
          intro _ _
          dsimp only [jpush]
          refine J.if_eqB g dX5_readPutRow_95 (tgt := 105) (by decide) (fun c_95 => ?_) (fun c_95 => ?_)
          · have h12 := of_decide_eq_false c_95
            refine J.iconstN g 0 dX5_readPutRow_105 ?_
            refine J.istore g dX5_readPutRow_106 rfl rfl ?_
            try dsimp only [List.set_cons_zero, List.set_cons_succ]
            have lpf : ∀ (d : Nat) (i : Nat), 1 - i < d → (i ≤ 1) → J γ l x [(rd, .inr (5, [.ref tp, .int (nI ((jrApp e9 i u_75).1.1)), .int (nI ((jrApp e9 i u_75).1.2.1)), .int (nI ((jrApp e9 i u_75).1.2.2.1)), .int (nI ((jrApp e9 i u_75).1.2.2.2)), .int (nI ((jrApp e9 i u_75).2.1.1)), .int (nI ((jrApp e9 i u_75).2.1.2)), .int (nI ((jrApp e9 i u_75).2.2.1.1)), .int (nI ((jrApp e9 i u_75).2.2.1.2.1)), .int ((jrApp e9 i u_75).2.2.1.2.2), .ref rr])), (tp, .inr (9, [.ref tb, .int (nI tl)])), (tb, .inl (γ.2 1, 340, .inl tf)), (rr, .inr (6, [.ref rre, .int (nI ((jrApp e9 i u_75).2.2.2.1))])), (rre, .inl (γ.2 0, 12, .inl (fun j => nI (((jrApp e9 i u_75).2.2.2.2) j))))] [some (.ref rd), some (.int (nI q.1.2.2.1)), some (.int (nI e9)), some (.int (nI 1)), none, some (.int (nI i))] [] 0 0 108 := by
              intro d
              induction d with
              | zero => intro i hm; exact absurd hm (Nat.not_lt_zero _)
              | succ d ih_lpf =>
                intro i hm hi
                refine J.iload g dX5_readPutRow_108 rfl ?_
                refine J.iload_n g dX5_readPutRow_110 rfl rfl ?_
                refine J.icmp_geN g dX5_readPutRow_111 (tgt := 136) (by decide) (by omega) (by omega) (fun c_111 => ?_) (fun c_111 => ?_)
                · refine J.iconstN g 1 dX5_readPutRow_136 ?_
                  exact J.zret (by first | rfl | exact j_nz _) g hE (jrApp e9 i u_75) (by first | (rw [hP2, jrPut2_t hn9 c_78 (fun z => absurd z.1 (by decide))]; rfl) | (rw [hP2, jrPut2_t (n := 1) (o := (some 1, (jrElt (jbs tf) tl 3 0 0 u_20).2)) rfl c_78 (fun z => h12 (by rw [h_75]; exact z.2))]; rfl)) (by first | (rw [hP2, jrPut2_t hn9 c_78 (fun z => absurd z.1 (by decide)), ← h_75, show i = n9 by omega]) | (rw [hP2, jrPut2_t (n := 1) (o := (some 1, (jrElt (jbs tf) tl 3 0 0 u_20).2)) rfl c_78 (fun z => h12 (by rw [h_75]; exact z.2)), ← h_75, show i = 1 by omega])) rfl ⟨Nat.le_of_ble_eq_true rfl, Nat.le_of_ble_eq_true rfl⟩ dX5_readPutRow_137
                · refine J.iload g dX5_readPutRow_114 rfl ?_
                  refine J.bipush (v := nI 12) g dX5_readPutRow_116 (by decide +kernel) ?_
                  refine J.icmp_geN g dX5_readPutRow_118 (tgt := 136) (by decide) (by omega) (by omega) (fun c_118 => absurd c_118 (by omega)) (fun c_118 => ?_)
                  refine J.aload_n g dX5_readPutRow_121 rfl rfl ?_
                  refine J.get g jX5 10 (by decide) lf_X5_49 0 rfl rfl dX5_readPutRow_122 ?_
                  refine J.iload_n g dX5_readPutRow_125 rfl rfl ?_
                  refine J.callV g (c_X6_append l γ _ _ _ _ _ (by rw [jrApp_len]; omega)) jy_X6_append lm_X5_93 (q0 := 3) rfl jX6.1 ⟨⟨Nat.le_of_ble_eq_true rfl, Nat.le_of_ble_eq_true rfl⟩, Nat.le_of_ble_eq_true rfl, Nat.le_of_ble_eq_true rfl⟩ (Nat.le_of_ble_eq_true rfl) rfl [3, 4] rfl (fun _ => rfl) rfl dX5_readPutRow_126 ?_
                  intro _ _
                  dsimp only [jput, List.set_cons_zero, List.set_cons_succ, Option.toList, List.append, List.cons_append, List.nil_append, List.append_nil]
                  refine J.pop g dX5_readPutRow_129 rfl ?_
                  refine J.iincN g 1 dX5_readPutRow_130 rfl rfl ?_
                  try dsimp only [List.set_cons_zero, List.set_cons_succ]
                  refine J.goto g dX5_readPutRow_133 (tgt := 108) (by decide) ?_
                  exact J.lvle (jle_s (jle_s (jle_s (jle_s (jle_n (jle_s jle_0)))))) (ih_lpf (i + 1) (by omega) (by omega))
            exact J.lvle (jle_s (jle_s (jle_s (jle_s (jle_n (jle_s jle_0)))))) (lpf _ 0 (Nat.lt_succ_self _) (Nat.zero_le _))
          · have h12 := of_decide_eq_true c_95
            refine J.aload_n g dX5_readPutRow_98 rfl rfl ?_
            refine J.iconstN g 3 dX5_readPutRow_99 ?_
            refine J.iload_n g dX5_readPutRow_100 rfl rfl ?_
            refine J.callV g (c_X5_failAt l γ _ _ _ _ _ _ _ u_75 3 q.1.2.2.1 ) jy_X5_failAt lm_X5_89 (q0 := 0) rfl jX5.1 ⟨⟨Nat.le_of_ble_eq_true rfl, Nat.le_of_ble_eq_true rfl⟩, Nat.le_of_ble_eq_true rfl, Nat.le_of_ble_eq_true rfl⟩ (Nat.le_of_ble_eq_true rfl) rfl [0, 1, 2, 3, 4] rfl (fun _ => rfl) rfl dX5_readPutRow_101 ?_
            intro u_101 h_101
            dsimp only [jput, List.set_cons_zero, List.set_cons_succ, Option.toList, List.append, List.cons_append, List.nil_append, List.append_nil]
            exact J.zret (by first | rfl | exact j_nz _) g hE u_101 (by rw [hP2, jrPut2_3 (n := 1) (o := (some 1, (jrElt (jbs tf) tl 3 0 0 u_20).2)) rfl c_78 ⟨rfl, by rw [← h_75]; exact h12⟩]) (by rw [hP2, jrPut2_3 (n := 1) (o := (some 1, (jrElt (jbs tf) tl 3 0 0 u_20).2)) rfl c_78 ⟨rfl, by rw [← h_75]; exact h12⟩, ← h_75]; exact h_101) rfl ⟨Nat.le_of_ble_eq_true rfl, Nat.le_of_ble_eq_true rfl⟩ dX5_readPutRow_104
        · refine J.iconstN g 0 dX5_readPutRow_81 ?_
          exact J.zret (by first | rfl | exact j_nz _) g hE u_75 (by first | (rw [hP2, jrPut2_s hn9 c_78]; rfl) | (rw [hP2, jrPut2_s (n := 1) (o := (some 1, (jrElt (jbs tf) tl 3 0 0 u_20).2)) rfl c_78]; rfl)) (by first | (rw [hP2, jrPut2_s hn9 c_78]; exact h_75) | (rw [hP2, jrPut2_s (n := 1) (o := (some 1, (jrElt (jbs tf) tl 3 0 0 u_20).2)) rfl c_78]; exact h_75)) rfl ⟨Nat.le_of_ble_eq_true rfl, Nat.le_of_ble_eq_true rfl⟩ dX5_readPutRow_82
      · refine J.iconstN g 1 dX5_readPutRow_46 ?_
        refine J.goto g dX5_readPutRow_47 (tgt := 51) (by decide) ?_
        refine J.istore g dX5_readPutRow_51 rfl rfl ?_
        try dsimp only [List.set_cons_zero, List.set_cons_succ]
        refine J.iload g dX5_readPutRow_53 rfl ?_
        refine J.if_eqN g dX5_readPutRow_55 (tgt := 74) (by decide) (by omega) (fun c_55 => absurd c_55 (by omega)) (fun c_55 => ?_)
        refine J.aload_n g dX5_readPutRow_58 rfl rfl ?_
        refine J.callV g (c_X5_readToken l γ _ _ _ _ _ _ _ (jrElt (jbs tf) tl 3 0 0 u_20).2 hl hq2) jy_X5_readToken lm_X5_56 (q0 := 0) rfl jX5.1 ⟨⟨Nat.le_of_ble_eq_true rfl, Nat.le_of_ble_eq_true rfl⟩, Nat.le_of_ble_eq_true rfl, Nat.le_of_ble_eq_true rfl⟩ (Nat.le_of_ble_eq_true rfl) rfl [0, 1, 2, 3, 4] rfl (fun _ => rfl) rfl dX5_readPutRow_59 ?_
        intro u_59 h_59
        dsimp only [jput, List.set_cons_zero, List.set_cons_succ, Option.toList, List.append, List.cons_append, List.nil_append, List.append_nil]
        have hq3 : jRB u_59 := by rw [h_59]; exact hq2.tok hl
        refine J.aload_n g dX5_readPutRow_62 rfl rfl ?_
        refine J.callV g (c_X5_readHowOften l γ _ _ _ _ _ _ _ u_59 hl hq3) jy_X5_readHowOften lm_X5_83 (q0 := 0) rfl jX5.1 ⟨⟨Nat.le_of_ble_eq_true rfl, Nat.le_of_ble_eq_true rfl⟩, Nat.le_of_ble_eq_true rfl, Nat.le_of_ble_eq_true rfl⟩ (Nat.le_of_ble_eq_true rfl) rfl [0, 1, 2, 3, 4] rfl (fun _ => rfl) rfl dX5_readPutRow_63 ?_
        intro u_63 h_63
        dsimp only [jput, List.set_cons_zero, List.set_cons_succ, Option.toList, List.append, List.cons_append, List.nil_append, List.append_nil]
        subst h_63
        have hq4 : jRB (jrHow (jbs tf) tl u_59).2 := hq3.how hl
        refine J.istore_n g dX5_readPutRow_66 rfl rfl rfl ?_
        try dsimp only [List.set_cons_zero, List.set_cons_succ]
        refine J.iload_n g dX5_readPutRow_67 rfl rfl ?_
        refine J.iconst (v := -1) g dX5_readPutRow_68 (by decide) ?_
        refine J.icmp_ne g dX5_readPutRow_69 (tgt := 74) (by decide) (fun c_69 => ?_) (fun c_69 => ?_)
        · obtain ⟨n9, hn9⟩ := jov_some c_69
          have hnb := jrHow_b hn9
          rw [hn9]
          dsimp only [jov]
          have hP2 : jrPut (jbs tf) tl q = jrPut2 (jbs tf) tl q.1.2.2.1 e9 true (jrHow (jbs tf) tl u_59) := by rw [hP0, jrPut1_t he c_43, ← h_59]
          refine J.aload_n g dX5_readPutRow_74 rfl rfl ?_
          refine J.callV g (c_X5_passSemicolon l γ _ _ _ _ _ _ _ ((jrHow (jbs tf) tl u_59).2) hl hq4) jy_X5_passSemicolon lm_X5_76 (q0 := 0) rfl jX5.1 ⟨⟨Nat.le_of_ble_eq_true rfl, Nat.le_of_ble_eq_true rfl⟩, Nat.le_of_ble_eq_true rfl, Nat.le_of_ble_eq_true rfl⟩ (Nat.le_of_ble_eq_true rfl) rfl [0, 1, 2, 3, 4] rfl (fun _ => rfl) rfl dX5_readPutRow_75 ?_
          intro u_75 h_75
          dsimp only [jput, List.set_cons_zero, List.set_cons_succ, Option.toList, List.append, List.cons_append, List.nil_append, List.append_nil]
          have hr9 : u_75.2.2.2.1 = ((jrHow (jbs tf) tl u_59).2).2.2.2.1 := by rw [h_75]; exact jrSemi_r
          have hq5 : jRB u_75 := by rw [h_75]; exact hq4.semi hl
          refine J.if_neB g dX5_readPutRow_78 (tgt := 83) (by decide) (fun c_78 => ?_) (fun c_78 => ?_)
          · refine J.iload g dX5_readPutRow_83 rfl ?_
            refine J.if_neN g dX5_readPutRow_85 (tgt := 105) (by decide) (by omega) (fun c_85 => ?_) (fun c_85 => absurd c_85 (by omega))
            refine J.iconstN g 0 dX5_readPutRow_105 ?_
            refine J.istore g dX5_readPutRow_106 rfl rfl ?_
            try dsimp only [List.set_cons_zero, List.set_cons_succ]
            have lpt : ∀ (d : Nat) (i : Nat), n9 - i < d → (i ≤ n9) → J γ l x [(rd, .inr (5, [.ref tp, .int (nI ((jrApp e9 i u_75).1.1)), .int (nI ((jrApp e9 i u_75).1.2.1)), .int (nI ((jrApp e9 i u_75).1.2.2.1)), .int (nI ((jrApp e9 i u_75).1.2.2.2)), .int (nI ((jrApp e9 i u_75).2.1.1)), .int (nI ((jrApp e9 i u_75).2.1.2)), .int (nI ((jrApp e9 i u_75).2.2.1.1)), .int (nI ((jrApp e9 i u_75).2.2.1.2.1)), .int ((jrApp e9 i u_75).2.2.1.2.2), .ref rr])), (tp, .inr (9, [.ref tb, .int (nI tl)])), (tb, .inl (γ.2 1, 340, .inl tf)), (rr, .inr (6, [.ref rre, .int (nI ((jrApp e9 i u_75).2.2.2.1))])), (rre, .inl (γ.2 0, 12, .inl (fun j => nI (((jrApp e9 i u_75).2.2.2.2) j))))] [some (.ref rd), some (.int (nI q.1.2.2.1)), some (.int (nI e9)), some (.int (nI n9)), none, some (.int (nI i))] [] 0 0 108 := by
              intro d
              induction d with
              | zero => intro i hm; exact absurd hm (Nat.not_lt_zero _)
              | succ d ih_lpt =>
                intro i hm hi
                refine J.iload g dX5_readPutRow_108 rfl ?_
                refine J.iload_n g dX5_readPutRow_110 rfl rfl ?_
                refine J.icmp_geN g dX5_readPutRow_111 (tgt := 136) (by decide) (by omega) (by omega) (fun c_111 => ?_) (fun c_111 => ?_)
                · refine J.iconstN g 1 dX5_readPutRow_136 ?_
                  exact J.zret (by first | rfl | exact j_nz _) g hE (jrApp e9 i u_75) (by first | (rw [hP2, jrPut2_t hn9 c_78 (fun z => absurd z.1 (by decide))]; rfl) | (rw [hP2, jrPut2_t (n := 1) (o := (some 1, (jrElt (jbs tf) tl 3 0 0 u_20).2)) rfl c_78 (fun z => h12 (by rw [h_75]; exact z.2))]; rfl)) (by first | (rw [hP2, jrPut2_t hn9 c_78 (fun z => absurd z.1 (by decide)), ← h_75, show i = n9 by omega]) | (rw [hP2, jrPut2_t (n := 1) (o := (some 1, (jrElt (jbs tf) tl 3 0 0 u_20).2)) rfl c_78 (fun z => h12 (by rw [h_75]; exact z.2)), ← h_75, show i = 1 by omega])) rfl ⟨Nat.le_of_ble_eq_true rfl, Nat.le_of_ble_eq_true rfl⟩ dX5_readPutRow_137
                · refine J.iload g dX5_readPutRow_114 rfl ?_
                  refine J.bipush (v := nI 12) g dX5_readPutRow_116 (by decide +kernel) ?_
                  refine J.icmp_geN g dX5_readPutRow_118 (tgt := 136) (by decide) (by omega) (by omega) (fun c_118 => absurd c_118 (by omega)) (fun c_118 => ?_)
                  refine J.aload_n g dX5_readPutRow_121 rfl rfl ?_
                  refine J.get g jX5 10 (by decide) lf_X5_49 0 rfl rfl dX5_readPutRow_122 ?_
                  refine J.iload_n g dX5_readPutRow_125 rfl rfl ?_
                  refine J.callV g (c_X6_append l γ _ _ _ _ _ (by rw [jrApp_len]; omega)) jy_X6_append lm_X5_93 (q0 := 3) rfl jX6.1 ⟨⟨Nat.le_of_ble_eq_true rfl, Nat.le_of_ble_eq_true rfl⟩, Nat.le_of_ble_eq_true rfl, Nat.le_of_ble_eq_true rfl⟩ (Nat.le_of_ble_eq_true rfl) rfl [3, 4] rfl (fun _ => rfl) rfl dX5_readPutRow_126 ?_
                  intro _ _
                  dsimp only [jput, List.set_cons_zero, List.set_cons_succ, Option.toList, List.append, List.cons_append, List.nil_append, List.append_nil]
                  refine J.pop g dX5_readPutRow_129 rfl ?_
                  refine J.iincN g 1 dX5_readPutRow_130 rfl rfl ?_
                  try dsimp only [List.set_cons_zero, List.set_cons_succ]
                  refine J.goto g dX5_readPutRow_133 (tgt := 108) (by decide) ?_
                  exact J.lvle (jle_s (jle_s (jle_s (jle_s (jle_n (jle_s jle_0)))))) (ih_lpt (i + 1) (by omega) (by omega))
            exact J.lvle (jle_s (jle_s (jle_s (jle_s (jle_n (jle_s jle_0)))))) (lpt _ 0 (Nat.lt_succ_self _) (Nat.zero_le _))
          · refine J.iconstN g 0 dX5_readPutRow_81 ?_
            exact J.zret (by first | rfl | exact j_nz _) g hE u_75 (by first | (rw [hP2, jrPut2_s hn9 c_78]; rfl) | (rw [hP2, jrPut2_s (n := 1) (o := (some 1, (jrElt (jbs tf) tl 3 0 0 u_20).2)) rfl c_78]; rfl)) (by first | (rw [hP2, jrPut2_s hn9 c_78]; exact h_75) | (rw [hP2, jrPut2_s (n := 1) (o := (some 1, (jrElt (jbs tf) tl 3 0 0 u_20).2)) rfl c_78]; exact h_75)) rfl ⟨Nat.le_of_ble_eq_true rfl, Nat.le_of_ble_eq_true rfl⟩ dX5_readPutRow_82
        · have hno : (jrHow (jbs tf) tl u_59).1 = none := jov_none (fun e h => by have := (jrHow_b h).2; omega) c_69
          have hP2 : jrPut (jbs tf) tl q = jrPut2 (jbs tf) tl q.1.2.2.1 e9 true (jrHow (jbs tf) tl u_59) := by rw [hP0, jrPut1_t he c_43, ← h_59]
          refine J.iconstN g 0 dX5_readPutRow_72 ?_
          exact J.zret (by first | rfl | exact j_nz _) g hE ((jrHow (jbs tf) tl u_59).2) (by rw [hP2, jrPut2_n hno]; rfl) (by rw [hP2, jrPut2_n hno]) rfl ⟨Nat.le_of_ble_eq_true rfl, Nat.le_of_ble_eq_true rfl⟩ dX5_readPutRow_73
    · have hno : (jrElt (jbs tf) tl 3 0 0 u_20).1 = none := jov_none (fun e h => jrElt_b h) c_30
      refine J.iconstN g 0 dX5_readPutRow_33 ?_
      exact J.zret (by first | rfl | exact j_nz _) g hE ((jrElt (jbs tf) tl 3 0 0 u_20).2) (by rw [hP0, jrPut1_n hno]; rfl) (by rw [hP0, jrPut1_n hno]) rfl ⟨Nat.le_of_ble_eq_true rfl, Nat.le_of_ble_eq_true rfl⟩ dX5_readPutRow_34
  · refine J.aload_n g dX5_readPutRow_8 rfl rfl ?_
    refine J.iconstN g 1 dX5_readPutRow_9 ?_
    refine J.callV g (c_X5_fail l γ _ _ _ _ _ _ _ q 1 ) jy_X5_fail lm_X5_66 (q0 := 0) rfl jX5.1 ⟨⟨Nat.le_of_ble_eq_true rfl, Nat.le_of_ble_eq_true rfl⟩, Nat.le_of_ble_eq_true rfl, Nat.le_of_ble_eq_true rfl⟩ (Nat.le_of_ble_eq_true rfl) rfl [0, 1, 2, 3, 4] rfl (fun _ => rfl) rfl dX5_readPutRow_10 ?_
    intro u_10 h_10
    dsimp only [jput, List.set_cons_zero, List.set_cons_succ, Option.toList, List.append, List.cons_append, List.nil_append, List.append_nil]
    exact J.zret (by first | rfl | exact j_nz _) g hE u_10 (by rw [jrPut, if_pos c_5]) (by rw [jrPut, if_pos c_5]; exact h_10) rfl ⟨Nat.le_of_ble_eq_true rfl, Nat.le_of_ble_eq_true rfl⟩ dX5_readPutRow_13
set_option maxHeartbeats 4000000 in
set_option maxRecDepth 100000 in
theorem c_X5_readWhole (l : Launch) (γ : jγ) (rd tp tb tl rr rre : Nat) (tf : Nat → Int32) (q : jRS) (hl : tl ≤ 340) (hq : jRB q) : jM (S := jRS) l γ yX5_readWhole cX5_readWhole 3 none ({ frames := 8, cells := 0, slots := 0, locals := 180 } : Room) [.ref rd] [(rd, .inr (5, [.ref tp, .int (nI q.1.1), .int (nI q.1.2.1), .int (nI q.1.2.2.1), .int (nI q.1.2.2.2), .int (nI q.2.1.1), .int (nI q.2.1.2), .int (nI q.2.2.1.1), .int (nI q.2.2.1.2.1), .int q.2.2.1.2.2, .ref rr])), (tp, .inr (9, [.ref tb, .int (nI tl)])), (tb, .inl (γ.2 1, 340, .inl tf)), (rr, .inr (6, [.ref rre, .int (nI q.2.2.2.1)])), (rre, .inl (γ.2 0, 12, .inl (fun j => nI ((q.2.2.2.2) j))))] (fun u => none) (fun u => [(rd, .inr (5, [.ref tp, .int (nI u.1.1), .int (nI u.1.2.1), .int (nI u.1.2.2.1), .int (nI u.1.2.2.2), .int (nI u.2.1.1), .int (nI u.2.1.2), .int (nI u.2.2.1.1), .int (nI u.2.2.1.2.1), .int u.2.2.1.2.2, .ref rr])), (tp, .inr (9, [.ref tb, .int (nI tl)])), (tb, .inl (γ.2 1, 340, .inl tf)), (rr, .inr (6, [.ref rre, .int (nI u.2.2.2.1)])), (rre, .inl (γ.2 0, 12, .inl (fun j => nI ((u.2.2.2.2) j))))]) (fun u => u = jrAll (jbs tf) tl 301 0 (jrTok (jbs tf) tl ((0, q.1.2.1, q.1.2.2.1, q.1.2.2.2), (0, 0), (0, 0, -1), (0, q.2.2.2.2)))) := by
  refine jM.of [some (.ref rd), none, none] rfl (Nat.le_of_ble_eq_true rfl) (by decide) ?_
  intro x g hE hin
  have hq0 : jRB ((0, q.1.2.1, q.1.2.2.1, q.1.2.2.2), (0, 0), (0, 0, -1), (0, q.2.2.2.2)) := ⟨⟨Nat.zero_le _, hq.1.2⟩, ⟨Nat.two_pow_pos 15, Nat.two_pow_pos 20⟩, ⟨Nat.zero_lt_succ 9, Nat.zero_le _⟩, Nat.zero_le _⟩
  refine J.aload_n g dX5_readWhole_0 rfl rfl ?_
  refine J.iconstN g 0 dX5_readWhole_1 ?_
  refine J.put g jX5 1 (by decide) lf_X5_18 0 rfl rfl (Nat.le_of_ble_eq_true rfl) rfl rfl dX5_readWhole_2 ?_
  try dsimp only [List.set_cons_zero, List.set_cons_succ]
  refine J.aload_n g dX5_readWhole_5 rfl rfl ?_
  refine J.iconstN g 0 dX5_readWhole_6 ?_
  refine J.put g jX5 5 (by decide) lf_X5_31 0 rfl rfl (Nat.le_of_ble_eq_true rfl) rfl rfl dX5_readWhole_7 ?_
  try dsimp only [List.set_cons_zero, List.set_cons_succ]
  refine J.aload_n g dX5_readWhole_10 rfl rfl ?_
  refine J.iconstN g 0 dX5_readWhole_11 ?_
  refine J.put g jX5 6 (by decide) lf_X5_34 0 rfl rfl (Nat.le_of_ble_eq_true rfl) rfl rfl dX5_readWhole_12 ?_
  try dsimp only [List.set_cons_zero, List.set_cons_succ]
  refine J.aload_n g dX5_readWhole_15 rfl rfl ?_
  refine J.iconstN g 0 dX5_readWhole_16 ?_
  refine J.put g jX5 7 (by decide) lf_X5_37 0 rfl rfl (Nat.le_of_ble_eq_true rfl) rfl rfl dX5_readWhole_17 ?_
  try dsimp only [List.set_cons_zero, List.set_cons_succ]
  refine J.aload_n g dX5_readWhole_20 rfl rfl ?_
  refine J.iconstN g 0 dX5_readWhole_21 ?_
  refine J.put g jX5 8 (by decide) lf_X5_40 0 rfl rfl (Nat.le_of_ble_eq_true rfl) rfl rfl dX5_readWhole_22 ?_
  try dsimp only [List.set_cons_zero, List.set_cons_succ]
  refine J.aload_n g dX5_readWhole_25 rfl rfl ?_
  refine J.iconst (v := -1) g dX5_readWhole_26 (by decide) ?_
  refine J.put g jX5 9 (by decide) lf_X5_43 0 rfl rfl (Nat.le_of_ble_eq_true rfl) rfl rfl dX5_readWhole_27 ?_
  try dsimp only [List.set_cons_zero, List.set_cons_succ]
  refine J.aload_n g dX5_readWhole_30 rfl rfl ?_
  refine J.get g jX5 10 (by decide) lf_X5_49 0 rfl rfl dX5_readWhole_31 ?_
  refine J.callV g (c_X6_clear l γ _ _ _ _ ) jy_X6_clear lm_X5_53 (q0 := 3) rfl jX6.1 ⟨⟨Nat.le_of_ble_eq_true rfl, Nat.le_of_ble_eq_true rfl⟩, Nat.le_of_ble_eq_true rfl, Nat.le_of_ble_eq_true rfl⟩ (Nat.le_of_ble_eq_true rfl) rfl [3, 4] rfl (fun _ => rfl) rfl dX5_readWhole_34 ?_
  intro _ _
  dsimp only [jput, List.set_cons_zero, List.set_cons_succ, Option.toList, List.append, List.cons_append, List.nil_append, List.append_nil]
  refine J.aload_n g dX5_readWhole_37 rfl rfl ?_
  refine J.callV g (c_X5_readToken l γ _ _ _ _ _ _ _ ((0, q.1.2.1, q.1.2.2.1, q.1.2.2.2), (0, 0), (0, 0, -1), (0, q.2.2.2.2)) hl hq0) jy_X5_readToken lm_X5_56 (q0 := 0) rfl jX5.1 ⟨⟨Nat.le_of_ble_eq_true rfl, Nat.le_of_ble_eq_true rfl⟩, Nat.le_of_ble_eq_true rfl, Nat.le_of_ble_eq_true rfl⟩ (Nat.le_of_ble_eq_true rfl) rfl [0, 1, 2, 3, 4] rfl (fun _ => rfl) rfl dX5_readWhole_38 ?_
  intro u_38 h_38
  dsimp only [jput, List.set_cons_zero, List.set_cons_succ, Option.toList, List.append, List.cons_append, List.nil_append, List.append_nil]
  refine J.iconstN g 0 dX5_readWhole_41 ?_
  refine J.istore_n g dX5_readWhole_42 rfl rfl rfl ?_
  try dsimp only [List.set_cons_zero, List.set_cons_succ]
  have lp : ∀ (d : Nat) (i : Nat) (v : jRS), 301 - i < d → (i ≤ 301) → (jRB v) → (v.2.1.2 ≤ i) → (jrAll (jbs tf) tl 301 0 (jrTok (jbs tf) tl ((0, q.1.2.1, q.1.2.2.1, q.1.2.2.2), (0, 0), (0, 0, -1), (0, q.2.2.2.2))) = jrAll (jbs tf) tl (301 - i) i v) → J γ l x [(rd, .inr (5, [.ref tp, .int (nI v.1.1), .int (nI v.1.2.1), .int (nI v.1.2.2.1), .int (nI v.1.2.2.2), .int (nI v.2.1.1), .int (nI v.2.1.2), .int (nI v.2.2.1.1), .int (nI v.2.2.1.2.1), .int v.2.2.1.2.2, .ref rr])), (tp, .inr (9, [.ref tb, .int (nI tl)])), (tb, .inl (γ.2 1, 340, .inl tf)), (rr, .inr (6, [.ref rre, .int (nI v.2.2.2.1)])), (rre, .inl (γ.2 0, 12, .inl (fun j => nI ((v.2.2.2.2) j))))] [some (.ref rd), some (.int (nI i)), none] [] 0 0 43 := by
    intro d
    induction d with
    | zero => intro i v hm; exact absurd hm (Nat.not_lt_zero _)
    | succ d ih_lp =>
      intro i v hm hi hv hrows hr
      have hv1 := hv.1.2.1
      have hv2 := hv.2.2.1.1
      refine J.iload_n g dX5_readWhole_43 rfl rfl ?_
      refine J.sipush (v := nI 301) g dX5_readWhole_44 (by decide +kernel) ?_
      refine J.icmp_geN g dX5_readWhole_47 (tgt := 100) (by decide) (by omega) (by omega) (fun c_47 => ?_) (fun c_47 => ?_)
      · exact J.vret g hE v rfl (by rw [hr]; first | exact jrAll_0 c_47 | exact jrAll_f c_54 | exact jrAll_e c_61) rfl ⟨Nat.le_of_ble_eq_true rfl, Nat.le_of_ble_eq_true rfl⟩ dX5_readWhole_100
      · refine J.aload_n g dX5_readWhole_50 rfl rfl ?_
        refine J.get g jX5 7 (by decide) lf_X5_37 0 rfl rfl dX5_readWhole_51 ?_
        refine J.if_neN g dX5_readWhole_54 (tgt := 100) (by decide) (by omega) (fun c_54 => ?_) (fun c_54 => ?_)
        · exact J.vret g hE v rfl (by rw [hr]; first | exact jrAll_0 c_47 | exact jrAll_f c_54 | exact jrAll_e c_61) rfl ⟨Nat.le_of_ble_eq_true rfl, Nat.le_of_ble_eq_true rfl⟩ dX5_readWhole_100
        · refine J.aload_n g dX5_readWhole_57 rfl rfl ?_
          refine J.get g jX5 2 (by decide) lf_X5_22 0 rfl rfl dX5_readWhole_58 ?_
          refine J.if_eqN g dX5_readWhole_61 (tgt := 100) (by decide) (by omega) (fun c_61 => ?_) (fun c_61 => ?_)
          · exact J.vret g hE v rfl (by rw [hr]; first | exact jrAll_0 c_47 | exact jrAll_f c_54 | exact jrAll_e c_61) rfl ⟨Nat.le_of_ble_eq_true rfl, Nat.le_of_ble_eq_true rfl⟩ dX5_readWhole_100
          · refine J.iload_n g dX5_readWhole_64 rfl rfl ?_
            refine J.if_neN g dX5_readWhole_65 (tgt := 75) (by decide) (by omega) (fun c_65 => ?_) (fun c_65 => ?_)
            · refine J.aload_n g dX5_readWhole_75 rfl rfl ?_
              refine J.callV g (c_X5_readPutRow l γ _ _ _ _ _ _ _ v hl hv) jy_X5_readPutRow lm_X5_63 (q0 := 0) rfl jX5.1 ⟨⟨Nat.le_of_ble_eq_true rfl, Nat.le_of_ble_eq_true rfl⟩, Nat.le_of_ble_eq_true rfl, Nat.le_of_ble_eq_true rfl⟩ (Nat.le_of_ble_eq_true rfl) rfl [0, 1, 2, 3, 4] rfl (fun _ => rfl) rfl dX5_readWhole_76 ?_
              intro u_76 h_76
              dsimp only [jput, List.set_cons_zero, List.set_cons_succ, Option.toList, List.append, List.cons_append, List.nil_append, List.append_nil]
              have hrw : jrRow (jbs tf) tl i v = jrPut (jbs tf) tl v := by rw [jrRow, if_neg c_65]
              rw [← hrw] at h_76 ⊢
              subst h_76
              have hvr : jRB (jrRow (jbs tf) tl i v).2 := hv.row hl
              have hrr : (jrRow (jbs tf) tl i v).2.2.1.2 = v.2.1.2 := jrRow_rows
              refine J.istore_n g dX5_readWhole_79 rfl rfl rfl ?_
              try dsimp only [List.set_cons_zero, List.set_cons_succ]
              refine J.iload_n g dX5_readWhole_80 rfl rfl ?_
              refine J.if_eqB g dX5_readWhole_81 (tgt := 94) (by decide) (fun c_81 => ?_) (fun c_81 => ?_)
              · have hst := jrAll_s (show i < 301 by omega) c_54 c_61 c_81
                have hnb := hvr
                have hnr : (jrRow (jbs tf) tl i v).2.2.1.2 ≤ i + 1 := by omega
                refine J.iincN g 1 dX5_readWhole_94 rfl rfl ?_
                try dsimp only [List.set_cons_zero, List.set_cons_succ]
                refine J.goto g dX5_readWhole_97 (tgt := 43) (by decide) ?_
                exact J.lvle (jle_s (jle_s (jle_n jle_0))) (ih_lp (i + 1) _ (by omega) (by omega) hnb hnr (hr.trans hst))
              · have hnb : jRB ((jrRow (jbs tf) tl i v).2.1, ((jrRow (jbs tf) tl i v).2.2.1.1, (jrRow (jbs tf) tl i v).2.2.1.2 + 1), (jrRow (jbs tf) tl i v).2.2.2) := ⟨hvr.1, ⟨hvr.2.1.1, by show (jrRow (jbs tf) tl i v).2.2.1.2 + 1 < 2 ^ 20; omega⟩, hvr.2.2⟩
                have hnr : (jrRow (jbs tf) tl i v).2.2.1.2 + 1 ≤ i + 1 := by omega
                have hst := jrAll_t (show i < 301 by omega) c_54 c_61 c_81
                refine J.aload_n g dX5_readWhole_84 rfl rfl ?_
                refine J.dup g dX5_readWhole_85 rfl ?_
                refine J.get g jX5 6 (by decide) lf_X5_34 0 rfl rfl dX5_readWhole_86 ?_
                refine J.iconstN g 1 dX5_readWhole_89 ?_
                refine J.iaddN g dX5_readWhole_90 ?_
                refine J.put g jX5 6 (by decide) lf_X5_34 0 rfl rfl (Nat.le_of_ble_eq_true rfl) rfl rfl dX5_readWhole_91 ?_
                try dsimp only [List.set_cons_zero, List.set_cons_succ]
                refine J.iincN g 1 dX5_readWhole_94 rfl rfl ?_
                try dsimp only [List.set_cons_zero, List.set_cons_succ]
                refine J.goto g dX5_readWhole_97 (tgt := 43) (by decide) ?_
                exact J.lvle (jle_s (jle_s (jle_n jle_0))) (ih_lp (i + 1) _ (by omega) (by omega) hnb hnr (hr.trans hst))
            · refine J.aload_n g dX5_readWhole_68 rfl rfl ?_
              refine J.callV g (c_X5_readGroupRow l γ _ _ _ _ _ _ _ v hl hv) jy_X5_readGroupRow lm_X5_59 (q0 := 0) rfl jX5.1 ⟨⟨Nat.le_of_ble_eq_true rfl, Nat.le_of_ble_eq_true rfl⟩, Nat.le_of_ble_eq_true rfl, Nat.le_of_ble_eq_true rfl⟩ (Nat.le_of_ble_eq_true rfl) rfl [0, 1, 2, 3, 4] rfl (fun _ => rfl) rfl dX5_readWhole_69 ?_
              intro u_69 h_69
              dsimp only [jput, List.set_cons_zero, List.set_cons_succ, Option.toList, List.append, List.cons_append, List.nil_append, List.append_nil]
              have hrw : jrRow (jbs tf) tl i v = jrGroup (jbs tf) tl v := by rw [jrRow, if_pos c_65]
              rw [← hrw] at h_69 ⊢
              subst h_69
              refine J.goto g dX5_readWhole_72 (tgt := 79) (by decide) ?_
              have hvr : jRB (jrRow (jbs tf) tl i v).2 := hv.row hl
              have hrr : (jrRow (jbs tf) tl i v).2.2.1.2 = v.2.1.2 := jrRow_rows
              refine J.istore_n g dX5_readWhole_79 rfl rfl rfl ?_
              try dsimp only [List.set_cons_zero, List.set_cons_succ]
              refine J.iload_n g dX5_readWhole_80 rfl rfl ?_
              refine J.if_eqB g dX5_readWhole_81 (tgt := 94) (by decide) (fun c_81 => ?_) (fun c_81 => ?_)
              · have hst := jrAll_s (show i < 301 by omega) c_54 c_61 c_81
                have hnb := hvr
                have hnr : (jrRow (jbs tf) tl i v).2.2.1.2 ≤ i + 1 := by omega
                refine J.iincN g 1 dX5_readWhole_94 rfl rfl ?_
                try dsimp only [List.set_cons_zero, List.set_cons_succ]
                refine J.goto g dX5_readWhole_97 (tgt := 43) (by decide) ?_
                exact J.lvle (jle_s (jle_s (jle_n jle_0))) (ih_lp (i + 1) _ (by omega) (by omega) hnb hnr (hr.trans hst))
              · have hnb : jRB ((jrRow (jbs tf) tl i v).2.1, ((jrRow (jbs tf) tl i v).2.2.1.1, (jrRow (jbs tf) tl i v).2.2.1.2 + 1), (jrRow (jbs tf) tl i v).2.2.2) := ⟨hvr.1, ⟨hvr.2.1.1, by show (jrRow (jbs tf) tl i v).2.2.1.2 + 1 < 2 ^ 20; omega⟩, hvr.2.2⟩
                have hnr : (jrRow (jbs tf) tl i v).2.2.1.2 + 1 ≤ i + 1 := by omega
                have hst := jrAll_t (show i < 301 by omega) c_54 c_61 c_81
                refine J.aload_n g dX5_readWhole_84 rfl rfl ?_
                refine J.dup g dX5_readWhole_85 rfl ?_
                refine J.get g jX5 6 (by decide) lf_X5_34 0 rfl rfl dX5_readWhole_86 ?_
                refine J.iconstN g 1 dX5_readWhole_89 ?_
                refine J.iaddN g dX5_readWhole_90 ?_
                refine J.put g jX5 6 (by decide) lf_X5_34 0 rfl rfl (Nat.le_of_ble_eq_true rfl) rfl rfl dX5_readWhole_91 ?_
                try dsimp only [List.set_cons_zero, List.set_cons_succ]
                refine J.iincN g 1 dX5_readWhole_94 rfl rfl ?_
                try dsimp only [List.set_cons_zero, List.set_cons_succ]
                refine J.goto g dX5_readWhole_97 (tgt := 43) (by decide) ?_
                exact J.lvle (jle_s (jle_s (jle_n jle_0))) (ih_lp (i + 1) _ (by omega) (by omega) hnb hnr (hr.trans hst))
  exact J.lvle (jle_s (jle_s (jle_n jle_0))) (lp _ 0 u_38 (Nat.lt_succ_self _) (by omega) (by rw [h_38]; exact hq0.tok hl) (by rw [h_38]; exact Nat.zero_le _) (by rw [h_38]))
