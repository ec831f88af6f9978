set_option maxHeartbeats 4000000 in
set_option maxRecDepth 100000 in
theorem c_X10_now (l : Launch) (γ : jγ) (ns tp rd gr rw tr oo pa iq sr sgn pp mu : Nat) (dsd : Int32) (rwe n : Nat) (f : Nat → Nat) (mk ag cd pt od ex : Nat) (mf af : Nat → Nat) (rq nx pl : Nat) (tb tl : Nat) (tf : Nat → Int32) (w : Int32) (hn : n ≤ 12) (hT : jtab od mf af) (hf : ∀ j, j < n → f j < 24) : jM (S := Unit) l γ yX10_now cX10_now 2 (some .int) ({ frames := 4, cells := 0, slots := 0, locals := 87 } : Room) [.ref ns, .int w] [(ns, .inr (10, [.ref tp, .ref rd, .ref gr, .ref rw, .ref tr, .ref oo, .ref pa, .ref iq, .ref sr, .ref sgn, .ref pp, .ref mu, .int dsd])), (rw, .inr (6, [.ref rwe, .int (nI n)])), (rwe, .inl (γ.2 0, 12, .inl (fun j => nI (f j)))), (gr, .inr (0, [.ref mk, .ref ag, .int (nI cd), .int (nI pt), .int (nI od), .int (nI ex)])), (mk, .inl (γ.2 1, 576, .inl (fun j => nI (mf j)))), (ag, .inl (γ.2 1, 24, .inl (fun j => nI (af j)))), (pa, .inr (4, [.ref rq, .int (nI nx), .int (nI pl)])), (tp, .inr (9, [.ref tb, .int (nI tl)])), (tb, .inl (γ.2 1, 340, .inl tf))] (fun w0 => some (.int (jsel w [nI pt, nI od, nI ex, nI n, jsa od mf f n, nI pl, nI tl]))) (fun w0 => [(ns, .inr (10, [.ref tp, .ref rd, .ref gr, .ref rw, .ref tr, .ref oo, .ref pa, .ref iq, .ref sr, .ref sgn, .ref pp, .ref mu, .int dsd])), (rw, .inr (6, [.ref rwe, .int (nI n)])), (rwe, .inl (γ.2 0, 12, .inl (fun j => nI (f j)))), (gr, .inr (0, [.ref mk, .ref ag, .int (nI cd), .int (nI pt), .int (nI od), .int (nI ex)])), (mk, .inl (γ.2 1, 576, .inl (fun j => nI (mf j)))), (ag, .inl (γ.2 1, 24, .inl (fun j => nI (af j)))), (pa, .inr (4, [.ref rq, .int (nI nx), .int (nI pl)])), (tp, .inr (9, [.ref tb, .int (nI tl)])), (tb, .inl (γ.2 1, 340, .inl tf))]) (fun w0 => True) := by
  refine jM.of [some (.ref ns), some (.int w)] rfl (Nat.le_of_ble_eq_true rfl) (by decide) ?_
  intro x g hE hin
  refine J.iload_n g dX10_now_0 rfl rfl ?_
  refine J.ts g (N := 7) (dt := 97) [44, 52, 60, 68, 76, 81, 89] dX10_now_1 rfl (by decide) (by decide +kernel) (by decide) (fun k_1 hk_1 hx_1 => ?_) (fun c_1 => ?_)
  · subst hx_1
    rcases (show k_1 = 0 ∨ k_1 = 1 ∨ k_1 = 2 ∨ k_1 = 3 ∨ k_1 = 4 ∨ k_1 = 5 ∨ k_1 = 6 by omega) with rfl | rfl | rfl | rfl | rfl | rfl | rfl
    · show J γ l x _ _ _ _ _ 44
      refine J.aload_n g dX10_now_44 rfl rfl ?_
      refine J.get g jX10 2 (by decide) lf_X10_26 0 rfl rfl dX10_now_45 ?_
      refine J.callV0 g (c_X0_parts l γ _ _ _ _ _ _ _ _ _ ) jy_X0_parts lm_X10_135 (q0 := 3) rfl jX0.1 ⟨⟨Nat.le_of_ble_eq_true rfl, Nat.le_of_ble_eq_true rfl⟩, Nat.le_of_ble_eq_true rfl, Nat.le_of_ble_eq_true rfl⟩ (Nat.le_of_ble_eq_true rfl) rfl [3, 4, 5] rfl rfl dX10_now_48 ?_
      intro _ _
      dsimp only [jpush]
      exact J.iret g hE () (by rw [jsel_t (N := 7) rfl (by decide) (by decide)]; rfl) trivial rfl ⟨Nat.le_of_ble_eq_true rfl, Nat.le_of_ble_eq_true rfl⟩ dX10_now_51
    · show J γ l x _ _ _ _ _ 52
      refine J.aload_n g dX10_now_52 rfl rfl ?_
      refine J.get g jX10 2 (by decide) lf_X10_26 0 rfl rfl dX10_now_53 ?_
      refine J.callV0 g (c_X0_order l γ _ _ _ _ _ _ _ _ _ ) jy_X0_order lm_X10_138 (q0 := 3) rfl jX0.1 ⟨⟨Nat.le_of_ble_eq_true rfl, Nat.le_of_ble_eq_true rfl⟩, Nat.le_of_ble_eq_true rfl, Nat.le_of_ble_eq_true rfl⟩ (Nat.le_of_ble_eq_true rfl) rfl [3, 4, 5] rfl rfl dX10_now_56 ?_
      intro _ _
      dsimp only [jpush]
      exact J.iret g hE () (by rw [jsel_t (N := 7) rfl (by decide) (by decide)]; rfl) trivial rfl ⟨Nat.le_of_ble_eq_true rfl, Nat.le_of_ble_eq_true rfl⟩ dX10_now_59
    · show J γ l x _ _ _ _ _ 60
      refine J.aload_n g dX10_now_60 rfl rfl ?_
      refine J.get g jX10 2 (by decide) lf_X10_26 0 rfl rfl dX10_now_61 ?_
      refine J.callV0 g (c_X0_exponent l γ _ _ _ _ _ _ _ _ _ ) jy_X0_exponent lm_X10_141 (q0 := 3) rfl jX0.1 ⟨⟨Nat.le_of_ble_eq_true rfl, Nat.le_of_ble_eq_true rfl⟩, Nat.le_of_ble_eq_true rfl, Nat.le_of_ble_eq_true rfl⟩ (Nat.le_of_ble_eq_true rfl) rfl [3, 4, 5] rfl rfl dX10_now_64 ?_
      intro _ _
      dsimp only [jpush]
      exact J.iret g hE () (by rw [jsel_t (N := 7) rfl (by decide) (by decide)]; rfl) trivial rfl ⟨Nat.le_of_ble_eq_true rfl, Nat.le_of_ble_eq_true rfl⟩ dX10_now_67
    · show J γ l x _ _ _ _ _ 68
      refine J.aload_n g dX10_now_68 rfl rfl ?_
      refine J.get g jX10 3 (by decide) lf_X10_33 0 rfl rfl dX10_now_69 ?_
      refine J.callV0 g (c_X6_length l γ _ _ _ _ ) jy_X6_length lm_X10_144 (q0 := 1) rfl jX6.1 ⟨⟨Nat.le_of_ble_eq_true rfl, Nat.le_of_ble_eq_true rfl⟩, Nat.le_of_ble_eq_true rfl, Nat.le_of_ble_eq_true rfl⟩ (Nat.le_of_ble_eq_true rfl) rfl [1, 2] rfl rfl dX10_now_72 ?_
      intro _ _
      dsimp only [jpush]
      exact J.iret g hE () (by rw [jsel_t (N := 7) rfl (by decide) (by decide)]; rfl) trivial rfl ⟨Nat.le_of_ble_eq_true rfl, Nat.le_of_ble_eq_true rfl⟩ dX10_now_75
    · show J γ l x _ _ _ _ _ 76
      refine J.aload_n g dX10_now_76 rfl rfl ?_
      refine J.callV0 g (c_X10_sumOfAll l γ _ _ _ _ _ _ _ _ _ _ _ _ _ _ _ _ _ _ _ _ _ _ _ _ _ hn hT hf) jy_X10_sumOfAll lm_X10_145 (q0 := 0) rfl jX10.1 ⟨⟨Nat.le_of_ble_eq_true rfl, Nat.le_of_ble_eq_true rfl⟩, Nat.le_of_ble_eq_true rfl, Nat.le_of_ble_eq_true rfl⟩ (Nat.le_of_ble_eq_true rfl) rfl [0, 1, 2, 3, 4, 5] rfl rfl dX10_now_77 ?_
      intro _ _
      dsimp only [jpush]
      exact J.iret g hE () (by rw [jsel_t (N := 7) rfl (by decide) (by decide)]; rfl) trivial rfl ⟨Nat.le_of_ble_eq_true rfl, Nat.le_of_ble_eq_true rfl⟩ dX10_now_80
    · show J γ l x _ _ _ _ _ 81
      refine J.aload_n g dX10_now_81 rfl rfl ?_
      refine J.get g jX10 6 (by decide) lf_X10_46 0 rfl rfl dX10_now_82 ?_
      refine J.callV0 g (c_X4_length l γ _ _ _ _ ) jy_X4_length lm_X10_148 (q0 := 6) rfl jX4.1 ⟨⟨Nat.le_of_ble_eq_true rfl, Nat.le_of_ble_eq_true rfl⟩, Nat.le_of_ble_eq_true rfl, Nat.le_of_ble_eq_true rfl⟩ (Nat.le_of_ble_eq_true rfl) rfl [6] rfl rfl dX10_now_85 ?_
      intro _ _
      dsimp only [jpush]
      exact J.iret g hE () (by rw [jsel_t (N := 7) rfl (by decide) (by decide)]; rfl) trivial rfl ⟨Nat.le_of_ble_eq_true rfl, Nat.le_of_ble_eq_true rfl⟩ dX10_now_88
    · show J γ l x _ _ _ _ _ 89
      refine J.aload_n g dX10_now_89 rfl rfl ?_
      refine J.get g jX10 0 (by decide) lf_X10_20 0 rfl rfl dX10_now_90 ?_
      refine J.callV0 g (c_X9_length l γ _ _ _ _ ) jy_X9_length lm_X10_89 (q0 := 7) rfl jX9.1 ⟨⟨Nat.le_of_ble_eq_true rfl, Nat.le_of_ble_eq_true rfl⟩, Nat.le_of_ble_eq_true rfl, Nat.le_of_ble_eq_true rfl⟩ (Nat.le_of_ble_eq_true rfl) rfl [7, 8] rfl rfl dX10_now_93 ?_
      intro _ _
      dsimp only [jpush]
      exact J.iret g hE () (by rw [jsel_t (N := 7) rfl (by decide) (by decide)]; rfl) trivial rfl ⟨Nat.le_of_ble_eq_true rfl, Nat.le_of_ble_eq_true rfl⟩ dX10_now_96
  · show J γ l x _ _ _ _ _ 97
    refine J.iconst (v := -1) g dX10_now_97 (by decide) ?_
    exact J.iret g hE () (by rw [jsel_f c_1]) trivial rfl ⟨Nat.le_of_ble_eq_true rfl, Nat.le_of_ble_eq_true rfl⟩ dX10_now_98
set_option maxHeartbeats 4000000 in
set_option maxRecDepth 100000 in
theorem c_X10_sums (l : Launch) (γ : jγ) (ns tp rd gr rw tr oo pa iq sr sgn pp mu : Nat) (dsd : Int32) (rwe n : Nat) (f : Nat → Nat) (mk ag cd pt od ex : Nat) (mf af : Nat → Nat) (mq wq pn : Nat) (ad : Nat → Nat) (M : Nat → Nat → Nat) (hn : n ≤ 12) (hT : jtab od mf af) (hf : ∀ j, j < n → f j < 24) : jM (S := Nat → Nat → Nat) l γ yX10_sums cX10_sums 1 (some .int) ({ frames := 4, cells := 0, slots := 0, locals := 91 } : Room) [.ref ns] ([(ns, .inr (10, [.ref tp, .ref rd, .ref gr, .ref rw, .ref tr, .ref oo, .ref pa, .ref iq, .ref sr, .ref sgn, .ref pp, .ref mu, .int dsd])), (sr, .inr (8, [.ref mq, .ref wq, .int (nI pn)])), (mq, .inl (γ.2 4, 13, .inr (.inr (.inr (.inr (fun i => some (ad i))))))), (rw, .inr (6, [.ref rwe, .int (nI n)])), (rwe, .inl (γ.2 0, 12, .inl (fun j => nI (f j)))), (gr, .inr (0, [.ref mk, .ref ag, .int (nI cd), .int (nI pt), .int (nI od), .int (nI ex)])), (mk, .inl (γ.2 1, 576, .inl (fun j => nI (mf j)))), (ag, .inl (γ.2 1, 24, .inl (fun j => nI (af j))))] ++ jrows γ ad 13 13 M) (fun u => some (.int (nI (jors (msub od mf f n) n)))) (fun u => ([(ns, .inr (10, [.ref tp, .ref rd, .ref gr, .ref rw, .ref tr, .ref oo, .ref pa, .ref iq, .ref sr, .ref sgn, .ref pp, .ref mu, .int dsd])), (sr, .inr (8, [.ref mq, .ref wq, .int (nI n)])), (mq, .inl (γ.2 4, 13, .inr (.inr (.inr (.inr (fun i => some (ad i))))))), (rw, .inr (6, [.ref rwe, .int (nI n)])), (rwe, .inl (γ.2 0, 12, .inl (fun j => nI (f j)))), (gr, .inr (0, [.ref mk, .ref ag, .int (nI cd), .int (nI pt), .int (nI od), .int (nI ex)])), (mk, .inl (γ.2 1, 576, .inl (fun j => nI (mf j)))), (ag, .inl (γ.2 1, 24, .inl (fun j => nI (af j))))] ++ jrows γ ad 13 13 u)) (fun u => True) := by
  refine jM.of [some (.ref ns)] rfl (Nat.le_of_ble_eq_true rfl) (by decide) ?_
  intro x g hE hin
  refine J.aload_n g dX10_sums_0 rfl rfl ?_
  refine J.get g jX10 8 (by decide) lf_X10_60 0 rfl rfl dX10_sums_1 ?_
  refine J.aload_n g dX10_sums_4 rfl rfl ?_
  refine J.get g jX10 2 (by decide) lf_X10_26 0 rfl rfl dX10_sums_5 ?_
  refine J.aload_n g dX10_sums_8 rfl rfl ?_
  refine J.get g jX10 3 (by decide) lf_X10_33 0 rfl rfl dX10_sums_9 ?_
  refine J.callV g (c_X8_study l γ _ _ _ _ _ _ _ _ _ _ _ _ _ _ _ _ _ _ _ hn hf hT) jy_X8_study lm_X10_177 (q0 := 1) rfl jX8.1 ⟨⟨Nat.le_of_ble_eq_true rfl, Nat.le_of_ble_eq_true rfl⟩, Nat.le_of_ble_eq_true rfl, Nat.le_of_ble_eq_true rfl⟩ (Nat.le_of_ble_eq_true rfl) rfl [1, 2, 3, 4, 5, 6, 7, 8, 9, 10, 11, 12, 13, 14, 15, 16, 17, 18, 19, 20] rfl (fun _ => rfl) rfl dX10_sums_12 ?_
  intro u_12 h_12
  refine J.eqws (jput_pool (b := 8) (is1 := [1, 2, 3, 4, 5, 6, 7]) rfl rfl (by decide)) ?_
  dsimp only [jput, List.set_cons_zero, List.set_cons_succ, Option.toList, List.append, List.cons_append, List.nil_append, List.append_nil]
  refine J.aload_n g dX10_sums_15 rfl rfl ?_
  refine J.get g jX10 8 (by decide) lf_X10_60 0 rfl rfl dX10_sums_16 ?_
  refine J.callV0 g (c_X8_allSums l γ _ _ _ _ _ _ hn (fun k hk => by rw [h_12 n (Nat.le_refl _) k hk]; exact msub_lt hT _ _)) jy_X8_allSums lm_X10_181 (q0 := 1) rfl jX8.1 ⟨⟨Nat.le_of_ble_eq_true rfl, Nat.le_of_ble_eq_true rfl⟩, Nat.le_of_ble_eq_true rfl, Nat.le_of_ble_eq_true rfl⟩ (Nat.le_of_ble_eq_true rfl) rfl [1, 2, 8, 9, 10, 11, 12, 13, 14, 15, 16, 17, 18, 19, 20] rfl rfl dX10_sums_19 ?_
  intro _ _
  dsimp only [jpush]
  exact J.iret g hE u_12 (by rw [jors_congr n (fun j h1 h2 => h_12 n (Nat.le_refl _) j (by omega))]) trivial rfl ⟨Nat.le_of_ble_eq_true rfl, Nat.le_of_ble_eq_true rfl⟩ dX10_sums_22
set_option maxHeartbeats 4000000 in
set_option maxRecDepth 100000 in
theorem c_X10_found_yes (l : Launch) (γ : jγ) (ns tp rd gr rw tr oo pa iq sr sgn pp mu : Nat) (dsd : Int32) (rwe n : Nat) (f : Nat → Nat) (mk ag cd pt od ex : Nat) (mf af : Nat → Nat) (mq wq pn : Nat) (ad : Nat → Nat) (M : Nat → Nat → Nat) (gg : Nat) (w : Int32) (hn : n ≤ 12) (hT : jtab od mf af) (hf : ∀ j, j < n → f j < 24) (hI : ∀ a, a < od → ∀ c, c < od → jpl od mf (jpl od mf c a) (jop od af a) = c) (hfo : ∀ j, j < n → f j < od) (hg : gg < od) (hw : ¬ w < 0) (hw2 : w ≤ nI 1) : jM (S := Nat → Nat → Nat) l γ yX10_found cX10_found 4 (some .int) ({ frames := 4, cells := 0, slots := 0, locals := 91 } : Room) [.ref ns, .int (nI gg), .int w] ([(ns, .inr (10, [.ref tp, .ref rd, .ref gr, .ref rw, .ref tr, .ref oo, .ref pa, .ref iq, .ref sr, .ref sgn, .ref pp, .ref mu, .int dsd])), (sr, .inr (8, [.ref mq, .ref wq, .int (nI pn)])), (mq, .inl (γ.2 4, 13, .inr (.inr (.inr (.inr (fun i => some (ad i))))))), (rw, .inr (6, [.ref rwe, .int (nI n)])), (rwe, .inl (γ.2 0, 12, .inl (fun j => nI (f j)))), (gr, .inr (0, [.ref mk, .ref ag, .int (nI cd), .int (nI pt), .int (nI od), .int (nI ex)])), (mk, .inl (γ.2 1, 576, .inl (fun j => nI (mf j)))), (ag, .inl (γ.2 1, 24, .inl (fun j => nI (af j))))] ++ jrows γ ad 13 13 M) (fun u => some (.int (jfnd od mf af f n gg w))) (fun u => ([(ns, .inr (10, [.ref tp, .ref rd, .ref gr, .ref rw, .ref tr, .ref oo, .ref pa, .ref iq, .ref sr, .ref sgn, .ref pp, .ref mu, .int dsd])), (sr, .inr (8, [.ref mq, .ref wq, .int (nI n)])), (mq, .inl (γ.2 4, 13, .inr (.inr (.inr (.inr (fun i => some (ad i))))))), (rw, .inr (6, [.ref rwe, .int (nI n)])), (rwe, .inl (γ.2 0, 12, .inl (fun j => nI (f j)))), (gr, .inr (0, [.ref mk, .ref ag, .int (nI cd), .int (nI pt), .int (nI od), .int (nI ex)])), (mk, .inl (γ.2 1, 576, .inl (fun j => nI (mf j)))), (ag, .inl (γ.2 1, 24, .inl (fun j => nI (af j))))] ++ jrows γ ad 13 13 u)) (fun u => True) := by
  refine jM.of [some (.ref ns), some (.int (nI gg)), some (.int w), none] rfl (Nat.le_of_ble_eq_true rfl) (by decide) ?_
  intro x g hE hin
  have hT1 := hT.1
  refine J.aload_n g dX10_found_0 rfl rfl ?_
  refine J.get g jX10 2 (by decide) lf_X10_26 0 rfl rfl dX10_found_1 ?_
  refine J.iload_n g dX10_found_4 rfl rfl ?_
  refine J.callV0 g (c_X0_has l γ _ _ _ _ _ _ _ _ _ _ hT.1) jy_X0_has lm_X10_156 (q0 := 5) rfl jX0.1 ⟨⟨Nat.le_of_ble_eq_true rfl, Nat.le_of_ble_eq_true rfl⟩, Nat.le_of_ble_eq_true rfl, Nat.le_of_ble_eq_true rfl⟩ (Nat.le_of_ble_eq_true rfl) rfl [5, 6, 7] rfl rfl dX10_found_5 ?_
  intro _ _
  dsimp only [jpush]
  refine J.if_eqB g dX10_found_8 (tgt := 20) (by decide) (fun c_8 => absurd c_8 (by rw [jhas_n od (by omega), decide_eq_true hg] at c_8; cases c_8)) (fun c_8 => ?_)
  refine J.iload_n g dX10_found_11 rfl rfl ?_
  refine J.if_lt g dX10_found_12 (tgt := 20) (by decide) (fun c_12 => absurd c_12 hw) (fun c_12 => ?_)
  refine J.iload_n g dX10_found_15 rfl rfl ?_
  refine J.iconstN g 1 dX10_found_16 ?_
  refine J.icmp_le g dX10_found_17 (tgt := 22) (by decide) (fun c_17 => ?_) (fun c_17 => absurd c_17 (fun z => z hw2))
  refine J.aload_n g dX10_found_22 rfl rfl ?_
  refine J.get g jX10 8 (by decide) lf_X10_60 0 rfl rfl dX10_found_23 ?_
  refine J.aload_n g dX10_found_26 rfl rfl ?_
  refine J.get g jX10 2 (by decide) lf_X10_26 0 rfl rfl dX10_found_27 ?_
  refine J.aload_n g dX10_found_30 rfl rfl ?_
  refine J.get g jX10 3 (by decide) lf_X10_33 0 rfl rfl dX10_found_31 ?_
  refine J.callV g (c_X8_study l γ _ _ _ _ _ _ _ _ _ _ _ _ _ _ _ _ _ _ _ hn hf hT) jy_X8_study lm_X10_177 (q0 := 1) rfl jX8.1 ⟨⟨Nat.le_of_ble_eq_true rfl, Nat.le_of_ble_eq_true rfl⟩, Nat.le_of_ble_eq_true rfl, Nat.le_of_ble_eq_true rfl⟩ (Nat.le_of_ble_eq_true rfl) rfl [1, 2, 3, 4, 5, 6, 7, 8, 9, 10, 11, 12, 13, 14, 15, 16, 17, 18, 19, 20] rfl (fun _ => rfl) rfl dX10_found_34 ?_
  intro u_34 h_34
  refine J.eqws (jput_pool (b := 8) (is1 := [1, 2, 3, 4, 5, 6, 7]) rfl rfl (by decide)) ?_
  dsimp only [jput, List.set_cons_zero, List.set_cons_succ, Option.toList, List.append, List.cons_append, List.nil_append, List.append_nil]
  refine J.aload_n g dX10_found_37 rfl rfl ?_
  refine J.get g jX10 8 (by decide) lf_X10_60 0 rfl rfl dX10_found_38 ?_
  refine J.iload_n g dX10_found_41 rfl rfl ?_
  refine J.callV0 g (c_X8_fewestPlaces l γ _ _ _ _ _ _ _ hn (fun k hk => by rw [h_34 n (Nat.le_refl _) k hk]; exact msub_lt hT _ _) (by omega)) jy_X8_fewestPlaces lm_X10_184 (q0 := 1) rfl jX8.1 ⟨⟨Nat.le_of_ble_eq_true rfl, Nat.le_of_ble_eq_true rfl⟩, Nat.le_of_ble_eq_true rfl, Nat.le_of_ble_eq_true rfl⟩ (Nat.le_of_ble_eq_true rfl) rfl [1, 2, 8, 9, 10, 11, 12, 13, 14, 15, 16, 17, 18, 19, 20] rfl rfl dX10_found_42 ?_
  intro _ _
  dsimp only [jpush]
  have hjf : jfw u_34 n gg n 1 = jfw (msub od mf f) n gg n 1 := jfw_congr n 1 (fun j h1 h2 => h_34 n (Nat.le_refl _) j (by omega))
  refine J.istore_n g dX10_found_45 rfl rfl rfl ?_
  try dsimp only [List.set_cons_zero, List.set_cons_succ]
  refine J.iload_n g dX10_found_46 rfl rfl ?_
  refine J.iconst (v := -1) g dX10_found_47 (by decide) ?_
  refine J.icmp_ne g dX10_found_48 (tgt := 53) (by decide) (fun c_48 => ?_) (fun c_48 => ?_)
  · obtain ⟨kc, hk1, hk2, hk3, hb⟩ := jfw_k n 1 c_48
    rw [hk3]
    have hk4 := hjf.symm.trans hk3
    refine J.iload_n g dX10_found_53 rfl rfl ?_
    refine J.if_ne g dX10_found_54 (tgt := 61) (by decide) (fun c_54 => ?_) (fun c_54 => ?_)
    · refine J.aload_n g dX10_found_61 rfl rfl ?_
      refine J.get g jX10 8 (by decide) lf_X10_60 0 rfl rfl dX10_found_62 ?_
      refine J.aload_n g dX10_found_65 rfl rfl ?_
      refine J.get g jX10 2 (by decide) lf_X10_26 0 rfl rfl dX10_found_66 ?_
      refine J.aload_n g dX10_found_69 rfl rfl ?_
      refine J.get g jX10 3 (by decide) lf_X10_33 0 rfl rfl dX10_found_70 ?_
      refine J.iload_n g dX10_found_73 rfl rfl ?_
      refine J.iload_n g dX10_found_74 rfl rfl ?_
      refine J.callV0 g (c_X8_leastSet l γ _ _ _ _ _ _ _ _ _ _ _ _ _ _ _ _ _ _ _ _ _ hn hf hT rfl (fun i hi k hk => by rw [h_34 i hi k hk]; exact msub_lt hT _ _) (by omega) (by omega) hb (fun p l c hp hc hl h1 h2 => by rw [h_34 _ (by omega) _ hc] at h1 h2; rw [h_34 _ (by omega) _ (by omega)]; exact msub_bit hT hI (hfo p hp) h1 h2)) jy_X8_leastSet lm_X10_187 (q0 := 1) rfl jX8.1 ⟨⟨Nat.le_of_ble_eq_true rfl, Nat.le_of_ble_eq_true rfl⟩, Nat.le_of_ble_eq_true rfl, Nat.le_of_ble_eq_true rfl⟩ (Nat.le_of_ble_eq_true rfl) rfl [1, 2, 3, 4, 5, 6, 7, 8, 9, 10, 11, 12, 13, 14, 15, 16, 17, 18, 19, 20] rfl rfl dX10_found_75 ?_
      intro _ _
      dsimp only [jpush]
      exact J.iret g hE u_34 (by first | rw [jfnd_0 hk4 (by omega) c_54] | rw [jfnd_1 hk4 (by omega) c_54, jls_congr n gg kc 0 (by omega) (fun i hi k hk => h_34 i hi k hk)]) trivial rfl ⟨Nat.le_of_ble_eq_true rfl, Nat.le_of_ble_eq_true rfl⟩ dX10_found_78
    · refine J.iload_n g dX10_found_57 rfl rfl ?_
      refine J.goto g dX10_found_58 (tgt := 78) (by decide) ?_
      exact J.iret g hE u_34 (by first | rw [jfnd_0 hk4 (by omega) c_54] | rw [jfnd_1 hk4 (by omega) c_54, jls_congr n gg kc 0 (by omega) (fun i hi k hk => h_34 i hi k hk)]) trivial rfl ⟨Nat.le_of_ble_eq_true rfl, Nat.le_of_ble_eq_true rfl⟩ dX10_found_78
  · refine J.iconst (v := -1) g dX10_found_51 (by decide) ?_
    exact J.iret g hE u_34 (by rw [jfnd_n (hjf ▸ c_48)]) trivial rfl ⟨Nat.le_of_ble_eq_true rfl, Nat.le_of_ble_eq_true rfl⟩ dX10_found_52
set_option maxHeartbeats 4000000 in
set_option maxRecDepth 100000 in
theorem c_X10_found_no (l : Launch) (γ : jγ) (ns tp rd gr rw tr oo pa iq sr sgn pp mu : Nat) (dsd : Int32) (mk ag cd pt od ex : Nat) (mf af : Nat → Nat) (k w : Int32) (ho : od ≤ 24) (hw : jhas k od = false ∨ w < 0 ∨ ¬ w ≤ nI 1) : jM (S := Unit) l γ yX10_found cX10_found 4 (some .int) ({ frames := 4, cells := 0, slots := 0, locals := 91 } : Room) [.ref ns, .int k, .int w] [(ns, .inr (10, [.ref tp, .ref rd, .ref gr, .ref rw, .ref tr, .ref oo, .ref pa, .ref iq, .ref sr, .ref sgn, .ref pp, .ref mu, .int dsd])), (gr, .inr (0, [.ref mk, .ref ag, .int (nI cd), .int (nI pt), .int (nI od), .int (nI ex)])), (mk, .inl (γ.2 1, 576, .inl (fun j => nI (mf j)))), (ag, .inl (γ.2 1, 24, .inl (fun j => nI (af j))))] (fun w0 => some (.int (-1))) (fun w0 => [(ns, .inr (10, [.ref tp, .ref rd, .ref gr, .ref rw, .ref tr, .ref oo, .ref pa, .ref iq, .ref sr, .ref sgn, .ref pp, .ref mu, .int dsd])), (gr, .inr (0, [.ref mk, .ref ag, .int (nI cd), .int (nI pt), .int (nI od), .int (nI ex)])), (mk, .inl (γ.2 1, 576, .inl (fun j => nI (mf j)))), (ag, .inl (γ.2 1, 24, .inl (fun j => nI (af j))))]) (fun w0 => True) := by
  refine jM.of [some (.ref ns), some (.int k), some (.int w), none] rfl (Nat.le_of_ble_eq_true rfl) (by decide) ?_
  intro x g hE hin
  refine J.aload_n g dX10_found_0 rfl rfl ?_
  refine J.get g jX10 2 (by decide) lf_X10_26 0 rfl rfl dX10_found_1 ?_
  refine J.iload_n g dX10_found_4 rfl rfl ?_
  refine J.callV0 g (c_X0_has l γ _ _ _ _ _ _ _ _ _ _ ho) jy_X0_has lm_X10_156 (q0 := 1) rfl jX0.1 ⟨⟨Nat.le_of_ble_eq_true rfl, Nat.le_of_ble_eq_true rfl⟩, Nat.le_of_ble_eq_true rfl, Nat.le_of_ble_eq_true rfl⟩ (Nat.le_of_ble_eq_true rfl) rfl [1, 2, 3] rfl rfl dX10_found_5 ?_
  intro _ _
  dsimp only [jpush]
  refine J.if_eqB g dX10_found_8 (tgt := 20) (by decide) (fun c_8 => ?_) (fun c_8 => ?_)
  · refine J.iconst (v := -1) g dX10_found_20 (by decide) ?_
    exact J.iret g hE () rfl trivial rfl ⟨Nat.le_of_ble_eq_true rfl, Nat.le_of_ble_eq_true rfl⟩ dX10_found_21
  · refine J.iload_n g dX10_found_11 rfl rfl ?_
    refine J.if_lt g dX10_found_12 (tgt := 20) (by decide) (fun c_12 => ?_) (fun c_12 => ?_)
    · refine J.iconst (v := -1) g dX10_found_20 (by decide) ?_
      exact J.iret g hE () rfl trivial rfl ⟨Nat.le_of_ble_eq_true rfl, Nat.le_of_ble_eq_true rfl⟩ dX10_found_21
    · refine J.iload_n g dX10_found_15 rfl rfl ?_
      refine J.iconstN g 1 dX10_found_16 ?_
      refine J.icmp_le g dX10_found_17 (tgt := 22) (by decide) (fun c_17 => absurd c_17 (fun z => hw.elim (fun h => by simp [h] at c_8) (fun h => h.elim c_12 (fun h => h z)))) (fun c_17 => ?_)
      refine J.iconst (v := -1) g dX10_found_20 (by decide) ?_
      exact J.iret g hE () rfl trivial rfl ⟨Nat.le_of_ble_eq_true rfl, Nat.le_of_ble_eq_true rfl⟩ dX10_found_21
set_option maxHeartbeats 4000000 in
set_option maxRecDepth 100000 in
theorem c_X10_ways_yes (l : Launch) (γ : jγ) (ns tp rd gr rw tr oo pa iq sr sgn pp mu : Nat) (dsd : Int32) (rwe n : Nat) (f : Nat → Nat) (mk ag cd pt od ex : Nat) (mf af : Nat → Nat) (mq wq pn : Nat) (ad : Nat → Nat) (W : Nat → Nat → Nat) (gg kc : Nat) (hn : n ≤ 12) (hT : jtab od mf af) (hf : ∀ j, j < n → f j < 24) (hg : gg < od) (hk : kc ≤ n) : jM (S := Nat → Nat → Nat) l γ yX10_ways cX10_ways 3 (some .int) ({ frames := 4, cells := 0, slots := 0, locals := 93 } : Room) [.ref ns, .int (nI gg), .int (nI kc)] ([(ns, .inr (10, [.ref tp, .ref rd, .ref gr, .ref rw, .ref tr, .ref oo, .ref pa, .ref iq, .ref sr, .ref sgn, .ref pp, .ref mu, .int dsd])), (sr, .inr (8, [.ref mq, .ref wq, .int (nI pn)])), (wq, .inl (γ.2 4, 13, .inr (.inr (.inr (.inr (fun i => some (ad i))))))), (rw, .inr (6, [.ref rwe, .int (nI n)])), (rwe, .inl (γ.2 0, 12, .inl (fun j => nI (f j)))), (gr, .inr (0, [.ref mk, .ref ag, .int (nI cd), .int (nI pt), .int (nI od), .int (nI ex)])), (mk, .inl (γ.2 1, 576, .inl (fun j => nI (mf j)))), (ag, .inl (γ.2 1, 24, .inl (fun j => nI (af j))))] ++ jrows γ ad 13 24 W) (fun u => some (.int (nI (if 0 < kc then wsub od mf af f n kc gg else jws (wsub od mf af f n) gg 12)))) (fun u => ([(ns, .inr (10, [.ref tp, .ref rd, .ref gr, .ref rw, .ref tr, .ref oo, .ref pa, .ref iq, .ref sr, .ref sgn, .ref pp, .ref mu, .int dsd])), (sr, .inr (8, [.ref mq, .ref wq, .int (nI pn)])), (wq, .inl (γ.2 4, 13, .inr (.inr (.inr (.inr (fun i => some (ad i))))))), (rw, .inr (6, [.ref rwe, .int (nI n)])), (rwe, .inl (γ.2 0, 12, .inl (fun j => nI (f j)))), (gr, .inr (0, [.ref mk, .ref ag, .int (nI cd), .int (nI pt), .int (nI od), .int (nI ex)])), (mk, .inl (γ.2 1, 576, .inl (fun j => nI (mf j)))), (ag, .inl (γ.2 1, 24, .inl (fun j => nI (af j))))] ++ jrows γ ad 13 24 u)) (fun u => True) := by
  refine jM.of [some (.ref ns), some (.int (nI gg)), some (.int (nI kc))] rfl (Nat.le_of_ble_eq_true rfl) (by decide) ?_
  intro x g hE hin
  have hT1 := hT.1
  refine J.aload_n g dX10_ways_0 rfl rfl ?_
  refine J.get g jX10 2 (by decide) lf_X10_26 0 rfl rfl dX10_ways_1 ?_
  refine J.iload_n g dX10_ways_4 rfl rfl ?_
  refine J.callV0 g (c_X0_has l γ _ _ _ _ _ _ _ _ _ _ hT.1) jy_X0_has lm_X10_156 (q0 := 5) rfl jX0.1 ⟨⟨Nat.le_of_ble_eq_true rfl, Nat.le_of_ble_eq_true rfl⟩, Nat.le_of_ble_eq_true rfl, Nat.le_of_ble_eq_true rfl⟩ (Nat.le_of_ble_eq_true rfl) rfl [5, 6, 7] rfl rfl dX10_ways_5 ?_
  intro _ _
  dsimp only [jpush]
  refine J.if_eqB g dX10_ways_8 (tgt := 26) (by decide) (fun c_8 => absurd c_8 (by rw [jhas_n od (by omega), decide_eq_true hg] at c_8; cases c_8)) (fun c_8 => ?_)
  refine J.iload_n g dX10_ways_11 rfl rfl ?_
  refine J.if_ltN g dX10_ways_12 (tgt := 26) (by decide) (by omega) ?_
  refine J.iload_n g dX10_ways_15 rfl rfl ?_
  refine J.aload_n g dX10_ways_16 rfl rfl ?_
  refine J.get g jX10 3 (by decide) lf_X10_33 0 rfl rfl dX10_ways_17 ?_
  refine J.callV0 g (c_X6_length l γ _ _ _ _ ) jy_X6_length lm_X10_144 (q0 := 3) rfl jX6.1 ⟨⟨Nat.le_of_ble_eq_true rfl, Nat.le_of_ble_eq_true rfl⟩, Nat.le_of_ble_eq_true rfl, Nat.le_of_ble_eq_true rfl⟩ (Nat.le_of_ble_eq_true rfl) rfl [3, 4] rfl rfl dX10_ways_20 ?_
  intro _ _
  dsimp only [jpush]
  refine J.icmp_leN g dX10_ways_23 (tgt := 28) (by decide) (by omega) (by omega) (fun c_23 => ?_) (fun c_23 => absurd c_23 (by omega))
  refine J.aload_n g dX10_ways_28 rfl rfl ?_
  refine J.get g jX10 8 (by decide) lf_X10_60 0 rfl rfl dX10_ways_29 ?_
  refine J.aload_n g dX10_ways_32 rfl rfl ?_
  refine J.get g jX10 2 (by decide) lf_X10_26 0 rfl rfl dX10_ways_33 ?_
  refine J.aload_n g dX10_ways_36 rfl rfl ?_
  refine J.get g jX10 3 (by decide) lf_X10_33 0 rfl rfl dX10_ways_37 ?_
  refine J.callV g (c_X8_countWays l γ _ _ _ _ _ _ _ _ _ _ _ _ _ _ _ _ _ _ _ hn hf hT) jy_X8_countWays lm_X10_191 (q0 := 1) rfl jX8.1 ⟨⟨Nat.le_of_ble_eq_true rfl, Nat.le_of_ble_eq_true rfl⟩, Nat.le_of_ble_eq_true rfl, Nat.le_of_ble_eq_true rfl⟩ (Nat.le_of_ble_eq_true rfl) rfl [1, 2, 3, 4, 5, 6, 7, 8, 9, 10, 11, 12, 13, 14, 15, 16, 17, 18, 19, 20] rfl (fun _ => rfl) rfl dX10_ways_40 ?_
  intro u_40 h_40
  refine J.eqws (jput_pool (b := 8) (is1 := [1, 2, 3, 4, 5, 6, 7]) rfl rfl (by decide)) ?_
  dsimp only [jput, List.set_cons_zero, List.set_cons_succ, Option.toList, List.append, List.cons_append, List.nil_append, List.append_nil]
  refine J.aload_n g dX10_ways_43 rfl rfl ?_
  refine J.get g jX10 8 (by decide) lf_X10_60 0 rfl rfl dX10_ways_44 ?_
  refine J.iload_n g dX10_ways_47 rfl rfl ?_
  refine J.iload_n g dX10_ways_48 rfl rfl ?_
  refine J.callV0 g (c_X8_waysOf l γ _ _ _ _ _ _ _ _ (by omega) (by omega)) jy_X8_waysOf lm_X10_194 (q0 := 1) rfl jX8.1 ⟨⟨Nat.le_of_ble_eq_true rfl, Nat.le_of_ble_eq_true rfl⟩, Nat.le_of_ble_eq_true rfl, Nat.le_of_ble_eq_true rfl⟩ (Nat.le_of_ble_eq_true rfl) rfl [1, 2, 8, 9, 10, 11, 12, 13, 14, 15, 16, 17, 18, 19, 20] rfl rfl dX10_ways_49 ?_
  intro _ _
  dsimp only [jpush]
  exact J.iret g hE u_40 (by rw [h_40 kc (by omega) gg hg, jws_congr 12 (fun j h1 h2 => h_40 j h2 gg hg)]) trivial rfl ⟨Nat.le_of_ble_eq_true rfl, Nat.le_of_ble_eq_true rfl⟩ dX10_ways_52
set_option maxHeartbeats 4000000 in
set_option maxRecDepth 100000 in
theorem c_X10_ways_no (l : Launch) (γ : jγ) (ns tp rd gr rw tr oo pa iq sr sgn pp mu : Nat) (dsd : Int32) (rwe n : Nat) (f : Nat → Nat) (mk ag cd pt od ex : Nat) (mf af : Nat → Nat) (k w : Int32) (hn : n ≤ 12) (ho : od ≤ 24) (hw : jhas k od = false ∨ jhas w (n + 1) = false) : jM (S := Unit) l γ yX10_ways cX10_ways 3 (some .int) ({ frames := 4, cells := 0, slots := 0, locals := 93 } : Room) [.ref ns, .int k, .int w] [(ns, .inr (10, [.ref tp, .ref rd, .ref gr, .ref rw, .ref tr, .ref oo, .ref pa, .ref iq, .ref sr, .ref sgn, .ref pp, .ref mu, .int dsd])), (rw, .inr (6, [.ref rwe, .int (nI n)])), (rwe, .inl (γ.2 0, 12, .inl (fun j => nI (f j)))), (gr, .inr (0, [.ref mk, .ref ag, .int (nI cd), .int (nI pt), .int (nI od), .int (nI ex)])), (mk, .inl (γ.2 1, 576, .inl (fun j => nI (mf j)))), (ag, .inl (γ.2 1, 24, .inl (fun j => nI (af j))))] (fun w0 => some (.int (-1))) (fun w0 => [(ns, .inr (10, [.ref tp, .ref rd, .ref gr, .ref rw, .ref tr, .ref oo, .ref pa, .ref iq, .ref sr, .ref sgn, .ref pp, .ref mu, .int dsd])), (rw, .inr (6, [.ref rwe, .int (nI n)])), (rwe, .inl (γ.2 0, 12, .inl (fun j => nI (f j)))), (gr, .inr (0, [.ref mk, .ref ag, .int (nI cd), .int (nI pt), .int (nI od), .int (nI ex)])), (mk, .inl (γ.2 1, 576, .inl (fun j => nI (mf j)))), (ag, .inl (γ.2 1, 24, .inl (fun j => nI (af j))))]) (fun w0 => True) := by
  refine jM.of [some (.ref ns), some (.int k), some (.int w)] rfl (Nat.le_of_ble_eq_true rfl) (by decide) ?_
  intro x g hE hin
  refine J.aload_n g dX10_ways_0 rfl rfl ?_
  refine J.get g jX10 2 (by decide) lf_X10_26 0 rfl rfl dX10_ways_1 ?_
  refine J.iload_n g dX10_ways_4 rfl rfl ?_
  refine J.callV0 g (c_X0_has l γ _ _ _ _ _ _ _ _ _ _ ho) jy_X0_has lm_X10_156 (q0 := 3) rfl jX0.1 ⟨⟨Nat.le_of_ble_eq_true rfl, Nat.le_of_ble_eq_true rfl⟩, Nat.le_of_ble_eq_true rfl, Nat.le_of_ble_eq_true rfl⟩ (Nat.le_of_ble_eq_true rfl) rfl [3, 4, 5] rfl rfl dX10_ways_5 ?_
  intro _ _
  dsimp only [jpush]
  refine J.if_eqB g dX10_ways_8 (tgt := 26) (by decide) (fun c_8 => ?_) (fun c_8 => ?_)
  · refine J.iconst (v := -1) g dX10_ways_26 (by decide) ?_
    exact J.iret g hE () rfl trivial rfl ⟨Nat.le_of_ble_eq_true rfl, Nat.le_of_ble_eq_true rfl⟩ dX10_ways_27
  · refine J.iload_n g dX10_ways_11 rfl rfl ?_
    refine J.if_lt g dX10_ways_12 (tgt := 26) (by decide) (fun c_12 => ?_) (fun c_12 => ?_)
    · refine J.iconst (v := -1) g dX10_ways_26 (by decide) ?_
      exact J.iret g hE () rfl trivial rfl ⟨Nat.le_of_ble_eq_true rfl, Nat.le_of_ble_eq_true rfl⟩ dX10_ways_27
    · refine J.iload_n g dX10_ways_15 rfl rfl ?_
      refine J.aload_n g dX10_ways_16 rfl rfl ?_
      refine J.get g jX10 3 (by decide) lf_X10_33 0 rfl rfl dX10_ways_17 ?_
      refine J.callV0 g (c_X6_length l γ _ _ _ _ ) jy_X6_length lm_X10_144 (q0 := 1) rfl jX6.1 ⟨⟨Nat.le_of_ble_eq_true rfl, Nat.le_of_ble_eq_true rfl⟩, Nat.le_of_ble_eq_true rfl, Nat.le_of_ble_eq_true rfl⟩ (Nat.le_of_ble_eq_true rfl) rfl [1, 2] rfl rfl dX10_ways_20 ?_
      intro _ _
      dsimp only [jpush]
      refine J.icmp_le g dX10_ways_23 (tgt := 28) (by decide) (fun c_23 => absurd c_23 (fun z => hw.elim (fun h => by simp [h] at c_8) (fun h => by rw [jhas_le2 (by omega) c_12 z] at h; cases h))) (fun c_23 => ?_)
      refine J.iconst (v := -1) g dX10_ways_26 (by decide) ?_
      exact J.iret g hE () rfl trivial rfl ⟨Nat.le_of_ble_eq_true rfl, Nat.le_of_ble_eq_true rfl⟩ dX10_ways_27
set_option maxHeartbeats 4000000 in
set_option maxRecDepth 100000 in
theorem c_X10_exactly_yes (l : Launch) (γ : jγ) (ns tp rd gr rw tr oo pa iq sr sgn pp mu : Nat) (dsd : Int32) (rwe n : Nat) (f : Nat → Nat) (mk ag cd pt od ex : Nat) (mf af : Nat → Nat) (mq wq pn : Nat) (ad : Nat → Nat) (M : Nat → Nat → Nat) (gg kc : Nat) (hn : n ≤ 12) (hT : jtab od mf af) (hf : ∀ j, j < n → f j < 24) (hI : ∀ a, a < od → ∀ c, c < od → jpl od mf (jpl od mf c a) (jop od af a) = c) (hfo : ∀ j, j < n → f j < od) (hg : gg < od) (hk : 1 ≤ kc ∧ kc ≤ n) : jM (S := Nat → Nat → Nat) l γ yX10_exactly cX10_exactly 3 (some .int) ({ frames := 4, cells := 0, slots := 0, locals := 91 } : Room) [.ref ns, .int (nI gg), .int (nI kc)] ([(ns, .inr (10, [.ref tp, .ref rd, .ref gr, .ref rw, .ref tr, .ref oo, .ref pa, .ref iq, .ref sr, .ref sgn, .ref pp, .ref mu, .int dsd])), (sr, .inr (8, [.ref mq, .ref wq, .int (nI pn)])), (mq, .inl (γ.2 4, 13, .inr (.inr (.inr (.inr (fun i => some (ad i))))))), (rw, .inr (6, [.ref rwe, .int (nI n)])), (rwe, .inl (γ.2 0, 12, .inl (fun j => nI (f j)))), (gr, .inr (0, [.ref mk, .ref ag, .int (nI cd), .int (nI pt), .int (nI od), .int (nI ex)])), (mk, .inl (γ.2 1, 576, .inl (fun j => nI (mf j)))), (ag, .inl (γ.2 1, 24, .inl (fun j => nI (af j))))] ++ jrows γ ad 13 13 M) (fun u => some (.int (if (msub od mf f n kc).testBit gg = true then nI (jls od mf af f (msub od mf f) n gg kc 0) else -1))) (fun u => ([(ns, .inr (10, [.ref tp, .ref rd, .ref gr, .ref rw, .ref tr, .ref oo, .ref pa, .ref iq, .ref sr, .ref sgn, .ref pp, .ref mu, .int dsd])), (sr, .inr (8, [.ref mq, .ref wq, .int (nI n)])), (mq, .inl (γ.2 4, 13, .inr (.inr (.inr (.inr (fun i => some (ad i))))))), (rw, .inr (6, [.ref rwe, .int (nI n)])), (rwe, .inl (γ.2 0, 12, .inl (fun j => nI (f j)))), (gr, .inr (0, [.ref mk, .ref ag, .int (nI cd), .int (nI pt), .int (nI od), .int (nI ex)])), (mk, .inl (γ.2 1, 576, .inl (fun j => nI (mf j)))), (ag, .inl (γ.2 1, 24, .inl (fun j => nI (af j))))] ++ jrows γ ad 13 13 u)) (fun u => True) := by
  refine jM.of [some (.ref ns), some (.int (nI gg)), some (.int (nI kc))] rfl (Nat.le_of_ble_eq_true rfl) (by decide) ?_
  intro x g hE hin
  have hT1 := hT.1
  refine J.aload_n g dX10_exactly_0 rfl rfl ?_
  refine J.get g jX10 2 (by decide) lf_X10_26 0 rfl rfl dX10_exactly_1 ?_
  refine J.iload_n g dX10_exactly_4 rfl rfl ?_
  refine J.callV0 g (c_X0_has l γ _ _ _ _ _ _ _ _ _ _ hT.1) jy_X0_has lm_X10_156 (q0 := 5) rfl jX0.1 ⟨⟨Nat.le_of_ble_eq_true rfl, Nat.le_of_ble_eq_true rfl⟩, Nat.le_of_ble_eq_true rfl, Nat.le_of_ble_eq_true rfl⟩ (Nat.le_of_ble_eq_true rfl) rfl [5, 6, 7] rfl rfl dX10_exactly_5 ?_
  intro _ _
  dsimp only [jpush]
  refine J.if_eqB g dX10_exactly_8 (tgt := 27) (by decide) (fun c_8 => absurd c_8 (by rw [jhas_n od (by omega), decide_eq_true hg] at c_8; cases c_8)) (fun c_8 => ?_)
  refine J.iload_n g dX10_exactly_11 rfl rfl ?_
  refine J.iconstN g 1 dX10_exactly_12 ?_
  refine J.icmp_ltN g dX10_exactly_13 (tgt := 27) (by decide) (by omega) (by omega) (fun c_13 => absurd c_13 (by omega)) (fun c_13 => ?_)
  refine J.iload_n g dX10_exactly_16 rfl rfl ?_
  refine J.aload_n g dX10_exactly_17 rfl rfl ?_
  refine J.get g jX10 3 (by decide) lf_X10_33 0 rfl rfl dX10_exactly_18 ?_
  refine J.callV0 g (c_X6_length l γ _ _ _ _ ) jy_X6_length lm_X10_144 (q0 := 3) rfl jX6.1 ⟨⟨Nat.le_of_ble_eq_true rfl, Nat.le_of_ble_eq_true rfl⟩, Nat.le_of_ble_eq_true rfl, Nat.le_of_ble_eq_true rfl⟩ (Nat.le_of_ble_eq_true rfl) rfl [3, 4] rfl rfl dX10_exactly_21 ?_
  intro _ _
  dsimp only [jpush]
  refine J.icmp_leN g dX10_exactly_24 (tgt := 29) (by decide) (by omega) (by omega) (fun c_24 => ?_) (fun c_24 => absurd c_24 (by omega))
  refine J.aload_n g dX10_exactly_29 rfl rfl ?_
  refine J.get g jX10 8 (by decide) lf_X10_60 0 rfl rfl dX10_exactly_30 ?_
  refine J.aload_n g dX10_exactly_33 rfl rfl ?_
  refine J.get g jX10 2 (by decide) lf_X10_26 0 rfl rfl dX10_exactly_34 ?_
  refine J.aload_n g dX10_exactly_37 rfl rfl ?_
  refine J.get g jX10 3 (by decide) lf_X10_33 0 rfl rfl dX10_exactly_38 ?_
  refine J.callV g (c_X8_study l γ _ _ _ _ _ _ _ _ _ _ _ _ _ _ _ _ _ _ _ hn hf hT) jy_X8_study lm_X10_177 (q0 := 1) rfl jX8.1 ⟨⟨Nat.le_of_ble_eq_true rfl, Nat.le_of_ble_eq_true rfl⟩, Nat.le_of_ble_eq_true rfl, Nat.le_of_ble_eq_true rfl⟩ (Nat.le_of_ble_eq_true rfl) rfl [1, 2, 3, 4, 5, 6, 7, 8, 9, 10, 11, 12, 13, 14, 15, 16, 17, 18, 19, 20] rfl (fun _ => rfl) rfl dX10_exactly_41 ?_
  intro u_41 h_41
  refine J.eqws (jput_pool (b := 8) (is1 := [1, 2, 3, 4, 5, 6, 7]) rfl rfl (by decide)) ?_
  dsimp only [jput, List.set_cons_zero, List.set_cons_succ, Option.toList, List.append, List.cons_append, List.nil_append, List.append_nil]
  refine J.aload_n g dX10_exactly_44 rfl rfl ?_
  refine J.get g jX10 8 (by decide) lf_X10_60 0 rfl rfl dX10_exactly_45 ?_
  refine J.iload_n g dX10_exactly_48 rfl rfl ?_
  refine J.iload_n g dX10_exactly_49 rfl rfl ?_
  refine J.callV0 g (c_X8_canMake l γ _ _ _ _ _ _ _ _ hn (by omega) (by omega) (by rw [h_41 n (Nat.le_refl _) kc (by omega)]; exact msub_lt hT _ _)) jy_X8_canMake lm_X10_197 (q0 := 1) rfl jX8.1 ⟨⟨Nat.le_of_ble_eq_true rfl, Nat.le_of_ble_eq_true rfl⟩, Nat.le_of_ble_eq_true rfl, Nat.le_of_ble_eq_true rfl⟩ (Nat.le_of_ble_eq_true rfl) rfl [1, 2, 8, 9, 10, 11, 12, 13, 14, 15, 16, 17, 18, 19, 20] rfl rfl dX10_exactly_50 ?_
  intro _ _
  dsimp only [jpush]
  have hmm := h_41 n (Nat.le_refl _) kc (by omega)
  refine J.if_eqB g dX10_exactly_53 (tgt := 76) (by decide) (fun c_53 => ?_) (fun c_53 => ?_)
  · have hmb : ¬ (msub od mf f n kc).testBit gg = true := by rw [← hmm, c_53]; decide
    refine J.iconst (v := -1) g dX10_exactly_76 (by decide) ?_
    exact J.iret g hE u_41 (by first | rw [if_pos hmb, jls_congr n gg kc 0 (by omega) (fun i hi k hk => h_41 i hi k hk)] | rw [if_neg hmb]) trivial rfl ⟨Nat.le_of_ble_eq_true rfl, Nat.le_of_ble_eq_true rfl⟩ dX10_exactly_77
  · have hmb : (msub od mf f n kc).testBit gg = true := by rw [← hmm]; exact c_53
    refine J.aload_n g dX10_exactly_56 rfl rfl ?_
    refine J.get g jX10 8 (by decide) lf_X10_60 0 rfl rfl dX10_exactly_57 ?_
    refine J.aload_n g dX10_exactly_60 rfl rfl ?_
    refine J.get g jX10 2 (by decide) lf_X10_26 0 rfl rfl dX10_exactly_61 ?_
    refine J.aload_n g dX10_exactly_64 rfl rfl ?_
    refine J.get g jX10 3 (by decide) lf_X10_33 0 rfl rfl dX10_exactly_65 ?_
    refine J.iload_n g dX10_exactly_68 rfl rfl ?_
    refine J.iload_n g dX10_exactly_69 rfl rfl ?_
    refine J.callV0 g (c_X8_leastSet l γ _ _ _ _ _ _ _ _ _ _ _ _ _ _ _ _ _ _ _ _ _ hn hf hT rfl (fun i hi k hk => by rw [h_41 i hi k hk]; exact msub_lt hT _ _) (by omega) (by omega) c_53 (fun p l c hp hc hl h1 h2 => by rw [h_41 _ (by omega) _ hc] at h1 h2; rw [h_41 _ (by omega) _ (by omega)]; exact msub_bit hT hI (hfo p hp) h1 h2)) jy_X8_leastSet lm_X10_187 (q0 := 1) rfl jX8.1 ⟨⟨Nat.le_of_ble_eq_true rfl, Nat.le_of_ble_eq_true rfl⟩, Nat.le_of_ble_eq_true rfl, Nat.le_of_ble_eq_true rfl⟩ (Nat.le_of_ble_eq_true rfl) rfl [1, 2, 3, 4, 5, 6, 7, 8, 9, 10, 11, 12, 13, 14, 15, 16, 17, 18, 19, 20] rfl rfl dX10_exactly_70 ?_
    intro _ _
    dsimp only [jpush]
    refine J.goto g dX10_exactly_73 (tgt := 77) (by decide) ?_
    exact J.iret g hE u_41 (by first | rw [if_pos hmb, jls_congr n gg kc 0 (by omega) (fun i hi k hk => h_41 i hi k hk)] | rw [if_neg hmb]) trivial rfl ⟨Nat.le_of_ble_eq_true rfl, Nat.le_of_ble_eq_true rfl⟩ dX10_exactly_77
set_option maxHeartbeats 4000000 in
set_option maxRecDepth 100000 in
theorem c_X10_exactly_no (l : Launch) (γ : jγ) (ns tp rd gr rw tr oo pa iq sr sgn pp mu : Nat) (dsd : Int32) (rwe n : Nat) (f : Nat → Nat) (mk ag cd pt od ex : Nat) (mf af : Nat → Nat) (k w : Int32) (hn : n ≤ 12) (ho : od ≤ 24) (hw : jhas k od = false ∨ w < nI 1 ∨ jhas w (n + 1) = false) : jM (S := Unit) l γ yX10_exactly cX10_exactly 3 (some .int) ({ frames := 4, cells := 0, slots := 0, locals := 91 } : Room) [.ref ns, .int k, .int w] [(ns, .inr (10, [.ref tp, .ref rd, .ref gr, .ref rw, .ref tr, .ref oo, .ref pa, .ref iq, .ref sr, .ref sgn, .ref pp, .ref mu, .int dsd])), (rw, .inr (6, [.ref rwe, .int (nI n)])), (rwe, .inl (γ.2 0, 12, .inl (fun j => nI (f j)))), (gr, .inr (0, [.ref mk, .ref ag, .int (nI cd), .int (nI pt), .int (nI od), .int (nI ex)])), (mk, .inl (γ.2 1, 576, .inl (fun j => nI (mf j)))), (ag, .inl (γ.2 1, 24, .inl (fun j => nI (af j))))] (fun w0 => some (.int (-1))) (fun w0 => [(ns, .inr (10, [.ref tp, .ref rd, .ref gr, .ref rw, .ref tr, .ref oo, .ref pa, .ref iq, .ref sr, .ref sgn, .ref pp, .ref mu, .int dsd])), (rw, .inr (6, [.ref rwe, .int (nI n)])), (rwe, .inl (γ.2 0, 12, .inl (fun j => nI (f j)))), (gr, .inr (0, [.ref mk, .ref ag, .int (nI cd), .int (nI pt), .int (nI od), .int (nI ex)])), (mk, .inl (γ.2 1, 576, .inl (fun j => nI (mf j)))), (ag, .inl (γ.2 1, 24, .inl (fun j => nI (af j))))]) (fun w0 => True) := by
  refine jM.of [some (.ref ns), some (.int k), some (.int w)] rfl (Nat.le_of_ble_eq_true rfl) (by decide) ?_
  intro x g hE hin
  refine J.aload_n g dX10_exactly_0 rfl rfl ?_
  refine J.get g jX10 2 (by decide) lf_X10_26 0 rfl rfl dX10_exactly_1 ?_
  refine J.iload_n g dX10_exactly_4 rfl rfl ?_
  refine J.callV0 g (c_X0_has l γ _ _ _ _ _ _ _ _ _ _ ho) jy_X0_has lm_X10_156 (q0 := 3) rfl jX0.1 ⟨⟨Nat.le_of_ble_eq_true rfl, Nat.le_of_ble_eq_true rfl⟩, Nat.le_of_ble_eq_true rfl, Nat.le_of_ble_eq_true rfl⟩ (Nat.le_of_ble_eq_true rfl) rfl [3, 4, 5] rfl rfl dX10_exactly_5 ?_
  intro _ _
  dsimp only [jpush]
  refine J.if_eqB g dX10_exactly_8 (tgt := 27) (by decide) (fun c_8 => ?_) (fun c_8 => ?_)
  · refine J.iconst (v := -1) g dX10_exactly_27 (by decide) ?_
    exact J.iret g hE () rfl trivial rfl ⟨Nat.le_of_ble_eq_true rfl, Nat.le_of_ble_eq_true rfl⟩ dX10_exactly_28
  · refine J.iload_n g dX10_exactly_11 rfl rfl ?_
    refine J.iconstN g 1 dX10_exactly_12 ?_
    refine J.icmp_lt g dX10_exactly_13 (tgt := 27) (by decide) (fun c_13 => ?_) (fun c_13 => ?_)
    · refine J.iconst (v := -1) g dX10_exactly_27 (by decide) ?_
      exact J.iret g hE () rfl trivial rfl ⟨Nat.le_of_ble_eq_true rfl, Nat.le_of_ble_eq_true rfl⟩ dX10_exactly_28
    · refine J.iload_n g dX10_exactly_16 rfl rfl ?_
      refine J.aload_n g dX10_exactly_17 rfl rfl ?_
      refine J.get g jX10 3 (by decide) lf_X10_33 0 rfl rfl dX10_exactly_18 ?_
      refine J.callV0 g (c_X6_length l γ _ _ _ _ ) jy_X6_length lm_X10_144 (q0 := 1) rfl jX6.1 ⟨⟨Nat.le_of_ble_eq_true rfl, Nat.le_of_ble_eq_true rfl⟩, Nat.le_of_ble_eq_true rfl, Nat.le_of_ble_eq_true rfl⟩ (Nat.le_of_ble_eq_true rfl) rfl [1, 2] rfl rfl dX10_exactly_21 ?_
      intro _ _
      dsimp only [jpush]
      refine J.icmp_le g dX10_exactly_24 (tgt := 29) (by decide) (fun c_24 => absurd c_24 (fun z => hw.elim (fun h => by simp [h] at c_8) (fun h => h.elim c_13 (fun h => by rw [jhas_le2 (by omega) (jn1_nn c_13) z] at h; cases h)))) (fun c_24 => ?_)
      refine J.iconst (v := -1) g dX10_exactly_27 (by decide) ?_
      exact J.iret g hE () rfl trivial rfl ⟨Nat.le_of_ble_eq_true rfl, Nat.le_of_ble_eq_true rfl⟩ dX10_exactly_28
set_option maxHeartbeats 4000000 in
set_option maxRecDepth 100000 in
theorem c_X10_free_yes (l : Launch) (γ : jγ) (ns tp rd gr rw tr oo pa iq sr sgn pp mu : Nat) (dsd : Int32) (rwe n : Nat) (f : Nat → Nat) (mk ag cd pt od ex : Nat) (mf af : Nat → Nat) (mq wq pn : Nat) (ad : Nat → Nat) (M : Nat → Nat → Nat) (k : Nat) (hn : n ≤ 12) (hT : jtab od mf af) (hf : ∀ j, j < n → f j < 24) (hk : k < 3) : jM (S := Nat → Nat → Nat) l γ yX10_free cX10_free 3 (some .int) ({ frames := 5, cells := 0, slots := 0, locals := 109 } : Room) [.ref ns, .int (nI k)] ([(ns, .inr (10, [.ref tp, .ref rd, .ref gr, .ref rw, .ref tr, .ref oo, .ref pa, .ref iq, .ref sr, .ref sgn, .ref pp, .ref mu, .int dsd])), (sr, .inr (8, [.ref mq, .ref wq, .int (nI pn)])), (mq, .inl (γ.2 4, 13, .inr (.inr (.inr (.inr (fun i => some (ad i))))))), (rw, .inr (6, [.ref rwe, .int (nI n)])), (rwe, .inl (γ.2 0, 12, .inl (fun j => nI (f j)))), (gr, .inr (0, [.ref mk, .ref ag, .int (nI cd), .int (nI pt), .int (nI od), .int (nI ex)])), (mk, .inl (γ.2 1, 576, .inl (fun j => nI (mf j)))), (ag, .inl (γ.2 1, 24, .inl (fun j => nI (af j))))] ++ jrows γ ad 13 13 M) (fun u => some (.int (nI (jfree od mf af f n k)))) (fun u => ([(ns, .inr (10, [.ref tp, .ref rd, .ref gr, .ref rw, .ref tr, .ref oo, .ref pa, .ref iq, .ref sr, .ref sgn, .ref pp, .ref mu, .int dsd])), (sr, .inr (8, [.ref mq, .ref wq, .int (nI n)])), (mq, .inl (γ.2 4, 13, .inr (.inr (.inr (.inr (fun i => some (ad i))))))), (rw, .inr (6, [.ref rwe, .int (nI n)])), (rwe, .inl (γ.2 0, 12, .inl (fun j => nI (f j)))), (gr, .inr (0, [.ref mk, .ref ag, .int (nI cd), .int (nI pt), .int (nI od), .int (nI ex)])), (mk, .inl (γ.2 1, 576, .inl (fun j => nI (mf j)))), (ag, .inl (γ.2 1, 24, .inl (fun j => nI (af j))))] ++ jrows γ ad 13 13 u)) (fun u => True) := by
  refine jM.of [some (.ref ns), some (.int (nI k)), none] rfl (Nat.le_of_ble_eq_true rfl) (by decide) ?_
  intro x g hE hin
  have hT1 := hT.1
  refine J.iload_n g dX10_free_0 rfl rfl ?_
  refine J.if_ltN g dX10_free_1 (tgt := 9) (by decide) (by omega) ?_
  refine J.iload_n g dX10_free_4 rfl rfl ?_
  refine J.iconstN g 2 dX10_free_5 ?_
  refine J.icmp_leN g dX10_free_6 (tgt := 11) (by decide) (by omega) (by omega) (fun c_6 => ?_) (fun c_6 => absurd c_6 (by omega))
  refine J.aload_n g dX10_free_11 rfl rfl ?_
  refine J.get g jX10 8 (by decide) lf_X10_60 0 rfl rfl dX10_free_12 ?_
  refine J.aload_n g dX10_free_15 rfl rfl ?_
  refine J.get g jX10 2 (by decide) lf_X10_26 0 rfl rfl dX10_free_16 ?_
  refine J.aload_n g dX10_free_19 rfl rfl ?_
  refine J.get g jX10 3 (by decide) lf_X10_33 0 rfl rfl dX10_free_20 ?_
  refine J.callV g (c_X8_study l γ _ _ _ _ _ _ _ _ _ _ _ _ _ _ _ _ _ _ _ hn hf hT) jy_X8_study lm_X10_177 (q0 := 1) rfl jX8.1 ⟨⟨Nat.le_of_ble_eq_true rfl, Nat.le_of_ble_eq_true rfl⟩, Nat.le_of_ble_eq_true rfl, Nat.le_of_ble_eq_true rfl⟩ (Nat.le_of_ble_eq_true rfl) rfl [1, 2, 3, 4, 5, 6, 7, 8, 9, 10, 11, 12, 13, 14, 15, 16, 17, 18, 19, 20] rfl (fun _ => rfl) rfl dX10_free_23 ?_
  intro u_23 h_23
  refine J.eqws (jput_pool (b := 8) (is1 := [1, 2, 3, 4, 5, 6, 7]) rfl rfl (by decide)) ?_
  dsimp only [jput, List.set_cons_zero, List.set_cons_succ, Option.toList, List.append, List.cons_append, List.nil_append, List.append_nil]
  have hjo : jors (u_23 n) n = jors (msub od mf f n) n := jors_congr n (fun j h1 h2 => h_23 n (Nat.le_refl _) j (by omega))
  have hjl : jhl u_23 n = jhl (msub od mf f) n := jhl_congr (fun j h1 h2 => h_23 n (Nat.le_refl _) j (by omega))
  refine J.iload_n g dX10_free_26 rfl rfl ?_
  refine J.iconstN g 1 dX10_free_27 ?_
  refine J.icmp_neN g dX10_free_28 (tgt := 54) (by decide) (by omega) (by omega) (fun c_28 => ?_) (fun c_28 => ?_)
  · refine J.aload_n g dX10_free_54 rfl rfl ?_
    refine J.get g jX10 8 (by decide) lf_X10_60 0 rfl rfl dX10_free_55 ?_
    refine J.callV0 g (c_X8_hasNought l γ _ _ _ _ _ _ hn (fun k hk => by rw [h_23 n (Nat.le_refl _) k hk]; exact msub_lt hT _ _)) jy_X8_hasNought lm_X10_209 (q0 := 1) rfl jX8.1 ⟨⟨Nat.le_of_ble_eq_true rfl, Nat.le_of_ble_eq_true rfl⟩, Nat.le_of_ble_eq_true rfl, Nat.le_of_ble_eq_true rfl⟩ (Nat.le_of_ble_eq_true rfl) rfl [1, 2, 8, 9, 10, 11, 12, 13, 14, 15, 16, 17, 18, 19, 20] rfl rfl dX10_free_58 ?_
    intro _ _
    dsimp only [jpush]
    refine J.if_neB g dX10_free_61 (tgt := 68) (by decide) (fun c_61 => ?_) (fun c_61 => ?_)
    · have hz : (jors (msub od mf f n) n).testBit 0 = true := by rw [← hjo]; exact c_61
      refine J.iconstN g 0 dX10_free_68 ?_
      refine J.istore_n g dX10_free_69 rfl rfl rfl ?_
      try dsimp only [List.set_cons_zero, List.set_cons_succ]
      refine J.iload_n g dX10_free_70 rfl rfl ?_
      refine J.if_neN g dX10_free_71 (tgt := 84) (by decide) (by omega) (fun c_71 => ?_) (fun c_71 => ?_)
      · refine J.iload_n g dX10_free_84 rfl rfl ?_
        refine J.if_eqN g dX10_free_85 (tgt := 105) (by decide) (by omega) (fun c_85 => ?_) (fun c_85 => absurd c_85 (by omega))
        refine J.iconstN g 0 dX10_free_105 ?_
        exact J.iret g hE u_23 (by first | exact congrArg (fun z => some (Value.int (nI z))) (jfree_t c_28 hz) | (rw [hjo]; exact congrArg (fun z => some (Value.int (nI z))) (jfree_2 c_28 hz c_71))) trivial rfl ⟨Nat.le_of_ble_eq_true rfl, Nat.le_of_ble_eq_true rfl⟩ dX10_free_106
      · refine J.iload_n g dX10_free_74 rfl rfl ?_
        refine J.if_eqN g dX10_free_75 (tgt := 82) (by decide) (by omega) (fun c_75 => ?_) (fun c_75 => absurd c_75 (by omega))
        refine J.iconstN g 0 dX10_free_82 ?_
        exact J.iret g hE u_23 (by first | exact congrArg (fun z => some (Value.int (nI z))) (jfree_t c_28 hz) | exact congrArg (fun z => some (Value.int (nI z))) (jfree_0 c_28 hz c_71)) trivial rfl ⟨Nat.le_of_ble_eq_true rfl, Nat.le_of_ble_eq_true rfl⟩ dX10_free_83
    · have hz : (jors (msub od mf f n) n).testBit 0 = false := by rw [← hjo]; exact c_61
      refine J.iconstN g 1 dX10_free_64 ?_
      refine J.goto g dX10_free_65 (tgt := 69) (by decide) ?_
      refine J.istore_n g dX10_free_69 rfl rfl rfl ?_
      try dsimp only [List.set_cons_zero, List.set_cons_succ]
      refine J.iload_n g dX10_free_70 rfl rfl ?_
      refine J.if_neN g dX10_free_71 (tgt := 84) (by decide) (by omega) (fun c_71 => ?_) (fun c_71 => ?_)
      · refine J.iload_n g dX10_free_84 rfl rfl ?_
        refine J.if_eqN g dX10_free_85 (tgt := 105) (by decide) (by omega) (fun c_85 => absurd c_85 (by omega)) (fun c_85 => ?_)
        refine J.aload_n g dX10_free_88 rfl rfl ?_
        refine J.get g jX10 2 (by decide) lf_X10_26 0 rfl rfl dX10_free_89 ?_
        refine J.aload_n g dX10_free_92 rfl rfl ?_
        refine J.get g jX10 8 (by decide) lf_X10_60 0 rfl rfl dX10_free_93 ?_
        refine J.callV0 g (c_X8_allSums l γ _ _ _ _ _ _ hn (fun k hk => by rw [h_23 n (Nat.le_refl _) k hk]; exact msub_lt hT _ _)) jy_X8_allSums lm_X10_181 (q0 := 1) rfl jX8.1 ⟨⟨Nat.le_of_ble_eq_true rfl, Nat.le_of_ble_eq_true rfl⟩, Nat.le_of_ble_eq_true rfl, Nat.le_of_ble_eq_true rfl⟩ (Nat.le_of_ble_eq_true rfl) rfl [1, 2, 8, 9, 10, 11, 12, 13, 14, 15, 16, 17, 18, 19, 20] rfl rfl dX10_free_96 ?_
        intro _ _
        dsimp only [jpush]
        refine J.callV0 g (c_X0_withoutOppositesOf l γ _ _ _ _ _ _ _ _ _ _ hT (by rw [hjo]; exact jors_lt n (fun j h1 h2 => msub_lt hT _ _))) jy_X0_withoutOppositesOf lm_X10_212 (q0 := 5) rfl jX0.1 ⟨⟨Nat.le_of_ble_eq_true rfl, Nat.le_of_ble_eq_true rfl⟩, Nat.le_of_ble_eq_true rfl, Nat.le_of_ble_eq_true rfl⟩ (Nat.le_of_ble_eq_true rfl) rfl [5, 6, 7] rfl rfl dX10_free_99 ?_
        intro _ _
        dsimp only [jpush]
        refine J.goto g dX10_free_102 (tgt := 106) (by decide) ?_
        exact J.iret g hE u_23 (by first | exact congrArg (fun z => some (Value.int (nI z))) (jfree_t c_28 hz) | (rw [hjo]; exact congrArg (fun z => some (Value.int (nI z))) (jfree_2 c_28 hz c_71))) trivial rfl ⟨Nat.le_of_ble_eq_true rfl, Nat.le_of_ble_eq_true rfl⟩ dX10_free_106
      · refine J.iload_n g dX10_free_74 rfl rfl ?_
        refine J.if_eqN g dX10_free_75 (tgt := 82) (by decide) (by omega) (fun c_75 => absurd c_75 (by omega)) (fun c_75 => ?_)
        refine J.iconstN g 1 dX10_free_78 ?_
        refine J.goto g dX10_free_79 (tgt := 83) (by decide) ?_
        exact J.iret g hE u_23 (by first | exact congrArg (fun z => some (Value.int (nI z))) (jfree_t c_28 hz) | exact congrArg (fun z => some (Value.int (nI z))) (jfree_0 c_28 hz c_71)) trivial rfl ⟨Nat.le_of_ble_eq_true rfl, Nat.le_of_ble_eq_true rfl⟩ dX10_free_83
  · refine J.aload_n g dX10_free_31 rfl rfl ?_
    refine J.callV0 g (c_X10_sumOfAll l γ _ _ _ _ _ _ _ _ _ _ _ _ _ _ _ _ _ _ _ _ _ _ _ _ _ hn hT hf) jy_X10_sumOfAll lm_X10_145 (q0 := 0) rfl jX10.1 ⟨⟨Nat.le_of_ble_eq_true rfl, Nat.le_of_ble_eq_true rfl⟩, Nat.le_of_ble_eq_true rfl, Nat.le_of_ble_eq_true rfl⟩ (Nat.le_of_ble_eq_true rfl) rfl [0, 3, 4, 5, 6, 7] rfl rfl dX10_free_32 ?_
    intro _ _
    dsimp only [jpush]
    refine J.if_ne g dX10_free_35 (tgt := 52) (by decide) (fun c_35 => ?_) (fun c_35 => ?_)
    · refine J.iconstN g 0 dX10_free_52 ?_
      exact J.iret g hE u_23 (by first | exact congrArg (fun z => some (Value.int (nI z))) (jfree_a c_28 c_35) | exact congrArg (fun z => some (Value.int (nI z))) (jfree_b c_28 hz) | exact congrArg (fun z => some (Value.int (nI z))) (jfree_c c_28 c_35 hz)) trivial rfl ⟨Nat.le_of_ble_eq_true rfl, Nat.le_of_ble_eq_true rfl⟩ dX10_free_53
    · refine J.aload_n g dX10_free_38 rfl rfl ?_
      refine J.get g jX10 8 (by decide) lf_X10_60 0 rfl rfl dX10_free_39 ?_
      refine J.callV0 g (c_X8_hasLesserNought l γ _ _ _ _ _ _ hn (fun k hk => by rw [h_23 n (Nat.le_refl _) k hk]; exact msub_lt hT _ _)) jy_X8_hasLesserNought lm_X10_205 (q0 := 1) rfl jX8.1 ⟨⟨Nat.le_of_ble_eq_true rfl, Nat.le_of_ble_eq_true rfl⟩, Nat.le_of_ble_eq_true rfl, Nat.le_of_ble_eq_true rfl⟩ (Nat.le_of_ble_eq_true rfl) rfl [1, 2, 8, 9, 10, 11, 12, 13, 14, 15, 16, 17, 18, 19, 20] rfl rfl dX10_free_42 ?_
      intro _ _
      dsimp only [jpush]
      refine J.if_neB g dX10_free_45 (tgt := 52) (by decide) (fun c_45 => ?_) (fun c_45 => ?_)
      · have hz : jhl (msub od mf f) n = true := by rw [← hjl]; exact c_45
        refine J.iconstN g 0 dX10_free_52 ?_
        exact J.iret g hE u_23 (by first | exact congrArg (fun z => some (Value.int (nI z))) (jfree_a c_28 c_35) | exact congrArg (fun z => some (Value.int (nI z))) (jfree_b c_28 hz) | exact congrArg (fun z => some (Value.int (nI z))) (jfree_c c_28 c_35 hz)) trivial rfl ⟨Nat.le_of_ble_eq_true rfl, Nat.le_of_ble_eq_true rfl⟩ dX10_free_53
      · have hz : jhl (msub od mf f) n = false := by rw [← hjl]; exact c_45
        refine J.iconstN g 1 dX10_free_48 ?_
        refine J.goto g dX10_free_49 (tgt := 53) (by decide) ?_
        exact J.iret g hE u_23 (by first | exact congrArg (fun z => some (Value.int (nI z))) (jfree_a c_28 c_35) | exact congrArg (fun z => some (Value.int (nI z))) (jfree_b c_28 hz) | exact congrArg (fun z => some (Value.int (nI z))) (jfree_c c_28 c_35 hz)) trivial rfl ⟨Nat.le_of_ble_eq_true rfl, Nat.le_of_ble_eq_true rfl⟩ dX10_free_53
set_option maxHeartbeats 4000000 in
set_option maxRecDepth 100000 in
theorem c_X10_free_no (l : Launch) (γ : jγ) (ns tp rd gr rw tr oo pa iq sr sgn pp mu : Nat) (dsd : Int32) (w : Int32) (hw : jhas w 3 = false) : jM (S := Unit) l γ yX10_free cX10_free 3 (some .int) ({ frames := 5, cells := 0, slots := 0, locals := 109 } : Room) [.ref ns, .int w] [(ns, .inr (10, [.ref tp, .ref rd, .ref gr, .ref rw, .ref tr, .ref oo, .ref pa, .ref iq, .ref sr, .ref sgn, .ref pp, .ref mu, .int dsd]))] (fun w0 => some (.int (-1))) (fun w0 => [(ns, .inr (10, [.ref tp, .ref rd, .ref gr, .ref rw, .ref tr, .ref oo, .ref pa, .ref iq, .ref sr, .ref sgn, .ref pp, .ref mu, .int dsd]))]) (fun w0 => True) := by
  refine jM.of [some (.ref ns), some (.int w), none] rfl (Nat.le_of_ble_eq_true rfl) (by decide) ?_
  intro x g hE hin
  refine J.iload_n g dX10_free_0 rfl rfl ?_
  refine J.if_lt g dX10_free_1 (tgt := 9) (by decide) (fun c_1 => ?_) (fun c_1 => ?_)
  · refine J.iconst (v := -1) g dX10_free_9 (by decide) ?_
    exact J.iret g hE () rfl trivial rfl ⟨Nat.le_of_ble_eq_true rfl, Nat.le_of_ble_eq_true rfl⟩ dX10_free_10
  · refine J.iload_n g dX10_free_4 rfl rfl ?_
    refine J.iconstN g 2 dX10_free_5 ?_
    refine J.icmp_le g dX10_free_6 (tgt := 11) (by decide) (fun c_6 => absurd c_6 (fun z => by rw [jhas_le2 (by omega) c_1 z] at hw; cases hw)) (fun c_6 => ?_)
    refine J.iconst (v := -1) g dX10_free_9 (by decide) ?_
    exact J.iret g hE () rfl trivial rfl ⟨Nat.le_of_ble_eq_true rfl, Nat.le_of_ble_eq_true rfl⟩ dX10_free_10
set_option maxHeartbeats 4000000 in
set_option maxRecDepth 100000 in
theorem c_X10_atoms_yes (l : Launch) (γ : jγ) (ns tp rd gr rw tr oo pa iq sr sgn pp mu : Nat) (dsd : Int32) (rwe n : Nat) (f : Nat → Nat) (mk ag cd pt od ex : Nat) (mf af : Nat → Nat) (b0 b1 b2 ra re sgc wh rn : Nat) (m0 m1 m2 rf : Nat → Nat) (w : Int32) (hn : n ≤ 12) (hT : jtab od mf af) (hf : ∀ j, j < n → f j < 24) (hG : gIs cd pt od ex mf af) (hsg : sgc < 2 ^ 15) (hP : jPB wh rn m0 m1 m2) (hPf : ∀ j, j < rn → rf j < 24) (hV : rn ≠ 0 → jPV sgc rn rf wh m0 m1 m2) (h0 : jsa od mf f n = 0) (hw : ¬ w < 0) (hw2 : w ≤ nI 1) : jM (S := (Nat → Nat) × (Nat → Nat) × (Nat → Nat) × (Nat → Nat)) l γ yX10_atoms cX10_atoms 2 (some .int) ({ frames := 5, cells := 0, slots := 0, locals := 112 } : Room) [.ref ns, .int w] [(ns, .inr (10, [.ref tp, .ref rd, .ref gr, .ref rw, .ref tr, .ref oo, .ref pa, .ref iq, .ref sr, .ref sgn, .ref pp, .ref mu, .int dsd])), (pp, .inr (3, [.ref b0, .ref b1, .ref b2, .ref ra, .int (nI sgc), .int (nI wh)])), (b0, .inl (γ.2 1, 4096, .inl (fun j => nI (m0 j)))), (b1, .inl (γ.2 1, 4096, .inl (fun j => nI (m1 j)))), (b2, .inl (γ.2 1, 4096, .inl (fun j => nI (m2 j)))), (ra, .inr (6, [.ref re, .int (nI rn)])), (re, .inl (γ.2 0, 12, .inl (fun j => nI (rf j)))), (gr, .inr (0, [.ref mk, .ref ag, .int (nI cd), .int (nI pt), .int (nI od), .int (nI ex)])), (mk, .inl (γ.2 1, 576, .inl (fun j => nI (mf j)))), (ag, .inl (γ.2 1, 24, .inl (fun j => nI (af j)))), (rw, .inr (6, [.ref rwe, .int (nI n)])), (rwe, .inl (γ.2 0, 12, .inl (fun j => nI (f j))))] (fun u => some (.int (if w = 0 then nI (u.2.2.2 0) else nI (u.2.2.1 (2 ^ n - 1))))) (fun u => [(ns, .inr (10, [.ref tp, .ref rd, .ref gr, .ref rw, .ref tr, .ref oo, .ref pa, .ref iq, .ref sr, .ref sgn, .ref pp, .ref mu, .int dsd])), (pp, .inr (3, [.ref b0, .ref b1, .ref b2, .ref ra, .int (nI cd), .int (nI (2 ^ n - 1))])), (b0, .inl (γ.2 1, 4096, .inl (fun j => nI (u.2.1 j)))), (b1, .inl (γ.2 1, 4096, .inl (fun j => nI (u.2.2.1 j)))), (b2, .inl (γ.2 1, 4096, .inl (fun j => nI (u.2.2.2 j)))), (ra, .inr (6, [.ref re, .int (nI n)])), (re, .inl (γ.2 0, 12, .inl (fun j => nI (u.1 j)))), (gr, .inr (0, [.ref mk, .ref ag, .int (nI cd), .int (nI pt), .int (nI od), .int (nI ex)])), (mk, .inl (γ.2 1, 576, .inl (fun j => nI (mf j)))), (ag, .inl (γ.2 1, 24, .inl (fun j => nI (af j)))), (rw, .inr (6, [.ref rwe, .int (nI n)])), (rwe, .inl (γ.2 0, 12, .inl (fun j => nI (f j))))]) (fun u => (∀ k, k < n → u.1 k = f k) ∧ jPB (2 ^ n - 1) n u.2.1 u.2.2.1 u.2.2.2 ∧ jPV cd n u.1 (2 ^ n - 1) u.2.1 u.2.2.1 u.2.2.2) := by
  refine jM.of [some (.ref ns), some (.int w)] rfl (Nat.le_of_ble_eq_true rfl) (by decide) ?_
  intro x g hE hin
  have hn1 := jsa_pos h0
  refine J.aload_n g dX10_atoms_0 rfl rfl ?_
  refine J.callV0 g (c_X10_sumOfAll l γ _ _ _ _ _ _ _ _ _ _ _ _ _ _ _ _ _ _ _ _ _ _ _ _ _ hn hT hf) jy_X10_sumOfAll lm_X10_145 (q0 := 0) rfl jX10.1 ⟨⟨Nat.le_of_ble_eq_true rfl, Nat.le_of_ble_eq_true rfl⟩, Nat.le_of_ble_eq_true rfl, Nat.le_of_ble_eq_true rfl⟩ (Nat.le_of_ble_eq_true rfl) rfl [0, 10, 11, 7, 8, 9] rfl rfl dX10_atoms_1 ?_
  intro _ _
  dsimp only [jpush]
  refine J.if_ne g dX10_atoms_4 (tgt := 16) (by decide) (fun c_4 => absurd h0 c_4) (fun c_4 => ?_)
  refine J.iload_n g dX10_atoms_7 rfl rfl ?_
  refine J.if_lt g dX10_atoms_8 (tgt := 16) (by decide) (fun c_8 => absurd c_8 hw) (fun c_8 => ?_)
  refine J.iload_n g dX10_atoms_11 rfl rfl ?_
  refine J.iconstN g 1 dX10_atoms_12 ?_
  refine J.icmp_le g dX10_atoms_13 (tgt := 18) (by decide) (fun c_13 => ?_) (fun c_13 => absurd c_13 (fun z => z hw2))
  refine J.aload_n g dX10_atoms_18 rfl rfl ?_
  refine J.get g jX10 10 (by decide) lf_X10_74 0 rfl rfl dX10_atoms_19 ?_
  refine J.aload_n g dX10_atoms_22 rfl rfl ?_
  refine J.get g jX10 2 (by decide) lf_X10_26 0 rfl rfl dX10_atoms_23 ?_
  refine J.aload_n g dX10_atoms_26 rfl rfl ?_
  refine J.get g jX10 3 (by decide) lf_X10_33 0 rfl rfl dX10_atoms_27 ?_
  refine J.callV g (c_X3_study l γ _ _ _ _ _ _ _ _ _ _ _ _ _ _ _ _ _ _ _ _ _ _ _ _ _ _ ⟨hn1, hn⟩ hf hG hsg hP hPf hV) jy_X3_study lm_X10_215 (q0 := 1) rfl jX3.1 ⟨⟨Nat.le_of_ble_eq_true rfl, Nat.le_of_ble_eq_true rfl⟩, Nat.le_of_ble_eq_true rfl, Nat.le_of_ble_eq_true rfl⟩ (Nat.le_of_ble_eq_true rfl) rfl [1, 2, 3, 4, 5, 6, 7, 8, 9, 10, 11] rfl (fun _ => rfl) rfl dX10_atoms_30 ?_
  intro u_30 h_30
  dsimp only [jput, List.set_cons_zero, List.set_cons_succ, Option.toList, List.append, List.cons_append, List.nil_append, List.append_nil]
  refine J.iload_n g dX10_atoms_33 rfl rfl ?_
  refine J.if_ne g dX10_atoms_34 (tgt := 47) (by decide) (fun c_34 => ?_) (fun c_34 => ?_)
  · refine J.aload_n g dX10_atoms_47 rfl rfl ?_
    refine J.get g jX10 10 (by decide) lf_X10_74 0 rfl rfl dX10_atoms_48 ?_
    refine J.callV0 g (c_X3_mostAtoms l γ _ _ _ _ _ _ _ _ _ _ _ _ _ (jpn_lt hn)) jy_X3_mostAtoms lm_X10_219 (q0 := 1) rfl jX3.1 ⟨⟨Nat.le_of_ble_eq_true rfl, Nat.le_of_ble_eq_true rfl⟩, Nat.le_of_ble_eq_true rfl, Nat.le_of_ble_eq_true rfl⟩ (Nat.le_of_ble_eq_true rfl) rfl [1, 2, 3, 4, 5, 6] rfl rfl dX10_atoms_51 ?_
    intro _ _
    dsimp only [jpush]
    exact J.iret g hE u_30 (by first | rw [if_pos c_34] | rw [if_neg c_34]) h_30 rfl ⟨Nat.le_of_ble_eq_true rfl, Nat.le_of_ble_eq_true rfl⟩ dX10_atoms_54
  · refine J.aload_n g dX10_atoms_37 rfl rfl ?_
    refine J.get g jX10 10 (by decide) lf_X10_74 0 rfl rfl dX10_atoms_38 ?_
    refine J.callV0 g (c_X3_fewestAtoms l γ _ _ _ _ _ _ _ _ _ _ _ _ _ ) jy_X3_fewestAtoms lm_X10_216 (q0 := 1) rfl jX3.1 ⟨⟨Nat.le_of_ble_eq_true rfl, Nat.le_of_ble_eq_true rfl⟩, Nat.le_of_ble_eq_true rfl, Nat.le_of_ble_eq_true rfl⟩ (Nat.le_of_ble_eq_true rfl) rfl [1, 2, 3, 4, 5, 6] rfl rfl dX10_atoms_41 ?_
    intro _ _
    dsimp only [jpush]
    refine J.goto g dX10_atoms_44 (tgt := 54) (by decide) ?_
    exact J.iret g hE u_30 (by first | rw [if_pos c_34] | rw [if_neg c_34]) h_30 rfl ⟨Nat.le_of_ble_eq_true rfl, Nat.le_of_ble_eq_true rfl⟩ dX10_atoms_54
set_option maxHeartbeats 4000000 in
set_option maxRecDepth 100000 in
theorem c_X10_atoms_no (l : Launch) (γ : jγ) (ns tp rd gr rw tr oo pa iq sr sgn pp mu : Nat) (dsd : Int32) (rwe n : Nat) (f : Nat → Nat) (mk ag cd pt od ex : Nat) (mf af : Nat → Nat) (w : Int32) (hn : n ≤ 12) (hT : jtab od mf af) (hf : ∀ j, j < n → f j < 24) (hw : ¬ jsa od mf f n = 0 ∨ w < 0 ∨ ¬ w ≤ nI 1) : jM (S := Unit) l γ yX10_atoms cX10_atoms 2 (some .int) ({ frames := 5, cells := 0, slots := 0, locals := 112 } : Room) [.ref ns, .int w] [(ns, .inr (10, [.ref tp, .ref rd, .ref gr, .ref rw, .ref tr, .ref oo, .ref pa, .ref iq, .ref sr, .ref sgn, .ref pp, .ref mu, .int dsd])), (gr, .inr (0, [.ref mk, .ref ag, .int (nI cd), .int (nI pt), .int (nI od), .int (nI ex)])), (mk, .inl (γ.2 1, 576, .inl (fun j => nI (mf j)))), (ag, .inl (γ.2 1, 24, .inl (fun j => nI (af j)))), (rw, .inr (6, [.ref rwe, .int (nI n)])), (rwe, .inl (γ.2 0, 12, .inl (fun j => nI (f j))))] (fun w0 => some (.int (-1))) (fun w0 => [(ns, .inr (10, [.ref tp, .ref rd, .ref gr, .ref rw, .ref tr, .ref oo, .ref pa, .ref iq, .ref sr, .ref sgn, .ref pp, .ref mu, .int dsd])), (gr, .inr (0, [.ref mk, .ref ag, .int (nI cd), .int (nI pt), .int (nI od), .int (nI ex)])), (mk, .inl (γ.2 1, 576, .inl (fun j => nI (mf j)))), (ag, .inl (γ.2 1, 24, .inl (fun j => nI (af j)))), (rw, .inr (6, [.ref rwe, .int (nI n)])), (rwe, .inl (γ.2 0, 12, .inl (fun j => nI (f j))))]) (fun w0 => True) := by
  refine jM.of [some (.ref ns), some (.int w)] rfl (Nat.le_of_ble_eq_true rfl) (by decide) ?_
  intro x g hE hin
  refine J.aload_n g dX10_atoms_0 rfl rfl ?_
  refine J.callV0 g (c_X10_sumOfAll l γ _ _ _ _ _ _ _ _ _ _ _ _ _ _ _ _ _ _ _ _ _ _ _ _ _ hn hT hf) jy_X10_sumOfAll lm_X10_145 (q0 := 0) rfl jX10.1 ⟨⟨Nat.le_of_ble_eq_true rfl, Nat.le_of_ble_eq_true rfl⟩, Nat.le_of_ble_eq_true rfl, Nat.le_of_ble_eq_true rfl⟩ (Nat.le_of_ble_eq_true rfl) rfl [0, 4, 5, 1, 2, 3] rfl rfl dX10_atoms_1 ?_
  intro _ _
  dsimp only [jpush]
  refine J.if_ne g dX10_atoms_4 (tgt := 16) (by decide) (fun c_4 => ?_) (fun c_4 => ?_)
  · refine J.iconst (v := -1) g dX10_atoms_16 (by decide) ?_
    exact J.iret g hE () rfl trivial rfl ⟨Nat.le_of_ble_eq_true rfl, Nat.le_of_ble_eq_true rfl⟩ dX10_atoms_17
  · refine J.iload_n g dX10_atoms_7 rfl rfl ?_
    refine J.if_lt g dX10_atoms_8 (tgt := 16) (by decide) (fun c_8 => ?_) (fun c_8 => ?_)
    · refine J.iconst (v := -1) g dX10_atoms_16 (by decide) ?_
      exact J.iret g hE () rfl trivial rfl ⟨Nat.le_of_ble_eq_true rfl, Nat.le_of_ble_eq_true rfl⟩ dX10_atoms_17
    · refine J.iload_n g dX10_atoms_11 rfl rfl ?_
      refine J.iconstN g 1 dX10_atoms_12 ?_
      refine J.icmp_le g dX10_atoms_13 (tgt := 18) (by decide) (fun c_13 => absurd c_13 (fun z => hw.elim (fun h => h c_4) (fun h => h.elim c_8 (fun h => h z)))) (fun c_13 => ?_)
      refine J.iconst (v := -1) g dX10_atoms_16 (by decide) ?_
      exact J.iret g hE () rfl trivial rfl ⟨Nat.le_of_ble_eq_true rfl, Nat.le_of_ble_eq_true rfl⟩ dX10_atoms_17
set_option maxHeartbeats 4000000 in
set_option maxRecDepth 100000 in
theorem c_X10_atom_yes (l : Launch) (γ : jγ) (ns tp rd gr rw tr oo pa iq sr sgn pp mu : Nat) (dsd : Int32) (rwe n : Nat) (f : Nat → Nat) (mk ag cd pt od ex : Nat) (mf af : Nat → Nat) (b0 b1 b2 ra re sgc wh rn : Nat) (m0 m1 m2 rf : Nat → Nat) (k : Nat) (hn : n ≤ 12) (hT : jtab od mf af) (hf : ∀ j, j < n → f j < 24) (hG : gIs cd pt od ex mf af) (hsg : sgc < 2 ^ 15) (hP : jPB wh rn m0 m1 m2) (hPf : ∀ j, j < rn → rf j < 24) (hV : rn ≠ 0 → jPV sgc rn rf wh m0 m1 m2) (h0 : jsa od mf f n = 0) (hk : k < 2 ^ 31) : jM (S := (Nat → Nat) × (Nat → Nat) × (Nat → Nat) × (Nat → Nat)) l γ yX10_atom cX10_atom 2 (some .int) ({ frames := 5, cells := 0, slots := 0, locals := 112 } : Room) [.ref ns, .int (nI k)] [(ns, .inr (10, [.ref tp, .ref rd, .ref gr, .ref rw, .ref tr, .ref oo, .ref pa, .ref iq, .ref sr, .ref sgn, .ref pp, .ref mu, .int dsd])), (pp, .inr (3, [.ref b0, .ref b1, .ref b2, .ref ra, .int (nI sgc), .int (nI wh)])), (b0, .inl (γ.2 1, 4096, .inl (fun j => nI (m0 j)))), (b1, .inl (γ.2 1, 4096, .inl (fun j => nI (m1 j)))), (b2, .inl (γ.2 1, 4096, .inl (fun j => nI (m2 j)))), (ra, .inr (6, [.ref re, .int (nI rn)])), (re, .inl (γ.2 0, 12, .inl (fun j => nI (rf j)))), (gr, .inr (0, [.ref mk, .ref ag, .int (nI cd), .int (nI pt), .int (nI od), .int (nI ex)])), (mk, .inl (γ.2 1, 576, .inl (fun j => nI (mf j)))), (ag, .inl (γ.2 1, 24, .inl (fun j => nI (af j)))), (rw, .inr (6, [.ref rwe, .int (nI n)])), (rwe, .inl (γ.2 0, 12, .inl (fun j => nI (f j))))] (fun u => some (.int (if k < u.2.2.1 (2 ^ n - 1) then jam u.2.1 u.2.2.1 (2 ^ n - 1) k else -1))) (fun u => [(ns, .inr (10, [.ref tp, .ref rd, .ref gr, .ref rw, .ref tr, .ref oo, .ref pa, .ref iq, .ref sr, .ref sgn, .ref pp, .ref mu, .int dsd])), (pp, .inr (3, [.ref b0, .ref b1, .ref b2, .ref ra, .int (nI cd), .int (nI (2 ^ n - 1))])), (b0, .inl (γ.2 1, 4096, .inl (fun j => nI (u.2.1 j)))), (b1, .inl (γ.2 1, 4096, .inl (fun j => nI (u.2.2.1 j)))), (b2, .inl (γ.2 1, 4096, .inl (fun j => nI (u.2.2.2 j)))), (ra, .inr (6, [.ref re, .int (nI n)])), (re, .inl (γ.2 0, 12, .inl (fun j => nI (u.1 j)))), (gr, .inr (0, [.ref mk, .ref ag, .int (nI cd), .int (nI pt), .int (nI od), .int (nI ex)])), (mk, .inl (γ.2 1, 576, .inl (fun j => nI (mf j)))), (ag, .inl (γ.2 1, 24, .inl (fun j => nI (af j)))), (rw, .inr (6, [.ref rwe, .int (nI n)])), (rwe, .inl (γ.2 0, 12, .inl (fun j => nI (f j))))]) (fun u => (∀ k, k < n → u.1 k = f k) ∧ jPB (2 ^ n - 1) n u.2.1 u.2.2.1 u.2.2.2 ∧ jPV cd n u.1 (2 ^ n - 1) u.2.1 u.2.2.1 u.2.2.2) := by
  refine jM.of [some (.ref ns), some (.int (nI k))] rfl (Nat.le_of_ble_eq_true rfl) (by decide) ?_
  intro x g hE hin
  have hn1 := jsa_pos h0
  refine J.aload_n g dX10_atom_0 rfl rfl ?_
  refine J.callV0 g (c_X10_sumOfAll l γ _ _ _ _ _ _ _ _ _ _ _ _ _ _ _ _ _ _ _ _ _ _ _ _ _ hn hT hf) jy_X10_sumOfAll lm_X10_145 (q0 := 0) rfl jX10.1 ⟨⟨Nat.le_of_ble_eq_true rfl, Nat.le_of_ble_eq_true rfl⟩, Nat.le_of_ble_eq_true rfl, Nat.le_of_ble_eq_true rfl⟩ (Nat.le_of_ble_eq_true rfl) rfl [0, 10, 11, 7, 8, 9] rfl rfl dX10_atom_1 ?_
  intro _ _
  dsimp only [jpush]
  refine J.if_ne g dX10_atom_4 (tgt := 11) (by decide) (fun c_4 => absurd h0 c_4) (fun c_4 => ?_)
  refine J.iload_n g dX10_atom_7 rfl rfl ?_
  refine J.if_geN g dX10_atom_8 (tgt := 13) (by decide) (by omega) ?_
  refine J.aload_n g dX10_atom_13 rfl rfl ?_
  refine J.get g jX10 10 (by decide) lf_X10_74 0 rfl rfl dX10_atom_14 ?_
  refine J.aload_n g dX10_atom_17 rfl rfl ?_
  refine J.get g jX10 2 (by decide) lf_X10_26 0 rfl rfl dX10_atom_18 ?_
  refine J.aload_n g dX10_atom_21 rfl rfl ?_
  refine J.get g jX10 3 (by decide) lf_X10_33 0 rfl rfl dX10_atom_22 ?_
  refine J.callV g (c_X3_study l γ _ _ _ _ _ _ _ _ _ _ _ _ _ _ _ _ _ _ _ _ _ _ _ _ _ _ ⟨hn1, hn⟩ hf hG hsg hP hPf hV) jy_X3_study lm_X10_215 (q0 := 1) rfl jX3.1 ⟨⟨Nat.le_of_ble_eq_true rfl, Nat.le_of_ble_eq_true rfl⟩, Nat.le_of_ble_eq_true rfl, Nat.le_of_ble_eq_true rfl⟩ (Nat.le_of_ble_eq_true rfl) rfl [1, 2, 3, 4, 5, 6, 7, 8, 9, 10, 11] rfl (fun _ => rfl) rfl dX10_atom_25 ?_
  intro u_25 h_25
  dsimp only [jput, List.set_cons_zero, List.set_cons_succ, Option.toList, List.append, List.cons_append, List.nil_append, List.append_nil]
  have hml := (h_25.2.1.2.2.2.1 (2 ^ n - 1)).2
  refine J.iload_n g dX10_atom_28 rfl rfl ?_
  refine J.aload_n g dX10_atom_29 rfl rfl ?_
  refine J.get g jX10 10 (by decide) lf_X10_74 0 rfl rfl dX10_atom_30 ?_
  refine J.callV0 g (c_X3_mostAtoms l γ _ _ _ _ _ _ _ _ _ _ _ _ _ (jpn_lt hn)) jy_X3_mostAtoms lm_X10_219 (q0 := 1) rfl jX3.1 ⟨⟨Nat.le_of_ble_eq_true rfl, Nat.le_of_ble_eq_true rfl⟩, Nat.le_of_ble_eq_true rfl, Nat.le_of_ble_eq_true rfl⟩ (Nat.le_of_ble_eq_true rfl) rfl [1, 2, 3, 4, 5, 6] rfl rfl dX10_atom_33 ?_
  intro _ _
  dsimp only [jpush]
  refine J.icmp_geN g dX10_atom_36 (tgt := 50) (by decide) (by omega) (by omega) (fun c_36 => ?_) (fun c_36 => ?_)
  · refine J.iconst (v := -1) g dX10_atom_50 (by decide) ?_
    exact J.iret g hE u_25 (by first | rw [if_pos (by omega)] | rw [if_neg (by omega)]) h_25 rfl ⟨Nat.le_of_ble_eq_true rfl, Nat.le_of_ble_eq_true rfl⟩ dX10_atom_51
  · refine J.aload_n g dX10_atom_39 rfl rfl ?_
    refine J.get g jX10 10 (by decide) lf_X10_74 0 rfl rfl dX10_atom_40 ?_
    refine J.iload_n g dX10_atom_43 rfl rfl ?_
    refine J.callV0 g (c_X3_atomOfMost l γ _ _ _ _ _ _ _ _ _ _ _ _ _ _ (jpn_lt hn) (by omega) h_25.2.1.2.2.2.1) jy_X3_atomOfMost lm_X10_222 (q0 := 1) rfl jX3.1 ⟨⟨Nat.le_of_ble_eq_true rfl, Nat.le_of_ble_eq_true rfl⟩, Nat.le_of_ble_eq_true rfl, Nat.le_of_ble_eq_true rfl⟩ (Nat.le_of_ble_eq_true rfl) rfl [1, 2, 3, 4, 5, 6] rfl rfl dX10_atom_44 ?_
    intro _ _
    dsimp only [jpush]
    refine J.goto g dX10_atom_47 (tgt := 51) (by decide) ?_
    exact J.iret g hE u_25 (by first | rw [if_pos (by omega)] | rw [if_neg (by omega)]) h_25 rfl ⟨Nat.le_of_ble_eq_true rfl, Nat.le_of_ble_eq_true rfl⟩ dX10_atom_51
set_option maxHeartbeats 4000000 in
set_option maxRecDepth 100000 in
theorem c_X10_atom_no (l : Launch) (γ : jγ) (ns tp rd gr rw tr oo pa iq sr sgn pp mu : Nat) (dsd : Int32) (rwe n : Nat) (f : Nat → Nat) (mk ag cd pt od ex : Nat) (mf af : Nat → Nat) (w : Int32) (hn : n ≤ 12) (hT : jtab od mf af) (hf : ∀ j, j < n → f j < 24) (hw : ¬ jsa od mf f n = 0 ∨ w < 0) : jM (S := Unit) l γ yX10_atom cX10_atom 2 (some .int) ({ frames := 5, cells := 0, slots := 0, locals := 112 } : Room) [.ref ns, .int w] [(ns, .inr (10, [.ref tp, .ref rd, .ref gr, .ref rw, .ref tr, .ref oo, .ref pa, .ref iq, .ref sr, .ref sgn, .ref pp, .ref mu, .int dsd])), (gr, .inr (0, [.ref mk, .ref ag, .int (nI cd), .int (nI pt), .int (nI od), .int (nI ex)])), (mk, .inl (γ.2 1, 576, .inl (fun j => nI (mf j)))), (ag, .inl (γ.2 1, 24, .inl (fun j => nI (af j)))), (rw, .inr (6, [.ref rwe, .int (nI n)])), (rwe, .inl (γ.2 0, 12, .inl (fun j => nI (f j))))] (fun w0 => some (.int (-1))) (fun w0 => [(ns, .inr (10, [.ref tp, .ref rd, .ref gr, .ref rw, .ref tr, .ref oo, .ref pa, .ref iq, .ref sr, .ref sgn, .ref pp, .ref mu, .int dsd])), (gr, .inr (0, [.ref mk, .ref ag, .int (nI cd), .int (nI pt), .int (nI od), .int (nI ex)])), (mk, .inl (γ.2 1, 576, .inl (fun j => nI (mf j)))), (ag, .inl (γ.2 1, 24, .inl (fun j => nI (af j)))), (rw, .inr (6, [.ref rwe, .int (nI n)])), (rwe, .inl (γ.2 0, 12, .inl (fun j => nI (f j))))]) (fun w0 => True) := by
  refine jM.of [some (.ref ns), some (.int w)] rfl (Nat.le_of_ble_eq_true rfl) (by decide) ?_
  intro x g hE hin
  refine J.aload_n g dX10_atom_0 rfl rfl ?_
  refine J.callV0 g (c_X10_sumOfAll l γ _ _ _ _ _ _ _ _ _ _ _ _ _ _ _ _ _ _ _ _ _ _ _ _ _ hn hT hf) jy_X10_sumOfAll lm_X10_145 (q0 := 0) rfl jX10.1 ⟨⟨Nat.le_of_ble_eq_true rfl, Nat.le_of_ble_eq_true rfl⟩, Nat.le_of_ble_eq_true rfl, Nat.le_of_ble_eq_true rfl⟩ (Nat.le_of_ble_eq_true rfl) rfl [0, 4, 5, 1, 2, 3] rfl rfl dX10_atom_1 ?_
  intro _ _
  dsimp only [jpush]
  refine J.if_ne g dX10_atom_4 (tgt := 11) (by decide) (fun c_4 => ?_) (fun c_4 => ?_)
  · refine J.iconst (v := -1) g dX10_atom_11 (by decide) ?_
    exact J.iret g hE () rfl trivial rfl ⟨Nat.le_of_ble_eq_true rfl, Nat.le_of_ble_eq_true rfl⟩ dX10_atom_12
  · refine J.iload_n g dX10_atom_7 rfl rfl ?_
    refine J.if_ge g dX10_atom_8 (tgt := 13) (by decide) (fun c_8 => absurd c_8 (fun z => hw.elim (fun h => h c_4) (fun h => by rw [Int32.le_iff_toInt_le, Int32.toInt_zero] at z; have := j_lt0 h; omega))) (fun c_8 => ?_)
    refine J.iconst (v := -1) g dX10_atom_11 (by decide) ?_
    exact J.iret g hE () rfl trivial rfl ⟨Nat.le_of_ble_eq_true rfl, Nat.le_of_ble_eq_true rfl⟩ dX10_atom_12
set_option maxHeartbeats 4000000 in
set_option maxRecDepth 100000 in
theorem c_X10_signed_yes (l : Launch) (γ : jγ) (ns tp rd gr rw tr oo pa iq sr sgn pp mu : Nat) (dsd : Int32) (rwe n : Nat) (f : Nat → Nat) (mk ag cd pt od ex : Nat) (mf af : Nat → Nat) (c0 c1 c2 c3 : Nat) (C C1 Y Z : Nat → Nat) (gg : Nat) (hn : n ≤ 12) (hT : jtab od mf af) (hf : ∀ j, j < n → f j < 24) (hg : gg < od) : jM (S := (Nat → Nat) × (Nat → Nat)) l γ yX10_signed cX10_signed 2 (some .int) ({ frames := 4, cells := 0, slots := 0, locals := 93 } : Room) [.ref ns, .int (nI gg)] [(ns, .inr (10, [.ref tp, .ref rd, .ref gr, .ref rw, .ref tr, .ref oo, .ref pa, .ref iq, .ref sr, .ref sgn, .ref pp, .ref mu, .int dsd])), (sgn, .inr (7, [.ref c0, .ref c1, .ref c2, .ref c3])), (c0, .inl (γ.2 0, 24, .inl (fun j => nI (C j)))), (c1, .inl (γ.2 0, 24, .inl (fun j => nI (C1 j)))), (c2, .inl (γ.2 0, 13, .inl (fun j => nI (Y j)))), (c3, .inl (γ.2 0, 13, .inl (fun j => nI (Z j)))), (rw, .inr (6, [.ref rwe, .int (nI n)])), (rwe, .inl (γ.2 0, 12, .inl (fun j => nI (f j)))), (gr, .inr (0, [.ref mk, .ref ag, .int (nI cd), .int (nI pt), .int (nI od), .int (nI ex)])), (mk, .inl (γ.2 1, 576, .inl (fun j => nI (mf j)))), (ag, .inl (γ.2 1, 24, .inl (fun j => nI (af j))))] (fun u => some (.int (if gg = 0 then nI (jcsub od mf af f n gg) - nI 1 else nI (jcsub od mf af f n gg)))) (fun u => [(ns, .inr (10, [.ref tp, .ref rd, .ref gr, .ref rw, .ref tr, .ref oo, .ref pa, .ref iq, .ref sr, .ref sgn, .ref pp, .ref mu, .int dsd])), (sgn, .inr (7, [.ref c0, .ref c1, .ref c2, .ref c3])), (c0, .inl (γ.2 0, 24, .inl (fun j => nI (u.1 j)))), (c1, .inl (γ.2 0, 24, .inl (fun j => nI (u.2 j)))), (c2, .inl (γ.2 0, 13, .inl (fun j => nI (Y j)))), (c3, .inl (γ.2 0, 13, .inl (fun j => nI (Z j)))), (rw, .inr (6, [.ref rwe, .int (nI n)])), (rwe, .inl (γ.2 0, 12, .inl (fun j => nI (f j)))), (gr, .inr (0, [.ref mk, .ref ag, .int (nI cd), .int (nI pt), .int (nI od), .int (nI ex)])), (mk, .inl (γ.2 1, 576, .inl (fun j => nI (mf j)))), (ag, .inl (γ.2 1, 24, .inl (fun j => nI (af j))))]) (fun u => True) := by
  refine jM.of [some (.ref ns), some (.int (nI gg))] rfl (Nat.le_of_ble_eq_true rfl) (by decide) ?_
  intro x g hE hin
  have hT1 := hT.1
  refine J.aload_n g dX10_signed_0 rfl rfl ?_
  refine J.get g jX10 2 (by decide) lf_X10_26 0 rfl rfl dX10_signed_1 ?_
  refine J.iload_n g dX10_signed_4 rfl rfl ?_
  refine J.callV0 g (c_X0_has l γ _ _ _ _ _ _ _ _ _ _ hT.1) jy_X0_has lm_X10_156 (q0 := 8) rfl jX0.1 ⟨⟨Nat.le_of_ble_eq_true rfl, Nat.le_of_ble_eq_true rfl⟩, Nat.le_of_ble_eq_true rfl, Nat.le_of_ble_eq_true rfl⟩ (Nat.le_of_ble_eq_true rfl) rfl [8, 9, 10] rfl rfl dX10_signed_5 ?_
  intro _ _
  dsimp only [jpush]
  refine J.if_eqB g dX10_signed_8 (tgt := 30) (by decide) (fun c_8 => absurd c_8 (by rw [jhas_n od (by omega), decide_eq_true hg] at c_8; cases c_8)) (fun c_8 => ?_)
  refine J.aload_n g dX10_signed_11 rfl rfl ?_
  refine J.get g jX10 9 (by decide) lf_X10_67 0 rfl rfl dX10_signed_12 ?_
  refine J.aload_n g dX10_signed_15 rfl rfl ?_
  refine J.get g jX10 2 (by decide) lf_X10_26 0 rfl rfl dX10_signed_16 ?_
  refine J.aload_n g dX10_signed_19 rfl rfl ?_
  refine J.get g jX10 3 (by decide) lf_X10_33 0 rfl rfl dX10_signed_20 ?_
  refine J.iload_n g dX10_signed_23 rfl rfl ?_
  refine J.callV g (c_X7_countRows l γ _ _ _ _ _ _ _ _ _ _ _ _ _ _ _ _ _ _ _ _ _ _ _ hn hf hT (by omega)) jy_X7_countRows lm_X10_225 (q0 := 1) rfl jX7.1 ⟨⟨Nat.le_of_ble_eq_true rfl, Nat.le_of_ble_eq_true rfl⟩, Nat.le_of_ble_eq_true rfl, Nat.le_of_ble_eq_true rfl⟩ (Nat.le_of_ble_eq_true rfl) rfl [1, 2, 3, 4, 5, 6, 7, 8, 9, 10] rfl (fun _ => rfl) rfl dX10_signed_24 ?_
  intro u_24 h_24
  dsimp only [jput, List.set_cons_zero, List.set_cons_succ, Option.toList, List.append, List.cons_append, List.nil_append, List.append_nil]
  refine J.goto g dX10_signed_27 (tgt := 31) (by decide) ?_
  exact J.iret g hE u_24 rfl trivial rfl ⟨Nat.le_of_ble_eq_true rfl, Nat.le_of_ble_eq_true rfl⟩ dX10_signed_31
set_option maxHeartbeats 4000000 in
set_option maxRecDepth 100000 in
theorem c_X10_signed_no (l : Launch) (γ : jγ) (ns tp rd gr rw tr oo pa iq sr sgn pp mu : Nat) (dsd : Int32) (mk ag cd pt od ex : Nat) (mf af : Nat → Nat) (w : Int32) (ho : od ≤ 24) (hw : jhas w od = false) : jM (S := Unit) l γ yX10_signed cX10_signed 2 (some .int) ({ frames := 4, cells := 0, slots := 0, locals := 93 } : Room) [.ref ns, .int w] [(ns, .inr (10, [.ref tp, .ref rd, .ref gr, .ref rw, .ref tr, .ref oo, .ref pa, .ref iq, .ref sr, .ref sgn, .ref pp, .ref mu, .int dsd])), (gr, .inr (0, [.ref mk, .ref ag, .int (nI cd), .int (nI pt), .int (nI od), .int (nI ex)])), (mk, .inl (γ.2 1, 576, .inl (fun j => nI (mf j)))), (ag, .inl (γ.2 1, 24, .inl (fun j => nI (af j))))] (fun w0 => some (.int (-1))) (fun w0 => [(ns, .inr (10, [.ref tp, .ref rd, .ref gr, .ref rw, .ref tr, .ref oo, .ref pa, .ref iq, .ref sr, .ref sgn, .ref pp, .ref mu, .int dsd])), (gr, .inr (0, [.ref mk, .ref ag, .int (nI cd), .int (nI pt), .int (nI od), .int (nI ex)])), (mk, .inl (γ.2 1, 576, .inl (fun j => nI (mf j)))), (ag, .inl (γ.2 1, 24, .inl (fun j => nI (af j))))]) (fun w0 => True) := by
  refine jM.of [some (.ref ns), some (.int w)] rfl (Nat.le_of_ble_eq_true rfl) (by decide) ?_
  intro x g hE hin
  refine J.aload_n g dX10_signed_0 rfl rfl ?_
  refine J.get g jX10 2 (by decide) lf_X10_26 0 rfl rfl dX10_signed_1 ?_
  refine J.iload_n g dX10_signed_4 rfl rfl ?_
  refine J.callV0 g (c_X0_has l γ _ _ _ _ _ _ _ _ _ _ ho) jy_X0_has lm_X10_156 (q0 := 1) rfl jX0.1 ⟨⟨Nat.le_of_ble_eq_true rfl, Nat.le_of_ble_eq_true rfl⟩, Nat.le_of_ble_eq_true rfl, Nat.le_of_ble_eq_true rfl⟩ (Nat.le_of_ble_eq_true rfl) rfl [1, 2, 3] rfl rfl dX10_signed_5 ?_
  intro _ _
  dsimp only [jpush]
  refine J.if_eqB g dX10_signed_8 (tgt := 30) (by decide) (fun c_8 => ?_) (fun c_8 => absurd c_8 (by simp [hw] at c_8))
  refine J.iconst (v := -1) g dX10_signed_30 (by decide) ?_
  exact J.iret g hE () rfl trivial rfl ⟨Nat.le_of_ble_eq_true rfl, Nat.le_of_ble_eq_true rfl⟩ dX10_signed_31
set_option maxHeartbeats 4000000 in
set_option maxRecDepth 100000 in
theorem c_X10_sign_yes (l : Launch) (γ : jγ) (ns tp rd gr rw tr oo pa iq sr sgn pp mu : Nat) (dsd : Int32) (rwe n : Nat) (f : Nat → Nat) (mk ag cd pt od ex : Nat) (mf af : Nat → Nat) (c0 c1 c2 c3 : Nat) (C C1 Y Z : Nat → Nat) (gg p : Nat) (hn : n ≤ 12) (hT : jtab od mf af) (hf : ∀ j, j < n → f j < 24) (hg : gg < od) (hp : p < n) : jM (S := (Nat → Nat) × (Nat → Nat)) l γ yX10_sign cX10_sign 3 (some .int) ({ frames := 5, cells := 0, slots := 0, locals := 121 } : Room) [.ref ns, .int (nI gg), .int (nI p)] [(ns, .inr (10, [.ref tp, .ref rd, .ref gr, .ref rw, .ref tr, .ref oo, .ref pa, .ref iq, .ref sr, .ref sgn, .ref pp, .ref mu, .int dsd])), (sgn, .inr (7, [.ref c0, .ref c1, .ref c2, .ref c3])), (c0, .inl (γ.2 0, 24, .inl (fun j => nI (C j)))), (c1, .inl (γ.2 0, 24, .inl (fun j => nI (C1 j)))), (c2, .inl (γ.2 0, 13, .inl (fun j => nI (Y j)))), (c3, .inl (γ.2 0, 13, .inl (fun j => nI (Z j)))), (rw, .inr (6, [.ref rwe, .int (nI n)])), (rwe, .inl (γ.2 0, 12, .inl (fun j => nI (f j)))), (gr, .inr (0, [.ref mk, .ref ag, .int (nI cd), .int (nI pt), .int (nI od), .int (nI ex)])), (mk, .inl (γ.2 1, 576, .inl (fun j => nI (mf j)))), (ag, .inl (γ.2 1, 24, .inl (fun j => nI (af j))))] (fun u => some (.int (if (jsome od mf af f n n).testBit gg then jsgn (jfr od mf af f n gg) (p + 1) else -1))) (fun u => [(ns, .inr (10, [.ref tp, .ref rd, .ref gr, .ref rw, .ref tr, .ref oo, .ref pa, .ref iq, .ref sr, .ref sgn, .ref pp, .ref mu, .int dsd])), (sgn, .inr (7, [.ref c0, .ref c1, .ref c2, .ref c3])), (c0, .inl (γ.2 0, 24, .inl (fun j => nI (C j)))), (c1, .inl (γ.2 0, 24, .inl (fun j => nI (C1 j)))), (c2, .inl (γ.2 0, 13, .inl (fun j => nI (u.1 j)))), (c3, .inl (γ.2 0, 13, .inl (fun j => nI (u.2 j)))), (rw, .inr (6, [.ref rwe, .int (nI n)])), (rwe, .inl (γ.2 0, 12, .inl (fun j => nI (f j)))), (gr, .inr (0, [.ref mk, .ref ag, .int (nI cd), .int (nI pt), .int (nI od), .int (nI ex)])), (mk, .inl (γ.2 1, 576, .inl (fun j => nI (mf j)))), (ag, .inl (γ.2 1, 24, .inl (fun j => nI (af j))))]) (fun u => True) := by
  refine jM.of [some (.ref ns), some (.int (nI gg)), some (.int (nI p))] rfl (Nat.le_of_ble_eq_true rfl) (by decide) ?_
  intro x g hE hin
  have hT1 := hT.1
  refine J.aload_n g dX10_sign_0 rfl rfl ?_
  refine J.get g jX10 2 (by decide) lf_X10_26 0 rfl rfl dX10_sign_1 ?_
  refine J.iload_n g dX10_sign_4 rfl rfl ?_
  refine J.callV0 g (c_X0_has l γ _ _ _ _ _ _ _ _ _ _ hT.1) jy_X0_has lm_X10_156 (q0 := 8) rfl jX0.1 ⟨⟨Nat.le_of_ble_eq_true rfl, Nat.le_of_ble_eq_true rfl⟩, Nat.le_of_ble_eq_true rfl, Nat.le_of_ble_eq_true rfl⟩ (Nat.le_of_ble_eq_true rfl) rfl [8, 9, 10] rfl rfl dX10_sign_5 ?_
  intro _ _
  dsimp only [jpush]
  refine J.if_eqB g dX10_sign_8 (tgt := 42) (by decide) (fun c_8 => absurd c_8 (by rw [jhas_n od (by omega), decide_eq_true hg] at c_8; cases c_8)) (fun c_8 => ?_)
  refine J.aload_n g dX10_sign_11 rfl rfl ?_
  refine J.get g jX10 3 (by decide) lf_X10_33 0 rfl rfl dX10_sign_12 ?_
  refine J.iload_n g dX10_sign_15 rfl rfl ?_
  refine J.callV0 g (c_X6_has_n l γ _ _ _ _ _ hn (by omega)) jy_X6_has lm_X10_229 (q0 := 6) rfl jX6.1 ⟨⟨Nat.le_of_ble_eq_true rfl, Nat.le_of_ble_eq_true rfl⟩, Nat.le_of_ble_eq_true rfl, Nat.le_of_ble_eq_true rfl⟩ (Nat.le_of_ble_eq_true rfl) rfl [6, 7] rfl rfl dX10_sign_16 ?_
  intro _ _
  dsimp only [jpush]
  refine J.if_eqB g dX10_sign_19 (tgt := 42) (by decide) (fun c_19 => absurd c_19 (by simp [hp] at c_19)) (fun c_19 => ?_)
  refine J.aload_n g dX10_sign_22 rfl rfl ?_
  refine J.get g jX10 9 (by decide) lf_X10_67 0 rfl rfl dX10_sign_23 ?_
  refine J.aload_n g dX10_sign_26 rfl rfl ?_
  refine J.get g jX10 2 (by decide) lf_X10_26 0 rfl rfl dX10_sign_27 ?_
  refine J.aload_n g dX10_sign_30 rfl rfl ?_
  refine J.get g jX10 3 (by decide) lf_X10_33 0 rfl rfl dX10_sign_31 ?_
  refine J.iload_n g dX10_sign_34 rfl rfl ?_
  refine J.iload_n g dX10_sign_35 rfl rfl ?_
  refine J.callV g (c_X7_firstRowAt l γ _ _ _ _ _ _ _ _ _ _ _ _ _ _ _ _ _ _ _ _ _ _ _ _ hn hf hT (by omega) hp) jy_X7_firstRowAt lm_X10_230 (q0 := 1) rfl jX7.1 ⟨⟨Nat.le_of_ble_eq_true rfl, Nat.le_of_ble_eq_true rfl⟩, Nat.le_of_ble_eq_true rfl, Nat.le_of_ble_eq_true rfl⟩ (Nat.le_of_ble_eq_true rfl) rfl [1, 2, 3, 4, 5, 6, 7, 8, 9, 10] rfl (fun _ => rfl) rfl dX10_sign_36 ?_
  intro u_36 h_36
  dsimp only [jput, List.set_cons_zero, List.set_cons_succ, Option.toList, List.append, List.cons_append, List.nil_append, List.append_nil]
  refine J.goto g dX10_sign_39 (tgt := 43) (by decide) ?_
  exact J.iret g hE u_36 rfl trivial rfl ⟨Nat.le_of_ble_eq_true rfl, Nat.le_of_ble_eq_true rfl⟩ dX10_sign_43
set_option maxHeartbeats 4000000 in
set_option maxRecDepth 100000 in
theorem c_X10_sign_no (l : Launch) (γ : jγ) (ns tp rd gr rw tr oo pa iq sr sgn pp mu : Nat) (dsd : Int32) (rwe n : Nat) (f : Nat → Nat) (mk ag cd pt od ex : Nat) (mf af : Nat → Nat) (k w : Int32) (hn : n ≤ 12) (ho : od ≤ 24) (hw : jhas k od = false ∨ jhas w n = false) : jM (S := Unit) l γ yX10_sign cX10_sign 3 (some .int) ({ frames := 5, cells := 0, slots := 0, locals := 121 } : Room) [.ref ns, .int k, .int w] [(ns, .inr (10, [.ref tp, .ref rd, .ref gr, .ref rw, .ref tr, .ref oo, .ref pa, .ref iq, .ref sr, .ref sgn, .ref pp, .ref mu, .int dsd])), (rw, .inr (6, [.ref rwe, .int (nI n)])), (rwe, .inl (γ.2 0, 12, .inl (fun j => nI (f j)))), (gr, .inr (0, [.ref mk, .ref ag, .int (nI cd), .int (nI pt), .int (nI od), .int (nI ex)])), (mk, .inl (γ.2 1, 576, .inl (fun j => nI (mf j)))), (ag, .inl (γ.2 1, 24, .inl (fun j => nI (af j))))] (fun w0 => some (.int (-1))) (fun w0 => [(ns, .inr (10, [.ref tp, .ref rd, .ref gr, .ref rw, .ref tr, .ref oo, .ref pa, .ref iq, .ref sr, .ref sgn, .ref pp, .ref mu, .int dsd])), (rw, .inr (6, [.ref rwe, .int (nI n)])), (rwe, .inl (γ.2 0, 12, .inl (fun j => nI (f j)))), (gr, .inr (0, [.ref mk, .ref ag, .int (nI cd), .int (nI pt), .int (nI od), .int (nI ex)])), (mk, .inl (γ.2 1, 576, .inl (fun j => nI (mf j)))), (ag, .inl (γ.2 1, 24, .inl (fun j => nI (af j))))]) (fun w0 => True) := by
  refine jM.of [some (.ref ns), some (.int k), some (.int w)] rfl (Nat.le_of_ble_eq_true rfl) (by decide) ?_
  intro x g hE hin
  refine J.aload_n g dX10_sign_0 rfl rfl ?_
  refine J.get g jX10 2 (by decide) lf_X10_26 0 rfl rfl dX10_sign_1 ?_
  refine J.iload_n g dX10_sign_4 rfl rfl ?_
  refine J.callV0 g (c_X0_has l γ _ _ _ _ _ _ _ _ _ _ ho) jy_X0_has lm_X10_156 (q0 := 3) rfl jX0.1 ⟨⟨Nat.le_of_ble_eq_true rfl, Nat.le_of_ble_eq_true rfl⟩, Nat.le_of_ble_eq_true rfl, Nat.le_of_ble_eq_true rfl⟩ (Nat.le_of_ble_eq_true rfl) rfl [3, 4, 5] rfl rfl dX10_sign_5 ?_
  intro _ _
  dsimp only [jpush]
  refine J.if_eqB g dX10_sign_8 (tgt := 42) (by decide) (fun c_8 => ?_) (fun c_8 => ?_)
  · refine J.iconst (v := -1) g dX10_sign_42 (by decide) ?_
    exact J.iret g hE () rfl trivial rfl ⟨Nat.le_of_ble_eq_true rfl, Nat.le_of_ble_eq_true rfl⟩ dX10_sign_43
  · refine J.aload_n g dX10_sign_11 rfl rfl ?_
    refine J.get g jX10 3 (by decide) lf_X10_33 0 rfl rfl dX10_sign_12 ?_
    refine J.iload_n g dX10_sign_15 rfl rfl ?_
    refine J.callV0 g (c_X6_has l γ _ _ _ _ _ hn) jy_X6_has lm_X10_229 (q0 := 1) rfl jX6.1 ⟨⟨Nat.le_of_ble_eq_true rfl, Nat.le_of_ble_eq_true rfl⟩, Nat.le_of_ble_eq_true rfl, Nat.le_of_ble_eq_true rfl⟩ (Nat.le_of_ble_eq_true rfl) rfl [1, 2] rfl rfl dX10_sign_16 ?_
    intro _ _
    dsimp only [jpush]
    refine J.if_eqB g dX10_sign_19 (tgt := 42) (by decide) (fun c_19 => ?_) (fun c_19 => absurd c_19 (by rcases hw with hw | hw <;> simp_all))
    refine J.iconst (v := -1) g dX10_sign_42 (by decide) ?_
    exact J.iret g hE () rfl trivial rfl ⟨Nat.le_of_ble_eq_true rfl, Nat.le_of_ble_eq_true rfl⟩ dX10_sign_43
