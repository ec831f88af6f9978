set_option maxHeartbeats 4000000 in
set_option maxRecDepth 100000 in
theorem c_X7_wantedBehind (l : Launch) (γ : jγ) (gr mk ag cd pt od ex : Nat) (mf af : Nat → Nat) (el w sn : Nat) (hT : jtab od mf af) (he : el < 24) (hw : w < 24) (hs : sn < 2 ^ 30) : jM (S := Unit) l γ yX7_wantedBehind cX7_wantedBehind 4 (some .int) ({ frames := 2, cells := 0, slots := 0, locals := 43 } : Room) [.ref gr, .int (nI el), .int (nI w), .int (nI sn)] [(gr, .inr (0, [.ref mk, .ref ag, .int (nI cd), .int (nI pt), .int (nI od), .int (nI ex)])), (mk, .inl (γ.2 1, 576, .inl (fun j => nI (mf j)))), (ag, .inl (γ.2 1, 24, .inl (fun j => nI (af j))))] (fun w0 => some (.int (nI (jwb od mf af el w sn)))) (fun w0 => [(gr, .inr (0, [.ref mk, .ref ag, .int (nI cd), .int (nI pt), .int (nI od), .int (nI ex)])), (mk, .inl (γ.2 1, 576, .inl (fun j => nI (mf j)))), (ag, .inl (γ.2 1, 24, .inl (fun j => nI (af j))))]) (fun w0 => True) := by
  refine jM.of [some (.ref gr), some (.int (nI el)), some (.int (nI w)), some (.int (nI sn))] rfl (Nat.le_of_ble_eq_true rfl) (by decide) ?_
  intro x g hE hin
  refine J.iload_n g dX7_wantedBehind_0 rfl rfl ?_
  refine J.iconstN g 1 dX7_wantedBehind_1 ?_
  refine J.icmp_neN g dX7_wantedBehind_2 (tgt := 16) (by decide) (by omega) (by omega) (fun c_2 => ?_) (fun c_2 => ?_)
  · refine J.iload_n g dX7_wantedBehind_16 rfl rfl ?_
    refine J.iconstN g 2 dX7_wantedBehind_17 ?_
    refine J.icmp_neN g dX7_wantedBehind_18 (tgt := 30) (by decide) (by omega) (by omega) (fun c_18 => ?_) (fun c_18 => ?_)
    · refine J.iload_n g dX7_wantedBehind_30 rfl rfl ?_
      exact J.iret g hE () (by first | exact jwb_2 c_2 c_18 | exact jwb_0 c_2 c_18) trivial rfl ⟨Nat.le_of_ble_eq_true rfl, Nat.le_of_ble_eq_true rfl⟩ dX7_wantedBehind_31
    · refine J.aload_n g dX7_wantedBehind_21 rfl rfl ?_
      refine J.iload_n g dX7_wantedBehind_22 rfl rfl ?_
      refine J.iload_n g dX7_wantedBehind_23 rfl rfl ?_
      refine J.callV0 g (c_X0_plus l γ _ _ _ _ _ _ _ _ _ _ _ hT (by omega) (by omega)) jy_X0_plus lm_X7_46 (q0 := 0) rfl jX0.1 ⟨⟨Nat.le_of_ble_eq_true rfl, Nat.le_of_ble_eq_true rfl⟩, Nat.le_of_ble_eq_true rfl, Nat.le_of_ble_eq_true rfl⟩ (Nat.le_of_ble_eq_true rfl) rfl [0, 1, 2] rfl rfl dX7_wantedBehind_24 ?_
      intro _ _
      dsimp only [jpush]
      refine J.goto g dX7_wantedBehind_27 (tgt := 31) (by decide) ?_
      exact J.iret g hE () (by first | exact jwb_2 c_2 c_18 | exact jwb_0 c_2 c_18) trivial rfl ⟨Nat.le_of_ble_eq_true rfl, Nat.le_of_ble_eq_true rfl⟩ dX7_wantedBehind_31
  · refine J.aload_n g dX7_wantedBehind_5 rfl rfl ?_
    refine J.iload_n g dX7_wantedBehind_6 rfl rfl ?_
    refine J.aload_n g dX7_wantedBehind_7 rfl rfl ?_
    refine J.iload_n g dX7_wantedBehind_8 rfl rfl ?_
    refine J.callV0 g (c_X0_opposite l γ _ _ _ _ _ _ _ _ _ _ hT (by omega)) jy_X0_opposite lm_X7_38 (q0 := 0) rfl jX0.1 ⟨⟨Nat.le_of_ble_eq_true rfl, Nat.le_of_ble_eq_true rfl⟩, Nat.le_of_ble_eq_true rfl, Nat.le_of_ble_eq_true rfl⟩ (Nat.le_of_ble_eq_true rfl) rfl [0, 1, 2] rfl rfl dX7_wantedBehind_9 ?_
    intro _ _
    dsimp only [jpush]
    refine J.callV0 g (c_X0_plus l γ _ _ _ _ _ _ _ _ _ _ _ hT (by omega) (by have := jop_24 hT el; omega)) jy_X0_plus lm_X7_46 (q0 := 0) rfl jX0.1 ⟨⟨Nat.le_of_ble_eq_true rfl, Nat.le_of_ble_eq_true rfl⟩, Nat.le_of_ble_eq_true rfl, Nat.le_of_ble_eq_true rfl⟩ (Nat.le_of_ble_eq_true rfl) rfl [0, 1, 2] rfl rfl dX7_wantedBehind_12 ?_
    intro _ _
    dsimp only [jpush]
    exact J.iret g hE () (by rw [jwb, if_pos c_2]) trivial rfl ⟨Nat.le_of_ble_eq_true rfl, Nat.le_of_ble_eq_true rfl⟩ dX7_wantedBehind_15
set_option maxHeartbeats 4000000 in
set_option maxRecDepth 100000 in
theorem c_X7_countPlace (l : Launch) (γ : jγ) (sg c0 c1 c2 c3 : Nat) (C C1 Y Z : Nat → Nat) (gr mk ag cd pt od ex : Nat) (mf af : Nat → Nat) (el : Nat) (hT : jtab od mf af) (he : el < 24) : jM (S := (Nat → Nat) × (Nat → Nat)) l γ yX7_countPlace cX7_countPlace 7 none ({ frames := 2, cells := 0, slots := 0, locals := 43 } : Room) [.ref sg, .ref gr, .int (nI el)] [(sg, .inr (7, [.ref c0, .ref c1, .ref c2, .ref c3])), (c0, .inl (γ.2 0, 24, .inl (fun j => nI (C j)))), (c1, .inl (γ.2 0, 24, .inl (fun j => nI (C1 j)))), (c2, .inl (γ.2 0, 13, .inl (fun j => nI (Y j)))), (c3, .inl (γ.2 0, 13, .inl (fun j => nI (Z j)))), (gr, .inr (0, [.ref mk, .ref ag, .int (nI cd), .int (nI pt), .int (nI od), .int (nI ex)])), (mk, .inl (γ.2 1, 576, .inl (fun j => nI (mf j)))), (ag, .inl (γ.2 1, 24, .inl (fun j => nI (af j))))] (fun u => none) (fun u => [(sg, .inr (7, [.ref c0, .ref c1, .ref c2, .ref c3])), (c0, .inl (γ.2 0, 24, .inl (fun j => nI (u.1 j)))), (c1, .inl (γ.2 0, 24, .inl (fun j => nI (u.2 j)))), (c2, .inl (γ.2 0, 13, .inl (fun j => nI (Y j)))), (c3, .inl (γ.2 0, 13, .inl (fun j => nI (Z j)))), (gr, .inr (0, [.ref mk, .ref ag, .int (nI cd), .int (nI pt), .int (nI od), .int (nI ex)])), (mk, .inl (γ.2 1, 576, .inl (fun j => nI (mf j)))), (ag, .inl (γ.2 1, 24, .inl (fun j => nI (af j))))]) (fun u => ∀ y, u.1 y = jcs od mf af el C y) := by
  refine jM.of [some (.ref sg), some (.ref gr), some (.int (nI el)), none, none, none, none] rfl (Nat.le_of_ble_eq_true rfl) (by decide) ?_
  intro x g hE hin
  have hT1 := hT.1
  refine J.iconstN g 0 dX7_countPlace_0 ?_
  refine J.istore_n g dX7_countPlace_1 rfl rfl rfl ?_
  try dsimp only [List.set_cons_zero, List.set_cons_succ]
  have lp : ∀ (d : Nat) (i : Nat) (C2 : Nat → Nat), 24 - i < d → (i ≤ 24) → (∀ y, y < i → C2 y = C y) → J γ l x [(sg, .inr (7, [.ref c0, .ref c1, .ref c2, .ref c3])), (c0, .inl (γ.2 0, 24, .inl (fun j => nI (C j)))), (c1, .inl (γ.2 0, 24, .inl (fun j => nI (C2 j)))), (c2, .inl (γ.2 0, 13, .inl (fun j => nI (Y j)))), (c3, .inl (γ.2 0, 13, .inl (fun j => nI (Z j)))), (gr, .inr (0, [.ref mk, .ref ag, .int (nI cd), .int (nI pt), .int (nI od), .int (nI ex)])), (mk, .inl (γ.2 1, 576, .inl (fun j => nI (mf j)))), (ag, .inl (γ.2 1, 24, .inl (fun j => nI (af j))))] [some (.ref sg), some (.ref gr), some (.int (nI el)), some (.int (nI i)), none, none, none] [] 0 0 2 := by
    intro d
    induction d with
    | zero => intro i C2 hm; exact absurd hm (Nat.not_lt_zero _)
    | succ d ih_lp =>
      intro i C2 hm hi hh
      refine J.iload_n g dX7_countPlace_2 rfl rfl ?_
      refine J.bipush (v := nI 24) g dX7_countPlace_3 (by decide +kernel) ?_
      refine J.icmp_geN g dX7_countPlace_5 (tgt := 26) (by decide) (by omega) (by omega) (fun c_5 => ?_) (fun c_5 => ?_)
      · refine J.aload_n g dX7_countPlace_26 rfl rfl ?_
        refine J.iload_n g dX7_countPlace_27 rfl rfl ?_
        refine J.callV0 g (c_X0_opposite l γ _ _ _ _ _ _ _ _ _ _ hT (by omega)) jy_X0_opposite lm_X7_38 (q0 := 5) rfl jX0.1 ⟨⟨Nat.le_of_ble_eq_true rfl, Nat.le_of_ble_eq_true rfl⟩, Nat.le_of_ble_eq_true rfl, Nat.le_of_ble_eq_true rfl⟩ (Nat.le_of_ble_eq_true rfl) rfl [5, 6, 7] rfl rfl dX7_countPlace_28 ?_
        intro _ _
        dsimp only [jpush]
        refine J.istore_n g dX7_countPlace_31 rfl rfl rfl ?_
        try dsimp only [List.set_cons_zero, List.set_cons_succ]
        refine J.iconstN g 0 dX7_countPlace_32 ?_
        refine J.istore g dX7_countPlace_33 rfl rfl ?_
        try dsimp only [List.set_cons_zero, List.set_cons_succ]
        have lq : ∀ (d : Nat) (j : Nat) (C3 : Nat → Nat), od - j < d → (j ≤ od) → (∀ y, C3 y = if y < j then jcs od mf af el C y else C y) → J γ l x [(sg, .inr (7, [.ref c0, .ref c1, .ref c2, .ref c3])), (c0, .inl (γ.2 0, 24, .inl (fun j => nI (C3 j)))), (c1, .inl (γ.2 0, 24, .inl (fun j => nI (C2 j)))), (c2, .inl (γ.2 0, 13, .inl (fun j => nI (Y j)))), (c3, .inl (γ.2 0, 13, .inl (fun j => nI (Z j)))), (gr, .inr (0, [.ref mk, .ref ag, .int (nI cd), .int (nI pt), .int (nI od), .int (nI ex)])), (mk, .inl (γ.2 1, 576, .inl (fun j => nI (mf j)))), (ag, .inl (γ.2 1, 24, .inl (fun j => nI (af j))))] [some (.ref sg), some (.ref gr), some (.int (nI el)), some (.int (nI (jop od af el))), some (.int (nI j)), none, none] [] 0 0 35 := by
          intro d
          induction d with
          | zero => intro j C3 hm; exact absurd hm (Nat.not_lt_zero _)
          | succ d ih_lq =>
            intro j C3 hm hj h3
            refine J.iload g dX7_countPlace_35 rfl ?_
            refine J.aload_n g dX7_countPlace_37 rfl rfl ?_
            refine J.callV0 g (c_X0_order l γ _ _ _ _ _ _ _ _ _ ) jy_X0_order lm_X7_43 (q0 := 5) rfl jX0.1 ⟨⟨Nat.le_of_ble_eq_true rfl, Nat.le_of_ble_eq_true rfl⟩, Nat.le_of_ble_eq_true rfl, Nat.le_of_ble_eq_true rfl⟩ (Nat.le_of_ble_eq_true rfl) rfl [5, 6, 7] rfl rfl dX7_countPlace_38 ?_
            intro _ _
            dsimp only [jpush]
            refine J.icmp_geN g dX7_countPlace_41 (tgt := 123) (by decide) (by omega) (by omega) (fun c_41 => ?_) (fun c_41 => ?_)
            · exact J.vret g hE (C3, C2) rfl (fun y => by show C3 y = _; rw [h3]; by_cases z : y < j; (· rw [if_pos z]); (· rw [if_neg z, jcs, if_neg (by omega)])) rfl ⟨Nat.le_of_ble_eq_true rfl, Nat.le_of_ble_eq_true rfl⟩ dX7_countPlace_123
            · refine J.iload g dX7_countPlace_44 rfl ?_
              refine J.bipush (v := nI 24) g dX7_countPlace_46 (by decide +kernel) ?_
              refine J.icmp_geN g dX7_countPlace_48 (tgt := 123) (by decide) (by omega) (by omega) (fun c_48 => absurd c_48 (by omega)) (fun c_48 => ?_)
              refine J.aload_n g dX7_countPlace_51 rfl rfl ?_
              refine J.iload g dX7_countPlace_52 rfl ?_
              refine J.iload_n g dX7_countPlace_54 rfl rfl ?_
              refine J.callV0 g (c_X0_plus l γ _ _ _ _ _ _ _ _ _ _ _ hT (by omega) (by omega)) jy_X0_plus lm_X7_46 (q0 := 5) rfl jX0.1 ⟨⟨Nat.le_of_ble_eq_true rfl, Nat.le_of_ble_eq_true rfl⟩, Nat.le_of_ble_eq_true rfl, Nat.le_of_ble_eq_true rfl⟩ (Nat.le_of_ble_eq_true rfl) rfl [5, 6, 7] rfl rfl dX7_countPlace_55 ?_
              intro _ _
              dsimp only [jpush]
              refine J.istore g dX7_countPlace_58 rfl rfl ?_
              try dsimp only [List.set_cons_zero, List.set_cons_succ]
              refine J.aload_n g dX7_countPlace_60 rfl rfl ?_
              refine J.iload g dX7_countPlace_61 rfl ?_
              refine J.iload_n g dX7_countPlace_63 rfl rfl ?_
              refine J.callV0 g (c_X0_plus l γ _ _ _ _ _ _ _ _ _ _ _ hT (by omega) (by have := jop_24 hT el; omega)) jy_X0_plus lm_X7_46 (q0 := 5) rfl jX0.1 ⟨⟨Nat.le_of_ble_eq_true rfl, Nat.le_of_ble_eq_true rfl⟩, Nat.le_of_ble_eq_true rfl, Nat.le_of_ble_eq_true rfl⟩ (Nat.le_of_ble_eq_true rfl) rfl [5, 6, 7] rfl rfl dX7_countPlace_64 ?_
              intro _ _
              dsimp only [jpush]
              refine J.istore g dX7_countPlace_67 rfl rfl ?_
              try dsimp only [List.set_cons_zero, List.set_cons_succ]
              refine J.aload_n g dX7_countPlace_69 rfl rfl ?_
              refine J.iload g dX7_countPlace_70 rfl ?_
              refine J.callV0 g (c_X0_has_n l γ _ _ _ _ _ _ _ _ _ _ hT1 (by have := jpl_24 hT j el; omega)) jy_X0_has lm_X7_50 (q0 := 5) rfl jX0.1 ⟨⟨Nat.le_of_ble_eq_true rfl, Nat.le_of_ble_eq_true rfl⟩, Nat.le_of_ble_eq_true rfl, Nat.le_of_ble_eq_true rfl⟩ (Nat.le_of_ble_eq_true rfl) rfl [5, 6, 7] rfl rfl dX7_countPlace_72 ?_
              intro _ _
              dsimp only [jpush]
              refine J.if_eqB g dX7_countPlace_75 (tgt := 117) (by decide) (fun c_75 => absurd c_75 (by simp; exact jpl_lt hT (by omega) _ _)) (fun c_75 => ?_)
              refine J.aload_n g dX7_countPlace_78 rfl rfl ?_
              refine J.iload g dX7_countPlace_79 rfl ?_
              refine J.callV0 g (c_X0_has_n l γ _ _ _ _ _ _ _ _ _ _ hT1 (by have := jpl_24 hT j (jop od af el); omega)) jy_X0_has lm_X7_50 (q0 := 5) rfl jX0.1 ⟨⟨Nat.le_of_ble_eq_true rfl, Nat.le_of_ble_eq_true rfl⟩, Nat.le_of_ble_eq_true rfl, Nat.le_of_ble_eq_true rfl⟩ (Nat.le_of_ble_eq_true rfl) rfl [5, 6, 7] rfl rfl dX7_countPlace_81 ?_
              intro _ _
              dsimp only [jpush]
              refine J.if_eqB g dX7_countPlace_84 (tgt := 117) (by decide) (fun c_84 => absurd c_84 (by simp; exact jpl_lt hT (by omega) _ _)) (fun c_84 => ?_)
              have hx1 := jpl_24 hT j el
              have hx2 := jpl_24 hT j (jop od af el)
              have hv : C2 j + C2 (jpl od mf j el) + C2 (jpl od mf j (jop od af el)) = jcs od mf af el C j := by rw [jcs, if_pos (by omega), hh j (by omega), hh _ (by omega), hh _ (by omega)]
              refine J.aload_n g dX7_countPlace_87 rfl rfl ?_
              refine J.get g jX7 0 (by decide) lf_X7_9 0 rfl rfl dX7_countPlace_88 ?_
              refine J.iload g dX7_countPlace_91 rfl ?_
              refine J.aload_n g dX7_countPlace_93 rfl rfl ?_
              refine J.get g jX7 1 (by decide) lf_X7_15 0 rfl rfl dX7_countPlace_94 ?_
              refine J.iload g dX7_countPlace_97 rfl ?_
              refine J.ialdN g 2 rfl (by omega) (by decide) dX7_countPlace_99 ?_
              refine J.aload_n g dX7_countPlace_100 rfl rfl ?_
              refine J.get g jX7 1 (by decide) lf_X7_15 0 rfl rfl dX7_countPlace_101 ?_
              refine J.iload g dX7_countPlace_104 rfl ?_
              refine J.ialdN g 2 rfl (by omega) (by decide) dX7_countPlace_106 ?_
              refine J.iaddN g dX7_countPlace_107 ?_
              refine J.aload_n g dX7_countPlace_108 rfl rfl ?_
              refine J.get g jX7 1 (by decide) lf_X7_15 0 rfl rfl dX7_countPlace_109 ?_
              refine J.iload g dX7_countPlace_112 rfl ?_
              refine J.ialdN g 2 rfl (by omega) (by decide) dX7_countPlace_114 ?_
              refine J.iaddN g dX7_countPlace_115 ?_
              refine J.iastN g 1 rfl (by omega) (by decide) dX7_countPlace_116 ?_
              try dsimp only [List.set_cons_zero, List.set_cons_succ]
              refine J.iincN g 1 dX7_countPlace_117 rfl rfl ?_
              try dsimp only [List.set_cons_zero, List.set_cons_succ]
              refine J.goto g dX7_countPlace_120 (tgt := 35) (by decide) ?_
              exact J.lvle (jle_s (jle_s (jle_s (jle_s (jle_s (jle_n (jle_n jle_0))))))) (ih_lq (j + 1) _ (by omega) (by omega) (jmu_step2 h3 hv))
        exact J.lvle (jle_s (jle_s (jle_s (jle_s (jle_s (jle_n (jle_n jle_0))))))) (lq _ 0 C (Nat.lt_succ_self _) (by omega) (fun y => by rw [if_neg (by omega)]))
      · refine J.aload_n g dX7_countPlace_8 rfl rfl ?_
        refine J.get g jX7 1 (by decide) lf_X7_15 0 rfl rfl dX7_countPlace_9 ?_
        refine J.iload_n g dX7_countPlace_12 rfl rfl ?_
        refine J.aload_n g dX7_countPlace_13 rfl rfl ?_
        refine J.get g jX7 0 (by decide) lf_X7_9 0 rfl rfl dX7_countPlace_14 ?_
        refine J.iload_n g dX7_countPlace_17 rfl rfl ?_
        refine J.ialdN g 1 rfl (by omega) (by decide) dX7_countPlace_18 ?_
        refine J.iastN g 2 rfl (by omega) (by decide) dX7_countPlace_19 ?_
        try dsimp only [List.set_cons_zero, List.set_cons_succ]
        refine J.iincN g 1 dX7_countPlace_20 rfl rfl ?_
        try dsimp only [List.set_cons_zero, List.set_cons_succ]
        refine J.goto g dX7_countPlace_23 (tgt := 2) (by decide) ?_
        exact J.lvle (jle_s (jle_s (jle_s (jle_s (jle_n (jle_n (jle_n jle_0))))))) (ih_lp (i + 1) (va_up C2 i (C i)) (by omega) (by omega) (up_lt (P := fun y v => v = C y) hh rfl))
  exact J.lvle (jle_s (jle_s (jle_s (jle_s (jle_n (jle_n (jle_n jle_0))))))) (lp _ 0 C1 (Nat.lt_succ_self _) (by omega) (fun y h => absurd h (Nat.not_lt_zero _)))
set_option maxHeartbeats 4000000 in
set_option maxRecDepth 100000 in
theorem c_X7_countRows (l : Launch) (γ : jγ) (sg c0 c1 c2 c3 : Nat) (C C1 Y Z : Nat → Nat) (a e n : Nat) (f : Nat → Nat) (gr mk ag cd pt od ex : Nat) (mf af : Nat → Nat) (w : Nat) (hn : n ≤ 12) (hf : ∀ j, j < n → f j < 24) (hT : jtab od mf af) (hw : w < 24) : jM (S := (Nat → Nat) × (Nat → Nat)) l γ yX7_countRows cX7_countRows 5 (some .int) ({ frames := 3, cells := 0, slots := 0, locals := 69 } : Room) [.ref sg, .ref gr, .ref a, .int (nI w)] [(sg, .inr (7, [.ref c0, .ref c1, .ref c2, .ref c3])), (c0, .inl (γ.2 0, 24, .inl (fun j => nI (C j)))), (c1, .inl (γ.2 0, 24, .inl (fun j => nI (C1 j)))), (c2, .inl (γ.2 0, 13, .inl (fun j => nI (Y j)))), (c3, .inl (γ.2 0, 13, .inl (fun j => nI (Z j)))), (a, .inr (6, [.ref e, .int (nI n)])), (e, .inl (γ.2 0, 12, .inl (fun j => nI (f j)))), (gr, .inr (0, [.ref mk, .ref ag, .int (nI cd), .int (nI pt), .int (nI od), .int (nI ex)])), (mk, .inl (γ.2 1, 576, .inl (fun j => nI (mf j)))), (ag, .inl (γ.2 1, 24, .inl (fun j => nI (af j))))] (fun u => some (.int (if w = 0 then nI (jcsub od mf af f n w) - nI 1 else nI (jcsub od mf af f n w)))) (fun u => [(sg, .inr (7, [.ref c0, .ref c1, .ref c2, .ref c3])), (c0, .inl (γ.2 0, 24, .inl (fun j => nI (u.1 j)))), (c1, .inl (γ.2 0, 24, .inl (fun j => nI (u.2 j)))), (c2, .inl (γ.2 0, 13, .inl (fun j => nI (Y j)))), (c3, .inl (γ.2 0, 13, .inl (fun j => nI (Z j)))), (a, .inr (6, [.ref e, .int (nI n)])), (e, .inl (γ.2 0, 12, .inl (fun j => nI (f j)))), (gr, .inr (0, [.ref mk, .ref ag, .int (nI cd), .int (nI pt), .int (nI od), .int (nI ex)])), (mk, .inl (γ.2 1, 576, .inl (fun j => nI (mf j)))), (ag, .inl (γ.2 1, 24, .inl (fun j => nI (af j))))]) (fun u => True) := by
  refine jM.of [some (.ref sg), some (.ref gr), some (.ref a), some (.int (nI w)), none] rfl (Nat.le_of_ble_eq_true rfl) (by decide) ?_
  intro x g hE hin
  refine J.iconstN g 0 dX7_countRows_0 ?_
  refine J.istore g dX7_countRows_1 rfl rfl ?_
  try dsimp only [List.set_cons_zero, List.set_cons_succ]
  have lp : ∀ (d : Nat) (i : Nat) (C2 : Nat → Nat), 24 - i < d → (i ≤ 24) → (∀ y, y < i → C2 y = 0) → J γ l x [(sg, .inr (7, [.ref c0, .ref c1, .ref c2, .ref c3])), (c0, .inl (γ.2 0, 24, .inl (fun j => nI (C2 j)))), (c1, .inl (γ.2 0, 24, .inl (fun j => nI (C1 j)))), (c2, .inl (γ.2 0, 13, .inl (fun j => nI (Y j)))), (c3, .inl (γ.2 0, 13, .inl (fun j => nI (Z j)))), (a, .inr (6, [.ref e, .int (nI n)])), (e, .inl (γ.2 0, 12, .inl (fun j => nI (f j)))), (gr, .inr (0, [.ref mk, .ref ag, .int (nI cd), .int (nI pt), .int (nI od), .int (nI ex)])), (mk, .inl (γ.2 1, 576, .inl (fun j => nI (mf j)))), (ag, .inl (γ.2 1, 24, .inl (fun j => nI (af j))))] [some (.ref sg), some (.ref gr), some (.ref a), some (.int (nI w)), some (.int (nI i))] [] 0 0 3 := by
    intro d
    induction d with
    | zero => intro i C2 hm; exact absurd hm (Nat.not_lt_zero _)
    | succ d ih_lp =>
      intro i C2 hm hi hh
      refine J.iload g dX7_countRows_3 rfl ?_
      refine J.bipush (v := nI 24) g dX7_countRows_5 (by decide +kernel) ?_
      refine J.icmp_geN g dX7_countRows_7 (tgt := 24) (by decide) (by omega) (by omega) (fun c_7 => ?_) (fun c_7 => ?_)
      · refine J.aload_n g dX7_countRows_24 rfl rfl ?_
        refine J.get g jX7 0 (by decide) lf_X7_9 0 rfl rfl dX7_countRows_25 ?_
        refine J.iconstN g 0 dX7_countRows_28 ?_
        refine J.iconstN g 1 dX7_countRows_29 ?_
        refine J.iastN g 1 rfl (by omega) (by decide) dX7_countRows_30 ?_
        try dsimp only [List.set_cons_zero, List.set_cons_succ]
        refine J.iconstN g 0 dX7_countRows_31 ?_
        refine J.istore g dX7_countRows_32 rfl rfl ?_
        try dsimp only [List.set_cons_zero, List.set_cons_succ]
        have lq : ∀ (d : Nat) (j : Nat) (C3 C4 : Nat → Nat), n - j < d → (j ≤ n) → (∀ y, y < 24 → C3 y = jcsub od mf af f j y) → J γ l x [(sg, .inr (7, [.ref c0, .ref c1, .ref c2, .ref c3])), (c0, .inl (γ.2 0, 24, .inl (fun j => nI (C3 j)))), (c1, .inl (γ.2 0, 24, .inl (fun j => nI (C4 j)))), (c2, .inl (γ.2 0, 13, .inl (fun j => nI (Y j)))), (c3, .inl (γ.2 0, 13, .inl (fun j => nI (Z j)))), (a, .inr (6, [.ref e, .int (nI n)])), (e, .inl (γ.2 0, 12, .inl (fun j => nI (f j)))), (gr, .inr (0, [.ref mk, .ref ag, .int (nI cd), .int (nI pt), .int (nI od), .int (nI ex)])), (mk, .inl (γ.2 1, 576, .inl (fun j => nI (mf j)))), (ag, .inl (γ.2 1, 24, .inl (fun j => nI (af j))))] [some (.ref sg), some (.ref gr), some (.ref a), some (.int (nI w)), some (.int (nI j))] [] 0 0 34 := by
          intro d
          induction d with
          | zero => intro j C3 C4 hm; exact absurd hm (Nat.not_lt_zero _)
          | succ d ih_lq =>
            intro j C3 C4 hm hj h3
            refine J.iload g dX7_countRows_34 rfl ?_
            refine J.aload_n g dX7_countRows_36 rfl rfl ?_
            refine J.callV0 g (c_X6_length l γ _ _ _ _ ) jy_X6_length lm_X7_24 (q0 := 5) rfl jX6.1 ⟨⟨Nat.le_of_ble_eq_true rfl, Nat.le_of_ble_eq_true rfl⟩, Nat.le_of_ble_eq_true rfl, Nat.le_of_ble_eq_true rfl⟩ (Nat.le_of_ble_eq_true rfl) rfl [5, 6] rfl rfl dX7_countRows_37 ?_
            intro _ _
            dsimp only [jpush]
            refine J.icmp_geN g dX7_countRows_40 (tgt := 67) (by decide) (by omega) (by omega) (fun c_40 => ?_) (fun c_40 => ?_)
            · refine J.iload_n g dX7_countRows_67 rfl rfl ?_
              refine J.if_ltN g dX7_countRows_68 (tgt := 86) (by decide) (by omega) ?_
              refine J.iload_n g dX7_countRows_71 rfl rfl ?_
              refine J.bipush (v := nI 24) g dX7_countRows_72 (by decide +kernel) ?_
              refine J.icmp_geN g dX7_countRows_74 (tgt := 86) (by decide) (by omega) (by omega) (fun c_74 => absurd c_74 (by omega)) (fun c_74 => ?_)
              refine J.aload_n g dX7_countRows_77 rfl rfl ?_
              refine J.get g jX7 0 (by decide) lf_X7_9 0 rfl rfl dX7_countRows_78 ?_
              refine J.iload_n g dX7_countRows_81 rfl rfl ?_
              refine J.ialdN g 1 rfl (by omega) (by decide) dX7_countRows_82 ?_
              refine J.goto g dX7_countRows_83 (tgt := 87) (by decide) ?_
              refine J.istore g dX7_countRows_87 rfl rfl ?_
              try dsimp only [List.set_cons_zero, List.set_cons_succ]
              refine J.iload_n g dX7_countRows_89 rfl rfl ?_
              refine J.if_neN g dX7_countRows_90 (tgt := 100) (by decide) (by omega) (fun c_90 => ?_) (fun c_90 => ?_)
              · refine J.iload g dX7_countRows_100 rfl ?_
                exact J.iret g hE (C3, C4) (by obtain rfl : j = n := (by omega); rw [← h3 w hw]; first | rw [if_neg c_90] | rw [if_pos c_90]) trivial rfl ⟨Nat.le_of_ble_eq_true rfl, Nat.le_of_ble_eq_true rfl⟩ dX7_countRows_102
              · refine J.iload g dX7_countRows_93 rfl ?_
                refine J.iconstN g 1 dX7_countRows_95 ?_
                refine J.isub g dX7_countRows_96 ?_
                refine J.goto g dX7_countRows_97 (tgt := 102) (by decide) ?_
                exact J.iret g hE (C3, C4) (by obtain rfl : j = n := (by omega); rw [← h3 w hw]; first | rw [if_neg c_90] | rw [if_pos c_90]) trivial rfl ⟨Nat.le_of_ble_eq_true rfl, Nat.le_of_ble_eq_true rfl⟩ dX7_countRows_102
            · refine J.iload g dX7_countRows_43 rfl ?_
              refine J.bipush (v := nI 12) g dX7_countRows_45 (by decide +kernel) ?_
              refine J.icmp_geN g dX7_countRows_47 (tgt := 67) (by decide) (by omega) (by omega) (fun c_47 => absurd c_47 (by omega)) (fun c_47 => ?_)
              refine J.aload_n g dX7_countRows_50 rfl rfl ?_
              refine J.aload_n g dX7_countRows_51 rfl rfl ?_
              refine J.aload_n g dX7_countRows_52 rfl rfl ?_
              refine J.iload g dX7_countRows_53 rfl ?_
              refine J.callV0 g (c_X6_elementAt_n l γ _ _ _ _ _ hn (by omega)) jy_X6_elementAt lm_X7_30 (q0 := 5) rfl jX6.1 ⟨⟨Nat.le_of_ble_eq_true rfl, Nat.le_of_ble_eq_true rfl⟩, Nat.le_of_ble_eq_true rfl, Nat.le_of_ble_eq_true rfl⟩ (Nat.le_of_ble_eq_true rfl) rfl [5, 6] rfl rfl dX7_countRows_55 ?_
              intro _ _
              dsimp only [jpush]
              refine J.callV g (c_X7_countPlace l γ _ _ _ _ _ _ _ _ _ _ _ _ _ _ _ _ _ _ _ hT (hf j (by omega))) jy_X7_countPlace lm_X7_34 (q0 := 0) rfl jX7.1 ⟨⟨Nat.le_of_ble_eq_true rfl, Nat.le_of_ble_eq_true rfl⟩, Nat.le_of_ble_eq_true rfl, Nat.le_of_ble_eq_true rfl⟩ (Nat.le_of_ble_eq_true rfl) rfl [0, 1, 2, 3, 4, 7, 8, 9] rfl (fun _ => rfl) rfl dX7_countRows_58 ?_
              intro u_58 h_58
              dsimp only [jput, List.set_cons_zero, List.set_cons_succ, Option.toList, List.append, List.cons_append, List.nil_append, List.append_nil]
              refine J.iincN g 1 dX7_countRows_61 rfl rfl ?_
              try dsimp only [List.set_cons_zero, List.set_cons_succ]
              refine J.goto g dX7_countRows_64 (tgt := 34) (by decide) ?_
              exact J.lvle (jle_s (jle_s (jle_s (jle_s (jle_s jle_0))))) (ih_lq (j + 1) u_58.1 u_58.2 (by omega) (by omega) (fun y hy => by rw [h_58, jcsub]; exact jcs_congr hT (by omega) h3 y hy))
        exact J.lvle (jle_s (jle_s (jle_s (jle_s (jle_s jle_0))))) (lq _ 0 (va_up C2 0 1) C1 (Nat.lt_succ_self _) (by omega) (fun y hy => by unfold va_up jcsub; split <;> first | rfl | exact hh y (by omega)))
      · refine J.aload_n g dX7_countRows_10 rfl rfl ?_
        refine J.get g jX7 0 (by decide) lf_X7_9 0 rfl rfl dX7_countRows_11 ?_
        refine J.iload g dX7_countRows_14 rfl ?_
        refine J.iconstN g 0 dX7_countRows_16 ?_
        refine J.iastN g 1 rfl (by omega) (by decide) dX7_countRows_17 ?_
        try dsimp only [List.set_cons_zero, List.set_cons_succ]
        refine J.iincN g 1 dX7_countRows_18 rfl rfl ?_
        try dsimp only [List.set_cons_zero, List.set_cons_succ]
        refine J.goto g dX7_countRows_21 (tgt := 3) (by decide) ?_
        exact J.lvle (jle_s (jle_s (jle_s (jle_s (jle_s jle_0))))) (ih_lp (i + 1) (va_up C2 i 0) (by omega) (by omega) (up_lt (P := fun y v => v = 0) hh rfl))
  exact J.lvle (jle_s (jle_s (jle_s (jle_s (jle_s jle_0))))) (lp _ 0 C (Nat.lt_succ_self _) (by omega) (fun y h => absurd h (Nat.not_lt_zero _)))
set_option maxHeartbeats 4000000 in
set_option maxRecDepth 100000 in
theorem c_X7_studyEnds (l : Launch) (γ : jγ) (sg c0 c1 c2 c3 : Nat) (C C1 Y Z : Nat → Nat) (a e n : Nat) (f : Nat → Nat) (gr mk ag cd pt od ex : Nat) (mf af : Nat → Nat) (hn : n ≤ 12) (hf : ∀ j, j < n → f j < 24) (hT : jtab od mf af) : jM (S := (Nat → Nat) × (Nat → Nat)) l γ yX7_studyEnds cX7_studyEnds 7 none ({ frames := 3, cells := 0, slots := 0, locals := 67 } : Room) [.ref sg, .ref gr, .ref a] [(sg, .inr (7, [.ref c0, .ref c1, .ref c2, .ref c3])), (c0, .inl (γ.2 0, 24, .inl (fun j => nI (C j)))), (c1, .inl (γ.2 0, 24, .inl (fun j => nI (C1 j)))), (c2, .inl (γ.2 0, 13, .inl (fun j => nI (Y j)))), (c3, .inl (γ.2 0, 13, .inl (fun j => nI (Z j)))), (a, .inr (6, [.ref e, .int (nI n)])), (e, .inl (γ.2 0, 12, .inl (fun j => nI (f j)))), (gr, .inr (0, [.ref mk, .ref ag, .int (nI cd), .int (nI pt), .int (nI od), .int (nI ex)])), (mk, .inl (γ.2 1, 576, .inl (fun j => nI (mf j)))), (ag, .inl (γ.2 1, 24, .inl (fun j => nI (af j))))] (fun u => none) (fun u => [(sg, .inr (7, [.ref c0, .ref c1, .ref c2, .ref c3])), (c0, .inl (γ.2 0, 24, .inl (fun j => nI (C j)))), (c1, .inl (γ.2 0, 24, .inl (fun j => nI (C1 j)))), (c2, .inl (γ.2 0, 13, .inl (fun j => nI (u.1 j)))), (c3, .inl (γ.2 0, 13, .inl (fun j => nI (u.2 j)))), (a, .inr (6, [.ref e, .int (nI n)])), (e, .inl (γ.2 0, 12, .inl (fun j => nI (f j)))), (gr, .inr (0, [.ref mk, .ref ag, .int (nI cd), .int (nI pt), .int (nI od), .int (nI ex)])), (mk, .inl (γ.2 1, 576, .inl (fun j => nI (mf j)))), (ag, .inl (γ.2 1, 24, .inl (fun j => nI (af j))))]) (fun u => ∀ i, i ≤ n → u.1 i = jany od mf af f n (n - i) ∧ u.2 i = jsome od mf af f n (n - i)) := by
  refine jM.of [some (.ref sg), some (.ref gr), some (.ref a), none, none, none, none] rfl (Nat.le_of_ble_eq_true rfl) (by decide) ?_
  intro x g hE hin
  refine J.aload_n g dX7_studyEnds_0 rfl rfl ?_
  refine J.callV0 g (c_X6_length l γ _ _ _ _ ) jy_X6_length lm_X7_24 (q0 := 5) rfl jX6.1 ⟨⟨Nat.le_of_ble_eq_true rfl, Nat.le_of_ble_eq_true rfl⟩, Nat.le_of_ble_eq_true rfl, Nat.le_of_ble_eq_true rfl⟩ (Nat.le_of_ble_eq_true rfl) rfl [5, 6] rfl rfl dX7_studyEnds_1 ?_
  intro _ _
  dsimp only [jpush]
  refine J.bipush (v := nI 12) g dX7_studyEnds_4 (by decide +kernel) ?_
  refine J.mmin g lm_X7_70 jm_min_s jm_i jm_min_c ⟨Nat.le_of_ble_eq_true rfl, Nat.le_of_ble_eq_true rfl, Nat.le_of_ble_eq_true rfl, Nat.le_of_ble_eq_true rfl⟩ (if_neg (fun q => by have := (nI_ltI (by omega) (by omega)).mp q; omega)) dX7_studyEnds_6 ?_
  refine J.istore_n g dX7_studyEnds_9 rfl rfl rfl ?_
  try dsimp only [List.set_cons_zero, List.set_cons_succ]
  refine J.iload_n g dX7_studyEnds_10 rfl rfl ?_
  refine J.if_geN g dX7_studyEnds_11 (tgt := 15) (by decide) (by omega) ?_
  refine J.aload_n g dX7_studyEnds_15 rfl rfl ?_
  refine J.get g jX7 2 (by decide) lf_X7_18 0 rfl rfl dX7_studyEnds_16 ?_
  refine J.iload_n g dX7_studyEnds_19 rfl rfl ?_
  refine J.iconstN g 1 dX7_studyEnds_20 ?_
  refine J.iastN g 3 rfl (by omega) (by decide) dX7_studyEnds_21 ?_
  try dsimp only [List.set_cons_zero, List.set_cons_succ]
  refine J.aload_n g dX7_studyEnds_22 rfl rfl ?_
  refine J.get g jX7 3 (by decide) lf_X7_21 0 rfl rfl dX7_studyEnds_23 ?_
  refine J.iload_n g dX7_studyEnds_26 rfl rfl ?_
  refine J.iconstN g 0 dX7_studyEnds_27 ?_
  refine J.iastN g 4 rfl (by omega) (by decide) dX7_studyEnds_28 ?_
  try dsimp only [List.set_cons_zero, List.set_cons_succ]
  refine J.iload_n g dX7_studyEnds_29 rfl rfl ?_
  refine J.iconstN g 1 dX7_studyEnds_30 ?_
  refine J.isub' g dX7_studyEnds_31 (j_subm _) ?_
  refine J.istore g dX7_studyEnds_32 rfl rfl ?_
  try dsimp only [List.set_cons_zero, List.set_cons_succ]
  have lp : ∀ (k : Nat) (Y2 Z2 : Nat → Nat), (k ≤ n) → (∀ i, k ≤ i → i ≤ n → Y2 i = jany od mf af f n (n - i) ∧ Z2 i = jsome od mf af f n (n - i)) → J γ l x [(sg, .inr (7, [.ref c0, .ref c1, .ref c2, .ref c3])), (c0, .inl (γ.2 0, 24, .inl (fun j => nI (C j)))), (c1, .inl (γ.2 0, 24, .inl (fun j => nI (C1 j)))), (c2, .inl (γ.2 0, 13, .inl (fun j => nI (Y2 j)))), (c3, .inl (γ.2 0, 13, .inl (fun j => nI (Z2 j)))), (a, .inr (6, [.ref e, .int (nI n)])), (e, .inl (γ.2 0, 12, .inl (fun j => nI (f j)))), (gr, .inr (0, [.ref mk, .ref ag, .int (nI cd), .int (nI pt), .int (nI od), .int (nI ex)])), (mk, .inl (γ.2 1, 576, .inl (fun j => nI (mf j)))), (ag, .inl (γ.2 1, 24, .inl (fun j => nI (af j))))] [some (.ref sg), some (.ref gr), some (.ref a), some (.int (nI n)), some (.int (jm1 k)), none, none] [] 0 0 34 := by
    intro k
    induction k with
    | zero =>
      intro Y2 Z2 hk hh
      rw [jm1_0]
      refine J.iload g dX7_studyEnds_34 rfl ?_
      refine J.if_lt g dX7_studyEnds_36 (tgt := 128) (by decide) (fun _ => ?_) (fun q => absurd (by decide) q)
      exact J.vret g hE (Y2, Z2) rfl (fun i hi => hh i (Nat.zero_le _) hi) rfl ⟨Nat.le_of_ble_eq_true rfl, Nat.le_of_ble_eq_true rfl⟩ dX7_studyEnds_128
    | succ k ih_lp =>
      intro Y2 Z2 hk hh
      rw [jm1_s]
      refine J.iload g dX7_studyEnds_34 rfl ?_
      refine J.if_ltN g dX7_studyEnds_36 (tgt := 128) (by decide) (by omega) ?_
      refine J.aload_n g dX7_studyEnds_39 rfl rfl ?_
      refine J.iload g dX7_studyEnds_40 rfl ?_
      refine J.callV0 g (c_X6_elementAt_n l γ _ _ _ _ _ hn (by omega)) jy_X6_elementAt lm_X7_30 (q0 := 5) rfl jX6.1 ⟨⟨Nat.le_of_ble_eq_true rfl, Nat.le_of_ble_eq_true rfl⟩, Nat.le_of_ble_eq_true rfl, Nat.le_of_ble_eq_true rfl⟩ (Nat.le_of_ble_eq_true rfl) rfl [5, 6] rfl rfl dX7_studyEnds_42 ?_
      intro _ _
      dsimp only [jpush]
      refine J.istore g dX7_studyEnds_45 rfl rfl ?_
      try dsimp only [List.set_cons_zero, List.set_cons_succ]
      refine J.aload_n g dX7_studyEnds_47 rfl rfl ?_
      refine J.aload_n g dX7_studyEnds_48 rfl rfl ?_
      refine J.get g jX7 2 (by decide) lf_X7_18 0 rfl rfl dX7_studyEnds_49 ?_
      refine J.iload g dX7_studyEnds_52 rfl ?_
      refine J.iconstN g 1 dX7_studyEnds_54 ?_
      refine J.iaddN g dX7_studyEnds_55 ?_
      refine J.ialdN g 3 rfl (by omega) (by decide) dX7_studyEnds_56 ?_
      refine J.iload g dX7_studyEnds_57 rfl ?_
      refine J.callV0 g (c_X0_moved l γ _ _ _ _ _ _ _ _ _ _ _ hT (by rw [(hh (k + 1) (by omega) (by omega)).1]; exact jany_lt hT _) (hf k (by omega))) jy_X0_moved lm_X7_75 (q0 := 7) rfl jX0.1 ⟨⟨Nat.le_of_ble_eq_true rfl, Nat.le_of_ble_eq_true rfl⟩, Nat.le_of_ble_eq_true rfl, Nat.le_of_ble_eq_true rfl⟩ (Nat.le_of_ble_eq_true rfl) rfl [7, 8, 9] rfl rfl dX7_studyEnds_59 ?_
      intro _ _
      dsimp only [jpush]
      refine J.aload_n g dX7_studyEnds_62 rfl rfl ?_
      refine J.aload_n g dX7_studyEnds_63 rfl rfl ?_
      refine J.get g jX7 2 (by decide) lf_X7_18 0 rfl rfl dX7_studyEnds_64 ?_
      refine J.iload g dX7_studyEnds_67 rfl ?_
      refine J.iconstN g 1 dX7_studyEnds_69 ?_
      refine J.iaddN g dX7_studyEnds_70 ?_
      refine J.ialdN g 3 rfl (by omega) (by decide) dX7_studyEnds_71 ?_
      refine J.aload_n g dX7_studyEnds_72 rfl rfl ?_
      refine J.iload g dX7_studyEnds_73 rfl ?_
      refine J.callV0 g (c_X0_opposite l γ _ _ _ _ _ _ _ _ _ _ hT (by have := hf k (by omega); omega)) jy_X0_opposite lm_X7_38 (q0 := 7) rfl jX0.1 ⟨⟨Nat.le_of_ble_eq_true rfl, Nat.le_of_ble_eq_true rfl⟩, Nat.le_of_ble_eq_true rfl, Nat.le_of_ble_eq_true rfl⟩ (Nat.le_of_ble_eq_true rfl) rfl [7, 8, 9] rfl rfl dX7_studyEnds_75 ?_
      intro _ _
      dsimp only [jpush]
      refine J.callV0 g (c_X0_moved l γ _ _ _ _ _ _ _ _ _ _ _ hT (by rw [(hh (k + 1) (by omega) (by omega)).1]; exact jany_lt hT _) (jop_24 hT _)) jy_X0_moved lm_X7_75 (q0 := 7) rfl jX0.1 ⟨⟨Nat.le_of_ble_eq_true rfl, Nat.le_of_ble_eq_true rfl⟩, Nat.le_of_ble_eq_true rfl, Nat.le_of_ble_eq_true rfl⟩ (Nat.le_of_ble_eq_true rfl) rfl [7, 8, 9] rfl rfl dX7_studyEnds_78 ?_
      intro _ _
      dsimp only [jpush]
      refine J.ior' g dX7_studyEnds_81 (j_or _ _) ?_
      refine J.istore g dX7_studyEnds_82 rfl rfl ?_
      try dsimp only [List.set_cons_zero, List.set_cons_succ]
      refine J.aload_n g dX7_studyEnds_84 rfl rfl ?_
      refine J.get g jX7 2 (by decide) lf_X7_18 0 rfl rfl dX7_studyEnds_85 ?_
      refine J.iload g dX7_studyEnds_88 rfl ?_
      refine J.aload_n g dX7_studyEnds_90 rfl rfl ?_
      refine J.get g jX7 2 (by decide) lf_X7_18 0 rfl rfl dX7_studyEnds_91 ?_
      refine J.iload g dX7_studyEnds_94 rfl ?_
      refine J.iconstN g 1 dX7_studyEnds_96 ?_
      refine J.iaddN g dX7_studyEnds_97 ?_
      refine J.ialdN g 3 rfl (by omega) (by decide) dX7_studyEnds_98 ?_
      refine J.iload g dX7_studyEnds_99 rfl ?_
      refine J.ior' g dX7_studyEnds_101 (j_or _ _) ?_
      refine J.iastN g 3 rfl (by omega) (by decide) dX7_studyEnds_102 ?_
      try dsimp only [List.set_cons_zero, List.set_cons_succ]
      refine J.aload_n g dX7_studyEnds_103 rfl rfl ?_
      refine J.get g jX7 3 (by decide) lf_X7_21 0 rfl rfl dX7_studyEnds_104 ?_
      refine J.iload g dX7_studyEnds_107 rfl ?_
      refine J.aload_n g dX7_studyEnds_109 rfl rfl ?_
      refine J.get g jX7 3 (by decide) lf_X7_21 0 rfl rfl dX7_studyEnds_110 ?_
      refine J.iload g dX7_studyEnds_113 rfl ?_
      refine J.iconstN g 1 dX7_studyEnds_115 ?_
      refine J.iaddN g dX7_studyEnds_116 ?_
      refine J.ialdN g 4 rfl (by omega) (by decide) dX7_studyEnds_117 ?_
      refine J.iload g dX7_studyEnds_118 rfl ?_
      refine J.ior' g dX7_studyEnds_120 (j_or _ _) ?_
      refine J.iastN g 4 rfl (by omega) (by decide) dX7_studyEnds_121 ?_
      try dsimp only [List.set_cons_zero, List.set_cons_succ]
      refine J.iinc g dX7_studyEnds_122 rfl rfl (j_decm _) ?_
      try dsimp only [List.set_cons_zero, List.set_cons_succ]
      refine J.goto g dX7_studyEnds_125 (tgt := 34) (by decide) ?_
      exact J.lvle (jle_s (jle_s (jle_s (jle_s (jle_s (jle_n (jle_n jle_0))))))) (ih_lp _ _ (by omega) (jse_step hk hh))
  exact J.lvle (jle_s (jle_s (jle_s (jle_s (jle_s (jle_n (jle_n jle_0))))))) (lp n (va_up Y n 1) (va_up Z n 0) (Nat.le_refl _) (fun i h1 h2 => by obtain rfl : i = n := (by omega); rw [up_at, up_at, Nat.sub_self]; exact ⟨rfl, rfl⟩))
set_option maxHeartbeats 4000000 in
set_option maxRecDepth 100000 in
theorem c_X7_firstSign (l : Launch) (γ : jγ) (sg c0 c1 c2 c3 : Nat) (C C1 Y Z : Nat → Nat) (a e n : Nat) (f : Nat → Nat) (gr mk ag cd pt od ex : Nat) (mf af : Nat → Nat) (i w : Nat) (al : Bool) (hn : n ≤ 12) (hf : ∀ j, j < n → f j < 24) (hT : jtab od mf af) (hi : i < n) (hw : w < 24) (hY : Y (i + 1) < 2 ^ 24) (hZ : Z (i + 1) < 2 ^ 24) : jM (S := Unit) l γ yX7_firstSign cX7_firstSign 8 (some .int) ({ frames := 3, cells := 0, slots := 0, locals := 66 } : Room) [.ref sg, .ref gr, .ref a, .int (nI i), .int (nI w), .int (jB al)] [(sg, .inr (7, [.ref c0, .ref c1, .ref c2, .ref c3])), (c0, .inl (γ.2 0, 24, .inl (fun j => nI (C j)))), (c1, .inl (γ.2 0, 24, .inl (fun j => nI (C1 j)))), (c2, .inl (γ.2 0, 13, .inl (fun j => nI (Y j)))), (c3, .inl (γ.2 0, 13, .inl (fun j => nI (Z j)))), (a, .inr (6, [.ref e, .int (nI n)])), (e, .inl (γ.2 0, 12, .inl (fun j => nI (f j)))), (gr, .inr (0, [.ref mk, .ref ag, .int (nI cd), .int (nI pt), .int (nI od), .int (nI ex)])), (mk, .inl (γ.2 1, 576, .inl (fun j => nI (mf j)))), (ag, .inl (γ.2 1, 24, .inl (fun j => nI (af j))))] (fun w0 => some (.int (nI (jfs od mf af Y Z (f i) i w al)))) (fun w0 => [(sg, .inr (7, [.ref c0, .ref c1, .ref c2, .ref c3])), (c0, .inl (γ.2 0, 24, .inl (fun j => nI (C j)))), (c1, .inl (γ.2 0, 24, .inl (fun j => nI (C1 j)))), (c2, .inl (γ.2 0, 13, .inl (fun j => nI (Y j)))), (c3, .inl (γ.2 0, 13, .inl (fun j => nI (Z j)))), (a, .inr (6, [.ref e, .int (nI n)])), (e, .inl (γ.2 0, 12, .inl (fun j => nI (f j)))), (gr, .inr (0, [.ref mk, .ref ag, .int (nI cd), .int (nI pt), .int (nI od), .int (nI ex)])), (mk, .inl (γ.2 1, 576, .inl (fun j => nI (mf j)))), (ag, .inl (γ.2 1, 24, .inl (fun j => nI (af j))))]) (fun w0 => True) := by
  refine jM.of [some (.ref sg), some (.ref gr), some (.ref a), some (.int (nI i)), some (.int (nI w)), some (.int (jB al)), none, none] rfl (Nat.le_of_ble_eq_true rfl) (by decide) ?_
  intro x g hE hin
  refine J.iload_n g dX7_firstSign_0 rfl rfl ?_
  refine J.if_ltN g dX7_firstSign_1 (tgt := 10) (by decide) (by omega) ?_
  refine J.iload_n g dX7_firstSign_4 rfl rfl ?_
  refine J.bipush (v := nI 12) g dX7_firstSign_5 (by decide +kernel) ?_
  refine J.icmp_ltN g dX7_firstSign_7 (tgt := 12) (by decide) (by omega) (by omega) (fun c_7 => ?_) (fun c_7 => absurd c_7 (by omega))
  refine J.aload_n g dX7_firstSign_12 rfl rfl ?_
  refine J.iload_n g dX7_firstSign_13 rfl rfl ?_
  refine J.callV0 g (c_X6_elementAt_n l γ _ _ _ _ _ hn hi) jy_X6_elementAt lm_X7_30 (q0 := 5) rfl jX6.1 ⟨⟨Nat.le_of_ble_eq_true rfl, Nat.le_of_ble_eq_true rfl⟩, Nat.le_of_ble_eq_true rfl, Nat.le_of_ble_eq_true rfl⟩ (Nat.le_of_ble_eq_true rfl) rfl [5, 6] rfl rfl dX7_firstSign_14 ?_
  intro _ _
  dsimp only [jpush]
  refine J.istore g dX7_firstSign_17 rfl rfl ?_
  try dsimp only [List.set_cons_zero, List.set_cons_succ]
  refine J.iload g dX7_firstSign_19 rfl ?_
  refine J.if_eqB g dX7_firstSign_21 (tgt := 35) (by decide) (fun c_21 => ?_) (fun c_21 => ?_)
  · refine J.aload_n g dX7_firstSign_35 rfl rfl ?_
    refine J.get g jX7 2 (by decide) lf_X7_18 0 rfl rfl dX7_firstSign_36 ?_
    refine J.iload_n g dX7_firstSign_39 rfl rfl ?_
    refine J.iconstN g 1 dX7_firstSign_40 ?_
    refine J.iaddN g dX7_firstSign_41 ?_
    refine J.ialdN g 3 rfl (by omega) (by decide) dX7_firstSign_42 ?_
    refine J.iload g dX7_firstSign_43 rfl ?_
    refine J.callS0 g (c_X0_isIn l γ _ _ (by omega) (by omega)) jy_X0_isIn lm_X7_58 ⟨⟨Nat.le_of_ble_eq_true rfl, Nat.le_of_ble_eq_true rfl⟩, Nat.le_of_ble_eq_true rfl, Nat.le_of_ble_eq_true rfl⟩ (Nat.le_of_ble_eq_true rfl) rfl [] rfl rfl dX7_firstSign_45 ?_
    intro _ _
    dsimp only [jpush]
    refine J.if_eqB g dX7_firstSign_48 (tgt := 53) (by decide) (fun c_48 => ?_) (fun c_48 => ?_)
    · refine J.aload_n g dX7_firstSign_53 rfl rfl ?_
      refine J.iload g dX7_firstSign_54 rfl ?_
      refine J.iload g dX7_firstSign_56 rfl ?_
      refine J.iconstN g 1 dX7_firstSign_58 ?_
      refine J.callS0 g (c_X7_wantedBehind l γ _ _ _ _ _ _ _ _ _ _ _ _ hT (hf i hi) hw (by omega)) jy_X7_wantedBehind lm_X7_66 ⟨⟨Nat.le_of_ble_eq_true rfl, Nat.le_of_ble_eq_true rfl⟩, Nat.le_of_ble_eq_true rfl, Nat.le_of_ble_eq_true rfl⟩ (Nat.le_of_ble_eq_true rfl) rfl [7, 8, 9] rfl rfl dX7_firstSign_59 ?_
      intro _ _
      dsimp only [jpush]
      refine J.istore g dX7_firstSign_62 rfl rfl ?_
      try dsimp only [List.set_cons_zero, List.set_cons_succ]
      refine J.aload_n g dX7_firstSign_64 rfl rfl ?_
      refine J.get g jX7 2 (by decide) lf_X7_18 0 rfl rfl dX7_firstSign_65 ?_
      refine J.iload_n g dX7_firstSign_68 rfl rfl ?_
      refine J.iconstN g 1 dX7_firstSign_69 ?_
      refine J.iaddN g dX7_firstSign_70 ?_
      refine J.ialdN g 3 rfl (by omega) (by decide) dX7_firstSign_71 ?_
      refine J.iload g dX7_firstSign_72 rfl ?_
      refine J.callS0 g (c_X0_isIn l γ _ _ (by omega) (by have := jwb_24 hT (el := f i) (sn := 1) hw; omega)) jy_X0_isIn lm_X7_58 ⟨⟨Nat.le_of_ble_eq_true rfl, Nat.le_of_ble_eq_true rfl⟩, Nat.le_of_ble_eq_true rfl, Nat.le_of_ble_eq_true rfl⟩ (Nat.le_of_ble_eq_true rfl) rfl [] rfl rfl dX7_firstSign_74 ?_
      intro _ _
      dsimp only [jpush]
      refine J.if_eqB g dX7_firstSign_77 (tgt := 84) (by decide) (fun c_77 => ?_) (fun c_77 => ?_)
      · refine J.iconstN g 2 dX7_firstSign_84 ?_
        exact J.iret g hE () (by first | exact jfs_1t c_21 c_48 c_77 | exact jfs_1f c_21 c_48 c_77 | exact jfs_2t c_21 c_48 c_77 | exact jfs_2f c_21 c_48 c_77) trivial rfl ⟨Nat.le_of_ble_eq_true rfl, Nat.le_of_ble_eq_true rfl⟩ dX7_firstSign_85
      · refine J.iconstN g 1 dX7_firstSign_80 ?_
        refine J.goto g dX7_firstSign_81 (tgt := 85) (by decide) ?_
        exact J.iret g hE () (by first | exact jfs_1t c_21 c_48 c_77 | exact jfs_1f c_21 c_48 c_77 | exact jfs_2t c_21 c_48 c_77 | exact jfs_2f c_21 c_48 c_77) trivial rfl ⟨Nat.le_of_ble_eq_true rfl, Nat.le_of_ble_eq_true rfl⟩ dX7_firstSign_85
    · refine J.iconstN g 0 dX7_firstSign_51 ?_
      exact J.iret g hE () (by first | exact jfs_0t c_21 c_48 | exact jfs_0f c_21 c_48) trivial rfl ⟨Nat.le_of_ble_eq_true rfl, Nat.le_of_ble_eq_true rfl⟩ dX7_firstSign_52
  · refine J.aload_n g dX7_firstSign_24 rfl rfl ?_
    refine J.get g jX7 3 (by decide) lf_X7_21 0 rfl rfl dX7_firstSign_25 ?_
    refine J.iload_n g dX7_firstSign_28 rfl rfl ?_
    refine J.iconstN g 1 dX7_firstSign_29 ?_
    refine J.iaddN g dX7_firstSign_30 ?_
    refine J.ialdN g 4 rfl (by omega) (by decide) dX7_firstSign_31 ?_
    refine J.goto g dX7_firstSign_32 (tgt := 43) (by decide) ?_
    refine J.iload g dX7_firstSign_43 rfl ?_
    refine J.callS0 g (c_X0_isIn l γ _ _ (by omega) (by omega)) jy_X0_isIn lm_X7_58 ⟨⟨Nat.le_of_ble_eq_true rfl, Nat.le_of_ble_eq_true rfl⟩, Nat.le_of_ble_eq_true rfl, Nat.le_of_ble_eq_true rfl⟩ (Nat.le_of_ble_eq_true rfl) rfl [] rfl rfl dX7_firstSign_45 ?_
    intro _ _
    dsimp only [jpush]
    refine J.if_eqB g dX7_firstSign_48 (tgt := 53) (by decide) (fun c_48 => ?_) (fun c_48 => ?_)
    · refine J.aload_n g dX7_firstSign_53 rfl rfl ?_
      refine J.iload g dX7_firstSign_54 rfl ?_
      refine J.iload g dX7_firstSign_56 rfl ?_
      refine J.iconstN g 1 dX7_firstSign_58 ?_
      refine J.callS0 g (c_X7_wantedBehind l γ _ _ _ _ _ _ _ _ _ _ _ _ hT (hf i hi) hw (by omega)) jy_X7_wantedBehind lm_X7_66 ⟨⟨Nat.le_of_ble_eq_true rfl, Nat.le_of_ble_eq_true rfl⟩, Nat.le_of_ble_eq_true rfl, Nat.le_of_ble_eq_true rfl⟩ (Nat.le_of_ble_eq_true rfl) rfl [7, 8, 9] rfl rfl dX7_firstSign_59 ?_
      intro _ _
      dsimp only [jpush]
      refine J.istore g dX7_firstSign_62 rfl rfl ?_
      try dsimp only [List.set_cons_zero, List.set_cons_succ]
      refine J.aload_n g dX7_firstSign_64 rfl rfl ?_
      refine J.get g jX7 2 (by decide) lf_X7_18 0 rfl rfl dX7_firstSign_65 ?_
      refine J.iload_n g dX7_firstSign_68 rfl rfl ?_
      refine J.iconstN g 1 dX7_firstSign_69 ?_
      refine J.iaddN g dX7_firstSign_70 ?_
      refine J.ialdN g 3 rfl (by omega) (by decide) dX7_firstSign_71 ?_
      refine J.iload g dX7_firstSign_72 rfl ?_
      refine J.callS0 g (c_X0_isIn l γ _ _ (by omega) (by have := jwb_24 hT (el := f i) (sn := 1) hw; omega)) jy_X0_isIn lm_X7_58 ⟨⟨Nat.le_of_ble_eq_true rfl, Nat.le_of_ble_eq_true rfl⟩, Nat.le_of_ble_eq_true rfl, Nat.le_of_ble_eq_true rfl⟩ (Nat.le_of_ble_eq_true rfl) rfl [] rfl rfl dX7_firstSign_74 ?_
      intro _ _
      dsimp only [jpush]
      refine J.if_eqB g dX7_firstSign_77 (tgt := 84) (by decide) (fun c_77 => ?_) (fun c_77 => ?_)
      · refine J.iconstN g 2 dX7_firstSign_84 ?_
        exact J.iret g hE () (by first | exact jfs_1t c_21 c_48 c_77 | exact jfs_1f c_21 c_48 c_77 | exact jfs_2t c_21 c_48 c_77 | exact jfs_2f c_21 c_48 c_77) trivial rfl ⟨Nat.le_of_ble_eq_true rfl, Nat.le_of_ble_eq_true rfl⟩ dX7_firstSign_85
      · refine J.iconstN g 1 dX7_firstSign_80 ?_
        refine J.goto g dX7_firstSign_81 (tgt := 85) (by decide) ?_
        exact J.iret g hE () (by first | exact jfs_1t c_21 c_48 c_77 | exact jfs_1f c_21 c_48 c_77 | exact jfs_2t c_21 c_48 c_77 | exact jfs_2f c_21 c_48 c_77) trivial rfl ⟨Nat.le_of_ble_eq_true rfl, Nat.le_of_ble_eq_true rfl⟩ dX7_firstSign_85
    · refine J.iconstN g 0 dX7_firstSign_51 ?_
      exact J.iret g hE () (by first | exact jfs_0t c_21 c_48 | exact jfs_0f c_21 c_48) trivial rfl ⟨Nat.le_of_ble_eq_true rfl, Nat.le_of_ble_eq_true rfl⟩ dX7_firstSign_52
set_option maxHeartbeats 4000000 in
set_option maxRecDepth 100000 in
theorem c_X7_firstRowAt (l : Launch) (γ : jγ) (sg c0 c1 c2 c3 : Nat) (C C1 Y Z : Nat → Nat) (a e n : Nat) (f : Nat → Nat) (gr mk ag cd pt od ex : Nat) (mf af : Nat → Nat) (gg p : Nat) (hn : n ≤ 12) (hf : ∀ j, j < n → f j < 24) (hT : jtab od mf af) (hg : gg < 24) (hp : p < n) : jM (S := (Nat → Nat) × (Nat → Nat)) l γ yX7_firstRowAt cX7_firstRowAt 9 (some .int) ({ frames := 4, cells := 0, slots := 0, locals := 93 } : Room) [.ref sg, .ref gr, .ref a, .int (nI gg), .int (nI p)] [(sg, .inr (7, [.ref c0, .ref c1, .ref c2, .ref c3])), (c0, .inl (γ.2 0, 24, .inl (fun j => nI (C j)))), (c1, .inl (γ.2 0, 24, .inl (fun j => nI (C1 j)))), (c2, .inl (γ.2 0, 13, .inl (fun j => nI (Y j)))), (c3, .inl (γ.2 0, 13, .inl (fun j => nI (Z j)))), (a, .inr (6, [.ref e, .int (nI n)])), (e, .inl (γ.2 0, 12, .inl (fun j => nI (f j)))), (gr, .inr (0, [.ref mk, .ref ag, .int (nI cd), .int (nI pt), .int (nI od), .int (nI ex)])), (mk, .inl (γ.2 1, 576, .inl (fun j => nI (mf j)))), (ag, .inl (γ.2 1, 24, .inl (fun j => nI (af j))))] (fun u => some (.int (if (jsome od mf af f n n).testBit gg then jsgn (jfr od mf af f n gg) (p + 1) else -1))) (fun u => [(sg, .inr (7, [.ref c0, .ref c1, .ref c2, .ref c3])), (c0, .inl (γ.2 0, 24, .inl (fun j => nI (C j)))), (c1, .inl (γ.2 0, 24, .inl (fun j => nI (C1 j)))), (c2, .inl (γ.2 0, 13, .inl (fun j => nI (u.1 j)))), (c3, .inl (γ.2 0, 13, .inl (fun j => nI (u.2 j)))), (a, .inr (6, [.ref e, .int (nI n)])), (e, .inl (γ.2 0, 12, .inl (fun j => nI (f j)))), (gr, .inr (0, [.ref mk, .ref ag, .int (nI cd), .int (nI pt), .int (nI od), .int (nI ex)])), (mk, .inl (γ.2 1, 576, .inl (fun j => nI (mf j)))), (ag, .inl (γ.2 1, 24, .inl (fun j => nI (af j))))]) (fun u => True) := by
  refine jM.of [some (.ref sg), some (.ref gr), some (.ref a), some (.int (nI gg)), some (.int (nI p)), none, none, none, none] rfl (Nat.le_of_ble_eq_true rfl) (by decide) ?_
  intro x g hE hin
  refine J.aload_n g dX7_firstRowAt_0 rfl rfl ?_
  refine J.aload_n g dX7_firstRowAt_1 rfl rfl ?_
  refine J.aload_n g dX7_firstRowAt_2 rfl rfl ?_
  refine J.callV g (c_X7_studyEnds l γ _ _ _ _ _ _ _ _ _ _ _ _ _ _ _ _ _ _ _ _ _ _ hn hf hT) jy_X7_studyEnds lm_X7_54 (q0 := 0) rfl jX7.1 ⟨⟨Nat.le_of_ble_eq_true rfl, Nat.le_of_ble_eq_true rfl⟩, Nat.le_of_ble_eq_true rfl, Nat.le_of_ble_eq_true rfl⟩ (Nat.le_of_ble_eq_true rfl) rfl [0, 1, 2, 3, 4, 5, 6, 7, 8, 9] rfl (fun _ => rfl) rfl dX7_firstRowAt_3 ?_
  intro u_3 h_3
  dsimp only [jput, List.set_cons_zero, List.set_cons_succ, Option.toList, List.append, List.cons_append, List.nil_append, List.append_nil]
  have hz0 : u_3.2 0 = jsome od mf af f n n := (h_3 0 (Nat.zero_le _)).2
  refine J.aload_n g dX7_firstRowAt_6 rfl rfl ?_
  refine J.get g jX7 3 (by decide) lf_X7_21 0 rfl rfl dX7_firstRowAt_7 ?_
  refine J.iconstN g 0 dX7_firstRowAt_10 ?_
  refine J.ialdN g 4 rfl (by omega) (by decide) dX7_firstRowAt_11 ?_
  refine J.iload_n g dX7_firstRowAt_12 rfl rfl ?_
  refine J.callS0 g (c_X0_isIn l γ _ _ (by rw [hz0]; have := jsome_lt hT (f := f) (n := n) n; omega) (by omega)) jy_X0_isIn lm_X7_58 ⟨⟨Nat.le_of_ble_eq_true rfl, Nat.le_of_ble_eq_true rfl⟩, Nat.le_of_ble_eq_true rfl, Nat.le_of_ble_eq_true rfl⟩ (Nat.le_of_ble_eq_true rfl) rfl [] rfl rfl dX7_firstRowAt_13 ?_
  intro _ _
  dsimp only [jpush]
  refine J.if_neB g dX7_firstRowAt_16 (tgt := 21) (by decide) (fun c_16 => ?_) (fun c_16 => ?_)
  · refine J.iload_n g dX7_firstRowAt_21 rfl rfl ?_
    refine J.istore g dX7_firstRowAt_22 rfl rfl ?_
    try dsimp only [List.set_cons_zero, List.set_cons_succ]
    refine J.iconstN g 1 dX7_firstRowAt_24 ?_
    refine J.istore g dX7_firstRowAt_25 rfl rfl ?_
    try dsimp only [List.set_cons_zero, List.set_cons_succ]
    refine J.iconst (v := -1) g dX7_firstRowAt_27 (by decide) ?_
    refine J.istore g dX7_firstRowAt_28 rfl rfl ?_
    try dsimp only [List.set_cons_zero, List.set_cons_succ]
    refine J.iconstN g 0 dX7_firstRowAt_30 ?_
    refine J.istore g dX7_firstRowAt_31 rfl rfl ?_
    try dsimp only [List.set_cons_zero, List.set_cons_succ]
    have lp : ∀ (d : Nat) (i : Nat), p + 1 - i < d → (i ≤ p + 1) → J γ l x [(sg, .inr (7, [.ref c0, .ref c1, .ref c2, .ref c3])), (c0, .inl (γ.2 0, 24, .inl (fun j => nI (C j)))), (c1, .inl (γ.2 0, 24, .inl (fun j => nI (C1 j)))), (c2, .inl (γ.2 0, 13, .inl (fun j => nI (u_3.1 j)))), (c3, .inl (γ.2 0, 13, .inl (fun j => nI (u_3.2 j)))), (a, .inr (6, [.ref e, .int (nI n)])), (e, .inl (γ.2 0, 12, .inl (fun j => nI (f j)))), (gr, .inr (0, [.ref mk, .ref ag, .int (nI cd), .int (nI pt), .int (nI od), .int (nI ex)])), (mk, .inl (γ.2 1, 576, .inl (fun j => nI (mf j)))), (ag, .inl (γ.2 1, 24, .inl (fun j => nI (af j))))] [some (.ref sg), some (.ref gr), some (.ref a), some (.int (nI gg)), some (.int (nI p)), some (.int (nI ((jfr od mf af f n gg i).1))), some (.int (jB ((jfr od mf af f n gg i).2.1))), some (.int (jsgn (jfr od mf af f n gg) i)), some (.int (nI i))] [] 0 0 33 := by
      intro d
      induction d with
      | zero => intro i hm; exact absurd hm (Nat.not_lt_zero _)
      | succ d ih_lp =>
        intro i hm hi
        refine J.iload g dX7_firstRowAt_33 rfl ?_
        refine J.iload g dX7_firstRowAt_35 rfl ?_
        refine J.icmp_gtN g dX7_firstRowAt_37 (tgt := 93) (by decide) (by omega) (by omega) (fun c_37 => ?_) (fun c_37 => ?_)
        · refine J.iload g dX7_firstRowAt_93 rfl ?_
          exact J.iret g hE u_3 (by rw [if_pos (by rw [← hz0]; exact c_16), show p + 1 = i by omega]) trivial rfl ⟨Nat.le_of_ble_eq_true rfl, Nat.le_of_ble_eq_true rfl⟩ dX7_firstRowAt_95
        · refine J.aload_n g dX7_firstRowAt_40 rfl rfl ?_
          refine J.aload_n g dX7_firstRowAt_41 rfl rfl ?_
          refine J.aload_n g dX7_firstRowAt_42 rfl rfl ?_
          refine J.iload g dX7_firstRowAt_43 rfl ?_
          refine J.iload g dX7_firstRowAt_45 rfl ?_
          refine J.iload g dX7_firstRowAt_47 rfl ?_
          refine J.callV0 g (c_X7_firstSign l γ _ _ _ _ _ _ _ _ _ _ _ _ _ _ _ _ _ _ _ _ _ _ _ _ _ hn hf hT (by omega) (jfr_24 hT hg _) (by rw [(h_3 (i + 1) (by omega)).1]; exact jany_lt hT _) (by rw [(h_3 (i + 1) (by omega)).2]; exact jsome_lt hT _)) jy_X7_firstSign lm_X7_62 (q0 := 0) rfl jX7.1 ⟨⟨Nat.le_of_ble_eq_true rfl, Nat.le_of_ble_eq_true rfl⟩, Nat.le_of_ble_eq_true rfl, Nat.le_of_ble_eq_true rfl⟩ (Nat.le_of_ble_eq_true rfl) rfl [0, 1, 2, 3, 4, 5, 6, 7, 8, 9] rfl rfl dX7_firstRowAt_49 ?_
          intro _ _
          dsimp only [jpush]
          have hsg : jfs od mf af u_3.1 u_3.2 (f i) i (jfr od mf af f n gg i).1 (jfr od mf af f n gg i).2.1 = (jfr od mf af f n gg (i + 1)).2.2 := jfr_sg (h_3 (i + 1) (by omega)).1 (h_3 (i + 1) (by omega)).2
          refine J.istore g dX7_firstRowAt_52 rfl rfl ?_
          try dsimp only [List.set_cons_zero, List.set_cons_succ]
          refine J.iload g dX7_firstRowAt_54 rfl ?_
          refine J.if_eqB g dX7_firstRowAt_56 (tgt := 68) (by decide) (fun c_56 => ?_) (fun c_56 => ?_)
          · have hq2 : (jfr od mf af f n gg (i + 1)).2.1 = false := jfr_f1 c_56
            refine J.iconstN g 0 dX7_firstRowAt_68 ?_
            refine J.istore g dX7_firstRowAt_69 rfl rfl ?_
            try dsimp only [List.set_cons_zero, List.set_cons_succ]
            refine J.aload_n g dX7_firstRowAt_71 rfl rfl ?_
            refine J.aload_n g dX7_firstRowAt_72 rfl rfl ?_
            refine J.iload g dX7_firstRowAt_73 rfl ?_
            refine J.callV0 g (c_X6_elementAt_n l γ _ _ _ _ _ hn (by omega)) jy_X6_elementAt lm_X7_30 (q0 := 5) rfl jX6.1 ⟨⟨Nat.le_of_ble_eq_true rfl, Nat.le_of_ble_eq_true rfl⟩, Nat.le_of_ble_eq_true rfl, Nat.le_of_ble_eq_true rfl⟩ (Nat.le_of_ble_eq_true rfl) rfl [5, 6] rfl rfl dX7_firstRowAt_75 ?_
            intro _ _
            dsimp only [jpush]
            refine J.iload g dX7_firstRowAt_78 rfl ?_
            refine J.iload g dX7_firstRowAt_80 rfl ?_
            refine J.callS0 g (c_X7_wantedBehind l γ _ _ _ _ _ _ _ _ _ _ _ _ hT (hf i (by omega)) (jfr_24 hT hg _) (by have := jfs_3 od mf af u_3.1 u_3.2 (f i) i (jfr od mf af f n gg i).1 (jfr od mf af f n gg i).2.1; omega)) jy_X7_wantedBehind lm_X7_66 ⟨⟨Nat.le_of_ble_eq_true rfl, Nat.le_of_ble_eq_true rfl⟩, Nat.le_of_ble_eq_true rfl, Nat.le_of_ble_eq_true rfl⟩ (Nat.le_of_ble_eq_true rfl) rfl [7, 8, 9] rfl rfl dX7_firstRowAt_82 ?_
            intro _ _
            dsimp only [jpush]
            refine J.istore g dX7_firstRowAt_85 rfl rfl ?_
            try dsimp only [List.set_cons_zero, List.set_cons_succ]
            refine J.iincN g 1 dX7_firstRowAt_87 rfl rfl ?_
            try dsimp only [List.set_cons_zero, List.set_cons_succ]
            have hq1 : (jfr od mf af f n gg (i + 1)).1 = jwb od mf af (f i) (jfr od mf af f n gg i).1 (jfs od mf af u_3.1 u_3.2 (f i) i (jfr od mf af f n gg i).1 (jfr od mf af f n gg i).2.1) := by rw [hsg]; rfl
            have hq3 : jsgn (jfr od mf af f n gg) (i + 1) = nI (jfs od mf af u_3.1 u_3.2 (f i) i (jfr od mf af f n gg i).1 (jfr od mf af f n gg i).2.1) := by rw [hsg]; rfl
            refine J.goto g dX7_firstRowAt_90 (tgt := 33) (by decide) ?_
            have ih2 := ih_lp (i + 1) (by omega) (by omega)
            rw [hq1, hq2, hq3] at ih2
            exact J.lvle (jle_s (jle_s (jle_s (jle_s (jle_s (jle_s (jle_s (jle_s (jle_s jle_0))))))))) ih2
          · refine J.iload g dX7_firstRowAt_59 rfl ?_
            refine J.if_neN g dX7_firstRowAt_61 (tgt := 68) (by decide) (by have := jfs_3 od mf af u_3.1 u_3.2 (f i) i (jfr od mf af f n gg i).1 (jfr od mf af f n gg i).2.1; omega) (fun c_61 => ?_) (fun c_61 => ?_)
            · have hq2 : (jfr od mf af f n gg (i + 1)).2.1 = false := jfr_f2 (hsg ▸ c_61)
              refine J.iconstN g 0 dX7_firstRowAt_68 ?_
              refine J.istore g dX7_firstRowAt_69 rfl rfl ?_
              try dsimp only [List.set_cons_zero, List.set_cons_succ]
              refine J.aload_n g dX7_firstRowAt_71 rfl rfl ?_
              refine J.aload_n g dX7_firstRowAt_72 rfl rfl ?_
              refine J.iload g dX7_firstRowAt_73 rfl ?_
              refine J.callV0 g (c_X6_elementAt_n l γ _ _ _ _ _ hn (by omega)) jy_X6_elementAt lm_X7_30 (q0 := 5) rfl jX6.1 ⟨⟨Nat.le_of_ble_eq_true rfl, Nat.le_of_ble_eq_true rfl⟩, Nat.le_of_ble_eq_true rfl, Nat.le_of_ble_eq_true rfl⟩ (Nat.le_of_ble_eq_true rfl) rfl [5, 6] rfl rfl dX7_firstRowAt_75 ?_
              intro _ _
              dsimp only [jpush]
              refine J.iload g dX7_firstRowAt_78 rfl ?_
              refine J.iload g dX7_firstRowAt_80 rfl ?_
              refine J.callS0 g (c_X7_wantedBehind l γ _ _ _ _ _ _ _ _ _ _ _ _ hT (hf i (by omega)) (jfr_24 hT hg _) (by have := jfs_3 od mf af u_3.1 u_3.2 (f i) i (jfr od mf af f n gg i).1 (jfr od mf af f n gg i).2.1; omega)) jy_X7_wantedBehind lm_X7_66 ⟨⟨Nat.le_of_ble_eq_true rfl, Nat.le_of_ble_eq_true rfl⟩, Nat.le_of_ble_eq_true rfl, Nat.le_of_ble_eq_true rfl⟩ (Nat.le_of_ble_eq_true rfl) rfl [7, 8, 9] rfl rfl dX7_firstRowAt_82 ?_
              intro _ _
              dsimp only [jpush]
              refine J.istore g dX7_firstRowAt_85 rfl rfl ?_
              try dsimp only [List.set_cons_zero, List.set_cons_succ]
              refine J.iincN g 1 dX7_firstRowAt_87 rfl rfl ?_
              try dsimp only [List.set_cons_zero, List.set_cons_succ]
              have hq1 : (jfr od mf af f n gg (i + 1)).1 = jwb od mf af (f i) (jfr od mf af f n gg i).1 (jfs od mf af u_3.1 u_3.2 (f i) i (jfr od mf af f n gg i).1 (jfr od mf af f n gg i).2.1) := by rw [hsg]; rfl
              have hq3 : jsgn (jfr od mf af f n gg) (i + 1) = nI (jfs od mf af u_3.1 u_3.2 (f i) i (jfr od mf af f n gg i).1 (jfr od mf af f n gg i).2.1) := by rw [hsg]; rfl
              refine J.goto g dX7_firstRowAt_90 (tgt := 33) (by decide) ?_
              have ih2 := ih_lp (i + 1) (by omega) (by omega)
              rw [hq1, hq2, hq3] at ih2
              exact J.lvle (jle_s (jle_s (jle_s (jle_s (jle_s (jle_s (jle_s (jle_s (jle_s jle_0))))))))) ih2
            · have hq2 : (jfr od mf af f n gg (i + 1)).2.1 = true := jfr_t c_56 (hsg ▸ c_61)
              refine J.iconstN g 1 dX7_firstRowAt_64 ?_
              refine J.goto g dX7_firstRowAt_65 (tgt := 69) (by decide) ?_
              refine J.istore g dX7_firstRowAt_69 rfl rfl ?_
              try dsimp only [List.set_cons_zero, List.set_cons_succ]
              refine J.aload_n g dX7_firstRowAt_71 rfl rfl ?_
              refine J.aload_n g dX7_firstRowAt_72 rfl rfl ?_
              refine J.iload g dX7_firstRowAt_73 rfl ?_
              refine J.callV0 g (c_X6_elementAt_n l γ _ _ _ _ _ hn (by omega)) jy_X6_elementAt lm_X7_30 (q0 := 5) rfl jX6.1 ⟨⟨Nat.le_of_ble_eq_true rfl, Nat.le_of_ble_eq_true rfl⟩, Nat.le_of_ble_eq_true rfl, Nat.le_of_ble_eq_true rfl⟩ (Nat.le_of_ble_eq_true rfl) rfl [5, 6] rfl rfl dX7_firstRowAt_75 ?_
              intro _ _
              dsimp only [jpush]
              refine J.iload g dX7_firstRowAt_78 rfl ?_
              refine J.iload g dX7_firstRowAt_80 rfl ?_
              refine J.callS0 g (c_X7_wantedBehind l γ _ _ _ _ _ _ _ _ _ _ _ _ hT (hf i (by omega)) (jfr_24 hT hg _) (by have := jfs_3 od mf af u_3.1 u_3.2 (f i) i (jfr od mf af f n gg i).1 (jfr od mf af f n gg i).2.1; omega)) jy_X7_wantedBehind lm_X7_66 ⟨⟨Nat.le_of_ble_eq_true rfl, Nat.le_of_ble_eq_true rfl⟩, Nat.le_of_ble_eq_true rfl, Nat.le_of_ble_eq_true rfl⟩ (Nat.le_of_ble_eq_true rfl) rfl [7, 8, 9] rfl rfl dX7_firstRowAt_82 ?_
              intro _ _
              dsimp only [jpush]
              refine J.istore g dX7_firstRowAt_85 rfl rfl ?_
              try dsimp only [List.set_cons_zero, List.set_cons_succ]
              refine J.iincN g 1 dX7_firstRowAt_87 rfl rfl ?_
              try dsimp only [List.set_cons_zero, List.set_cons_succ]
              have hq1 : (jfr od mf af f n gg (i + 1)).1 = jwb od mf af (f i) (jfr od mf af f n gg i).1 (jfs od mf af u_3.1 u_3.2 (f i) i (jfr od mf af f n gg i).1 (jfr od mf af f n gg i).2.1) := by rw [hsg]; rfl
              have hq3 : jsgn (jfr od mf af f n gg) (i + 1) = nI (jfs od mf af u_3.1 u_3.2 (f i) i (jfr od mf af f n gg i).1 (jfr od mf af f n gg i).2.1) := by rw [hsg]; rfl
              refine J.goto g dX7_firstRowAt_90 (tgt := 33) (by decide) ?_
              have ih2 := ih_lp (i + 1) (by omega) (by omega)
              rw [hq1, hq2, hq3] at ih2
              exact J.lvle (jle_s (jle_s (jle_s (jle_s (jle_s (jle_s (jle_s (jle_s (jle_s jle_0))))))))) ih2
    exact J.lvle (jle_s (jle_s (jle_s (jle_s (jle_s (jle_s (jle_s (jle_s (jle_s jle_0))))))))) (lp _ 0 (Nat.lt_succ_self _) (by omega))
  · refine J.iconst (v := -1) g dX7_firstRowAt_19 (by decide) ?_
    exact J.iret g hE u_3 (by rw [if_neg (by rw [← hz0, c_16]; decide)]) trivial rfl ⟨Nat.le_of_ble_eq_true rfl, Nat.le_of_ble_eq_true rfl⟩ dX7_firstRowAt_20
