set_option maxHeartbeats 4000000 in
set_option maxRecDepth 100000 in
theorem c_X2_grow (l : Launch) (γ : jγ) : ∀ (dd : Nat) (mu ct gw ge fw fe sg gr mk ag cd pt od ex : Nat) (mf af gf ff : Nat → Nat) (L : List Nat) (T : mST) (p fr sm : Nat), (jtab od mf af) → (L.length = p) → (p + dd = 12) → (mrow L gf) → (mrow T.2 ff) → (T.2.length ≤ 12) → (sm < 2 ^ 24) → (1 ≤ fr ∧ fr ≤ 24) → jM (S := (Nat → Nat) × (Nat → Nat)) l γ yX2_grow cX2_grow 6 none ({ frames := dd + 5, cells := 0, slots := 0, locals := 25 * dd + 100 } : Room) [.ref mu, .ref gr, .int (nI p), .int (nI fr), .int (nI sm)] [(mu, .inr (2, [.ref ct, .ref gw, .ref fw, .int (nI sg)])), (ct, .inl (γ.2 0, 13, .inl (fun j => nI (T.1 j)))), (gw, .inr (6, [.ref ge, .int (nI p)])), (ge, .inl (γ.2 0, 12, .inl (fun j => nI (gf j)))), (fw, .inr (6, [.ref fe, .int (nI T.2.length)])), (fe, .inl (γ.2 0, 12, .inl (fun j => nI (ff j)))), (gr, .inr (0, [.ref mk, .ref ag, .int (nI cd), .int (nI pt), .int (nI od), .int (nI ex)])), (mk, .inl (γ.2 1, 576, .inl (fun j => nI (mf j)))), (ag, .inl (γ.2 1, 24, .inl (fun j => nI (af j))))] (fun u => none) (fun u => [(mu, .inr (2, [.ref ct, .ref gw, .ref fw, .int (nI sg)])), (ct, .inl (γ.2 0, 13, .inl (fun j => nI ((mgr od mf af dd L fr sm T).1 j)))), (gw, .inr (6, [.ref ge, .int (nI p)])), (ge, .inl (γ.2 0, 12, .inl (fun j => nI (u.1 j)))), (fw, .inr (6, [.ref fe, .int (nI ((mgr od mf af dd L fr sm T).2.length))])), (fe, .inl (γ.2 0, 12, .inl (fun j => nI (u.2 j)))), (gr, .inr (0, [.ref mk, .ref ag, .int (nI cd), .int (nI pt), .int (nI od), .int (nI ex)])), (mk, .inl (γ.2 1, 576, .inl (fun j => nI (mf j)))), (ag, .inl (γ.2 1, 24, .inl (fun j => nI (af j))))]) (fun u => mrow L u.1 ∧ mrow (mgr od mf af dd L fr sm T).2 u.2 ∧ (mgr od mf af dd L fr sm T).2.length ≤ 12) := by
  intro dd
  induction dd with
  | zero =>
    intro mu ct gw ge fw fe sg gr mk ag cd pt od ex mf af gf ff L T p fr sm hT hp hd hg hf hfl hsm hfr
    subst hp
    refine jM.of [some (.ref mu), some (.ref gr), some (.int (nI L.length)), some (.int (nI fr)), some (.int (nI sm)), none] rfl (Nat.le_of_ble_eq_true rfl) (by decide) ?_
    intro x g hE hin
    have hT1 := hT.1
    have hL : L.length ≤ 12 := by omega
    have hd0 : L.length = 12 := by omega
    refine J.iload_n g dX2_grow_0 rfl rfl ?_
    refine J.if_ltN g dX2_grow_1 (tgt := 10) (by decide) (by omega) ?_
    refine J.iload_n g dX2_grow_4 rfl rfl ?_
    refine J.bipush (v := nI 12) g dX2_grow_5 (by decide +kernel) ?_
    refine J.icmp_leN g dX2_grow_7 (tgt := 11) (by decide) (by omega) (by omega) (fun c_7 => ?_) (fun c_7 => absurd c_7 (by omega))
    refine J.aload_n g dX2_grow_11 rfl rfl ?_
    refine J.get g jX2 0 (by decide) lf_X2_9 0 rfl rfl dX2_grow_12 ?_
    refine J.iload_n g dX2_grow_15 rfl rfl ?_
    refine J.dup2 g dX2_grow_16 rfl rfl ?_
    refine J.ialdN g 1 rfl (by omega) (by decide) dX2_grow_17 ?_
    refine J.iconstN g 1 dX2_grow_18 ?_
    refine J.iaddN g dX2_grow_19 ?_
    refine J.iastN g 1 rfl (by omega) (by decide) dX2_grow_20 ?_
    try dsimp only [List.set_cons_zero, List.set_cons_succ]
    refine J.iload_n g dX2_grow_21 rfl rfl ?_
    refine J.aload_n g dX2_grow_22 rfl rfl ?_
    refine J.get g jX2 2 (by decide) lf_X2_22 0 rfl rfl dX2_grow_23 ?_
    refine J.callV0 g (c_X6_length l γ _ _ _ _ ) jy_X6_length lm_X2_42 (q0 := 4) rfl jX6.1 ⟨⟨(by dsimp only; omega), (by dsimp only; omega)⟩, (by dsimp only; omega), (by dsimp only; omega)⟩ (Nat.le_of_ble_eq_true rfl) rfl [4, 5] rfl rfl dX2_grow_26 ?_
    intro _ _
    dsimp only [jpush]
    refine J.icmp_leN g dX2_grow_29 (tgt := 43) (by decide) (by omega) (by omega) (fun c_29 => ?_) (fun c_29 => ?_)
    · have hms : (mstep L T).2 = T.2 := if_neg (by omega)
      obtain ⟨ff0, hff⟩ : ∃ z, z = ff := ⟨_, rfl⟩
      rw [← hff]
      have hs2 : mrow (mstep L T).2 ff0 := by rw [hms, hff]; exact hf
      have hs3 : (mstep L T).2.length ≤ 12 := by rw [hms]; exact hfl
      refine J.iload_n g dX2_grow_43 rfl rfl ?_
      refine J.istore g dX2_grow_44 rfl rfl ?_
      try dsimp only [List.set_cons_zero, List.set_cons_succ]
      have lp0 : ∀ (d : Nat) (i : Nat) (T1 : mST) (g1 f1 : Nat → Nat), od - i < d → (1 ≤ i ∧ i ≤ 25) → (mrow L g1) → (mrow T1.2 f1) → (T1.2.length ≤ 12) → (mgr od mf af 0 L fr sm T = T1) → J γ l x [(mu, .inr (2, [.ref ct, .ref gw, .ref fw, .int (nI sg)])), (ct, .inl (γ.2 0, 13, .inl (fun j => nI (T1.1 j)))), (gw, .inr (6, [.ref ge, .int (nI L.length)])), (ge, .inl (γ.2 0, 12, .inl (fun j => nI (g1 j)))), (fw, .inr (6, [.ref fe, .int (nI T1.2.length)])), (fe, .inl (γ.2 0, 12, .inl (fun j => nI (f1 j)))), (gr, .inr (0, [.ref mk, .ref ag, .int (nI cd), .int (nI pt), .int (nI od), .int (nI ex)])), (mk, .inl (γ.2 1, 576, .inl (fun j => nI (mf j)))), (ag, .inl (γ.2 1, 24, .inl (fun j => nI (af j))))] [some (.ref mu), some (.ref gr), some (.int (nI L.length)), some (.int (nI fr)), some (.int (nI sm)), some (.int (nI i))] [] 0 0 46 := by
        intro d
        induction d with
        | zero => intro i T1 g1 f1 hm; exact absurd hm (Nat.not_lt_zero _)
        | succ d ih_lp0 =>
          intro i T1 g1 f1 hm hi h1 h2 h3 hr
          refine J.iload g dX2_grow_46 rfl ?_
          refine J.aload_n g dX2_grow_48 rfl rfl ?_
          refine J.callV0 g (c_X0_order l γ _ _ _ _ _ _ _ _ _ ) jy_X0_order lm_X2_49 (q0 := 6) rfl jX0.1 ⟨⟨(by dsimp only; omega), (by dsimp only; omega)⟩, (by dsimp only; omega), (by dsimp only; omega)⟩ (Nat.le_of_ble_eq_true rfl) rfl [6, 7, 8] rfl rfl dX2_grow_49 ?_
          intro _ _
          dsimp only [jpush]
          refine J.icmp_geN g dX2_grow_52 (tgt := 126) (by decide) (by omega) (by omega) (fun c_52 => ?_) (fun c_52 => ?_)
          · exact J.vret g hE (g1, f1) rfl (by first | (rw [hr]; exact ⟨h1, h2, h3⟩) | (rw [hr, mgl_0 c_52]; exact ⟨h1, h2, h3⟩)) (by first | rw [hr, mgl_0 c_52] | rw [hr]) ⟨Nat.le_of_ble_eq_true rfl, Nat.le_of_ble_eq_true rfl⟩ dX2_grow_126
          · refine J.iload_n g dX2_grow_55 rfl rfl ?_
            refine J.bipush (v := nI 12) g dX2_grow_56 (by decide +kernel) ?_
            refine J.icmp_geN g dX2_grow_58 (tgt := 126) (by decide) (by omega) (by omega) (fun c_58 => ?_) (fun c_58 => absurd c_58 (by omega))
            exact J.vret g hE (g1, f1) rfl (by first | (rw [hr]; exact ⟨h1, h2, h3⟩) | (rw [hr, mgl_0 c_52]; exact ⟨h1, h2, h3⟩)) (by first | rw [hr, mgl_0 c_52] | rw [hr]) ⟨Nat.le_of_ble_eq_true rfl, Nat.le_of_ble_eq_true rfl⟩ dX2_grow_126
      have ih2 := lp0 _ fr (mstep L T) gf ff0 (Nat.lt_succ_self _) (by omega) hg hs2 hs3 rfl
      rw [hms] at ih2
      exact J.lvle (jle_s (jle_s (jle_s (jle_s (jle_s (jle_s jle_0)))))) ih2
    · refine J.aload_n g dX2_grow_32 rfl rfl ?_
      refine J.get g jX2 2 (by decide) lf_X2_22 0 rfl rfl dX2_grow_33 ?_
      refine J.aload_n g dX2_grow_36 rfl rfl ?_
      refine J.get g jX2 1 (by decide) lf_X2_18 0 rfl rfl dX2_grow_37 ?_
      refine J.callV g (c_X6_copyFrom l γ _ _ _ _ _ _ _ _ hL) jy_X6_copyFrom lm_X2_45 (q0 := 4) rfl jX6.1 ⟨⟨(by dsimp only; omega), (by dsimp only; omega)⟩, (by dsimp only; omega), (by dsimp only; omega)⟩ (Nat.le_of_ble_eq_true rfl) rfl [4, 5, 2, 3] rfl (fun _ => rfl) rfl dX2_grow_40 ?_
      intro u_40 h_40
      dsimp only [jput, List.set_cons_zero, List.set_cons_succ, Option.toList, List.append, List.cons_append, List.nil_append, List.append_nil]
      have hms : (mstep L T).2 = L := if_pos c_29
      obtain ⟨ff0, hff⟩ : ∃ z, z = u_40 := ⟨_, rfl⟩
      rw [← hff]
      have hs2 : mrow (mstep L T).2 ff0 := by rw [hms, hff]; exact mrow_eq hg h_40
      have hs3 : (mstep L T).2.length ≤ 12 := by rw [hms]; exact hL
      refine J.iload_n g dX2_grow_43 rfl rfl ?_
      refine J.istore g dX2_grow_44 rfl rfl ?_
      try dsimp only [List.set_cons_zero, List.set_cons_succ]
      have lp0 : ∀ (d : Nat) (i : Nat) (T1 : mST) (g1 f1 : Nat → Nat), od - i < d → (1 ≤ i ∧ i ≤ 25) → (mrow L g1) → (mrow T1.2 f1) → (T1.2.length ≤ 12) → (mgr od mf af 0 L fr sm T = T1) → J γ l x [(mu, .inr (2, [.ref ct, .ref gw, .ref fw, .int (nI sg)])), (ct, .inl (γ.2 0, 13, .inl (fun j => nI (T1.1 j)))), (gw, .inr (6, [.ref ge, .int (nI L.length)])), (ge, .inl (γ.2 0, 12, .inl (fun j => nI (g1 j)))), (fw, .inr (6, [.ref fe, .int (nI T1.2.length)])), (fe, .inl (γ.2 0, 12, .inl (fun j => nI (f1 j)))), (gr, .inr (0, [.ref mk, .ref ag, .int (nI cd), .int (nI pt), .int (nI od), .int (nI ex)])), (mk, .inl (γ.2 1, 576, .inl (fun j => nI (mf j)))), (ag, .inl (γ.2 1, 24, .inl (fun j => nI (af j))))] [some (.ref mu), some (.ref gr), some (.int (nI L.length)), some (.int (nI fr)), some (.int (nI sm)), some (.int (nI i))] [] 0 0 46 := by
        intro d
        induction d with
        | zero => intro i T1 g1 f1 hm; exact absurd hm (Nat.not_lt_zero _)
        | succ d ih_lp0 =>
          intro i T1 g1 f1 hm hi h1 h2 h3 hr
          refine J.iload g dX2_grow_46 rfl ?_
          refine J.aload_n g dX2_grow_48 rfl rfl ?_
          refine J.callV0 g (c_X0_order l γ _ _ _ _ _ _ _ _ _ ) jy_X0_order lm_X2_49 (q0 := 6) rfl jX0.1 ⟨⟨(by dsimp only; omega), (by dsimp only; omega)⟩, (by dsimp only; omega), (by dsimp only; omega)⟩ (Nat.le_of_ble_eq_true rfl) rfl [6, 7, 8] rfl rfl dX2_grow_49 ?_
          intro _ _
          dsimp only [jpush]
          refine J.icmp_geN g dX2_grow_52 (tgt := 126) (by decide) (by omega) (by omega) (fun c_52 => ?_) (fun c_52 => ?_)
          · exact J.vret g hE (g1, f1) rfl (by first | (rw [hr]; exact ⟨h1, h2, h3⟩) | (rw [hr, mgl_0 c_52]; exact ⟨h1, h2, h3⟩)) (by first | rw [hr, mgl_0 c_52] | rw [hr]) ⟨Nat.le_of_ble_eq_true rfl, Nat.le_of_ble_eq_true rfl⟩ dX2_grow_126
          · refine J.iload_n g dX2_grow_55 rfl rfl ?_
            refine J.bipush (v := nI 12) g dX2_grow_56 (by decide +kernel) ?_
            refine J.icmp_geN g dX2_grow_58 (tgt := 126) (by decide) (by omega) (by omega) (fun c_58 => ?_) (fun c_58 => absurd c_58 (by omega))
            exact J.vret g hE (g1, f1) rfl (by first | (rw [hr]; exact ⟨h1, h2, h3⟩) | (rw [hr, mgl_0 c_52]; exact ⟨h1, h2, h3⟩)) (by first | rw [hr, mgl_0 c_52] | rw [hr]) ⟨Nat.le_of_ble_eq_true rfl, Nat.le_of_ble_eq_true rfl⟩ dX2_grow_126
      have ih2 := lp0 _ fr (mstep L T) gf ff0 (Nat.lt_succ_self _) (by omega) hg hs2 hs3 rfl
      rw [hms] at ih2
      exact J.lvle (jle_s (jle_s (jle_s (jle_s (jle_s (jle_s jle_0)))))) ih2
  | succ dd ih =>
    intro mu ct gw ge fw fe sg gr mk ag cd pt od ex mf af gf ff L T p fr sm hT hp hd hg hf hfl hsm hfr
    subst hp
    refine jM.of [some (.ref mu), some (.ref gr), some (.int (nI L.length)), some (.int (nI fr)), some (.int (nI sm)), none] rfl (Nat.le_of_ble_eq_true rfl) (by decide) ?_
    intro x g hE hin
    have hT1 := hT.1
    have hL : L.length ≤ 12 := by omega
    have hd0 : L.length < 12 := by omega
    refine J.iload_n g dX2_grow_0 rfl rfl ?_
    refine J.if_ltN g dX2_grow_1 (tgt := 10) (by decide) (by omega) ?_
    refine J.iload_n g dX2_grow_4 rfl rfl ?_
    refine J.bipush (v := nI 12) g dX2_grow_5 (by decide +kernel) ?_
    refine J.icmp_leN g dX2_grow_7 (tgt := 11) (by decide) (by omega) (by omega) (fun c_7 => ?_) (fun c_7 => absurd c_7 (by omega))
    refine J.aload_n g dX2_grow_11 rfl rfl ?_
    refine J.get g jX2 0 (by decide) lf_X2_9 0 rfl rfl dX2_grow_12 ?_
    refine J.iload_n g dX2_grow_15 rfl rfl ?_
    refine J.dup2 g dX2_grow_16 rfl rfl ?_
    refine J.ialdN g 1 rfl (by omega) (by decide) dX2_grow_17 ?_
    refine J.iconstN g 1 dX2_grow_18 ?_
    refine J.iaddN g dX2_grow_19 ?_
    refine J.iastN g 1 rfl (by omega) (by decide) dX2_grow_20 ?_
    try dsimp only [List.set_cons_zero, List.set_cons_succ]
    refine J.iload_n g dX2_grow_21 rfl rfl ?_
    refine J.aload_n g dX2_grow_22 rfl rfl ?_
    refine J.get g jX2 2 (by decide) lf_X2_22 0 rfl rfl dX2_grow_23 ?_
    refine J.callV0 g (c_X6_length l γ _ _ _ _ ) jy_X6_length lm_X2_42 (q0 := 4) rfl jX6.1 ⟨⟨(by dsimp only; omega), (by dsimp only; omega)⟩, (by dsimp only; omega), (by dsimp only; omega)⟩ (Nat.le_of_ble_eq_true rfl) rfl [4, 5] rfl rfl dX2_grow_26 ?_
    intro _ _
    dsimp only [jpush]
    refine J.icmp_leN g dX2_grow_29 (tgt := 43) (by decide) (by omega) (by omega) (fun c_29 => ?_) (fun c_29 => ?_)
    · have hms : (mstep L T).2 = T.2 := if_neg (by omega)
      obtain ⟨ff0, hff⟩ : ∃ z, z = ff := ⟨_, rfl⟩
      rw [← hff]
      have hs2 : mrow (mstep L T).2 ff0 := by rw [hms, hff]; exact hf
      have hs3 : (mstep L T).2.length ≤ 12 := by rw [hms]; exact hfl
      refine J.iload_n g dX2_grow_43 rfl rfl ?_
      refine J.istore g dX2_grow_44 rfl rfl ?_
      try dsimp only [List.set_cons_zero, List.set_cons_succ]
      have lp1 : ∀ (d : Nat) (i : Nat) (T1 : mST) (g1 f1 : Nat → Nat), od - i < d → (1 ≤ i ∧ i ≤ 25) → (mrow L g1) → (mrow T1.2 f1) → (T1.2.length ≤ 12) → (mgr od mf af (dd + 1) L fr sm T = mgl (fun g T => if sm.testBit (jop od af g) then T else mgr od mf af dd (L ++ [g]) g ((sm ||| 1 <<< g) ||| jmoved od mf sm g od) T) (od - i) i T1) → J γ l x [(mu, .inr (2, [.ref ct, .ref gw, .ref fw, .int (nI sg)])), (ct, .inl (γ.2 0, 13, .inl (fun j => nI (T1.1 j)))), (gw, .inr (6, [.ref ge, .int (nI L.length)])), (ge, .inl (γ.2 0, 12, .inl (fun j => nI (g1 j)))), (fw, .inr (6, [.ref fe, .int (nI T1.2.length)])), (fe, .inl (γ.2 0, 12, .inl (fun j => nI (f1 j)))), (gr, .inr (0, [.ref mk, .ref ag, .int (nI cd), .int (nI pt), .int (nI od), .int (nI ex)])), (mk, .inl (γ.2 1, 576, .inl (fun j => nI (mf j)))), (ag, .inl (γ.2 1, 24, .inl (fun j => nI (af j))))] [some (.ref mu), some (.ref gr), some (.int (nI L.length)), some (.int (nI fr)), some (.int (nI sm)), some (.int (nI i))] [] 0 0 46 := by
        intro d
        induction d with
        | zero => intro i T1 g1 f1 hm; exact absurd hm (Nat.not_lt_zero _)
        | succ d ih_lp1 =>
          intro i T1 g1 f1 hm hi h1 h2 h3 hr
          refine J.iload g dX2_grow_46 rfl ?_
          refine J.aload_n g dX2_grow_48 rfl rfl ?_
          refine J.callV0 g (c_X0_order l γ _ _ _ _ _ _ _ _ _ ) jy_X0_order lm_X2_49 (q0 := 6) rfl jX0.1 ⟨⟨(by dsimp only; omega), (by dsimp only; omega)⟩, (by dsimp only; omega), (by dsimp only; omega)⟩ (Nat.le_of_ble_eq_true rfl) rfl [6, 7, 8] rfl rfl dX2_grow_49 ?_
          intro _ _
          dsimp only [jpush]
          refine J.icmp_geN g dX2_grow_52 (tgt := 126) (by decide) (by omega) (by omega) (fun c_52 => ?_) (fun c_52 => ?_)
          · exact J.vret g hE (g1, f1) rfl (by first | (rw [hr]; exact ⟨h1, h2, h3⟩) | (rw [hr, mgl_0 c_52]; exact ⟨h1, h2, h3⟩)) (by first | rw [hr, mgl_0 c_52] | rw [hr]) ⟨Nat.le_of_ble_eq_true rfl, Nat.le_of_ble_eq_true rfl⟩ dX2_grow_126
          · refine J.iload_n g dX2_grow_55 rfl rfl ?_
            refine J.bipush (v := nI 12) g dX2_grow_56 (by decide +kernel) ?_
            refine J.icmp_geN g dX2_grow_58 (tgt := 126) (by decide) (by omega) (by omega) (fun c_58 => absurd c_58 (by omega)) (fun c_58 => ?_)
            refine J.iload g dX2_grow_61 rfl ?_
            refine J.aload_n g dX2_grow_63 rfl rfl ?_
            refine J.iload g dX2_grow_64 rfl ?_
            refine J.callV0 g (c_X0_opposite l γ _ _ _ _ _ _ _ _ _ _ hT (by omega)) jy_X0_opposite lm_X2_52 (q0 := 6) rfl jX0.1 ⟨⟨(by dsimp only; omega), (by dsimp only; omega)⟩, (by dsimp only; omega), (by dsimp only; omega)⟩ (Nat.le_of_ble_eq_true rfl) rfl [6, 7, 8] rfl rfl dX2_grow_66 ?_
            intro _ _
            dsimp only [jpush]
            refine J.callS0 g (c_X0_isIn l γ _ _ (by omega) (by have := jop_24 hT i; omega)) jy_X0_isIn lm_X2_56 ⟨⟨(by dsimp only; omega), (by dsimp only; omega)⟩, (by dsimp only; omega), (by dsimp only; omega)⟩ (Nat.le_of_ble_eq_true rfl) rfl [] rfl rfl dX2_grow_69 ?_
            intro _ _
            dsimp only [jpush]
            refine J.if_neB g dX2_grow_72 (tgt := 120) (by decide) (fun c_72 => ?_) (fun c_72 => ?_)
            · obtain ⟨T2, hT2⟩ : ∃ z, z = T1 := ⟨_, rfl⟩
              obtain ⟨g2, hg2⟩ : ∃ z, z = g1 := ⟨_, rfl⟩
              obtain ⟨f2, hf2⟩ : ∃ z, z = f1 := ⟨_, rfl⟩
              have hn1 : mrow L g2 := hg2 ▸ h1
              have hn2 : mrow T2.2 f2 := by rw [hT2, hf2]; exact h2
              have hn3 : T2.2.length ≤ 12 := hT2 ▸ h3
              have hn4 : mgr od mf af (dd + 1) L fr sm T = mgl (fun g T => if sm.testBit (jop od af g) then T else mgr od mf af dd (L ++ [g]) g ((sm ||| 1 <<< g) ||| jmoved od mf sm g od) T) (od - (i + 1)) (i + 1) T2 := by rw [hr, mgl_s (by omega), hT2]; simp only [c_72, if_true]
              rw [← hT2, ← hg2, ← hf2]
              refine J.iincN g 1 dX2_grow_120 rfl rfl ?_
              try dsimp only [List.set_cons_zero, List.set_cons_succ]
              refine J.goto g dX2_grow_123 (tgt := 46) (by decide) ?_
              exact J.lvle (jle_s (jle_s (jle_s (jle_s (jle_s (jle_s jle_0)))))) (ih_lp1 (i + 1) T2 g2 f2 (by omega) (by omega) hn1 hn2 hn3 hn4)
            · refine J.aload_n g dX2_grow_75 rfl rfl ?_
              refine J.get g jX2 1 (by decide) lf_X2_18 0 rfl rfl dX2_grow_76 ?_
              refine J.iload g dX2_grow_79 rfl ?_
              refine J.callV g (c_X6_append l γ _ _ _ _ _ hd0) jy_X6_append lm_X2_60 (q0 := 2) rfl jX6.1 ⟨⟨(by dsimp only; omega), (by dsimp only; omega)⟩, (by dsimp only; omega), (by dsimp only; omega)⟩ (Nat.le_of_ble_eq_true rfl) rfl [2, 3] rfl (fun _ => rfl) rfl dX2_grow_81 ?_
              intro _ _
              dsimp only [jput, List.set_cons_zero, List.set_cons_succ, Option.toList, List.append, List.cons_append, List.nil_append, List.append_nil]
              refine J.pop g dX2_grow_84 rfl ?_
              refine J.aload_n g dX2_grow_85 rfl rfl ?_
              refine J.aload_n g dX2_grow_86 rfl rfl ?_
              refine J.iload_n g dX2_grow_87 rfl rfl ?_
              refine J.iconstN g 1 dX2_grow_88 ?_
              refine J.iaddN g dX2_grow_89 ?_
              refine J.iload g dX2_grow_90 rfl ?_
              refine J.iload g dX2_grow_92 rfl ?_
              refine J.iconstN g 1 dX2_grow_94 ?_
              refine J.iload g dX2_grow_95 rfl ?_
              refine J.ishl' g dX2_grow_97 (j_shl1 (by omega)) ?_
              refine J.ior' g dX2_grow_98 (j_or _ _) ?_
              refine J.aload_n g dX2_grow_99 rfl rfl ?_
              refine J.iload g dX2_grow_100 rfl ?_
              refine J.iload g dX2_grow_102 rfl ?_
              refine J.callV0 g (c_X0_moved l γ _ _ _ _ _ _ _ _ _ _ _ hT hsm (by omega)) jy_X0_moved lm_X2_64 (q0 := 6) rfl jX0.1 ⟨⟨(by dsimp only; omega), (by dsimp only; omega)⟩, (by dsimp only; omega), (by dsimp only; omega)⟩ (Nat.le_of_ble_eq_true rfl) rfl [6, 7, 8] rfl rfl dX2_grow_104 ?_
              intro _ _
              dsimp only [jpush]
              refine J.ior' g dX2_grow_107 (j_or _ _) ?_
              refine J.callS g (ih mu ct gw ge fw fe sg gr mk ag cd pt od ex mf af _ _ (L ++ [i]) T1 (L.length + 1) i _ hT (by rw [List.length_append]; rfl) (by omega) (mrow_app h1) h2 h3 (Nat.or_lt_two_pow (Nat.or_lt_two_pow hsm (jbit_lt (by omega))) (jmoved_lt hT _ _ _)) (by omega)) jy_X2_grow lm_X2_38 ⟨⟨(by dsimp only; omega), (by dsimp only; omega)⟩, (by dsimp only; omega), (by dsimp only; omega)⟩ (Nat.le_of_ble_eq_true rfl) rfl [0, 1, 2, 3, 4, 5, 6, 7, 8] rfl (fun _ => rfl) rfl dX2_grow_108 ?_
              intro u_108 h_108
              dsimp only [jput, List.set_cons_zero, List.set_cons_succ, Option.toList, List.append, List.cons_append, List.nil_append, List.append_nil]
              refine J.aload_n g dX2_grow_111 rfl rfl ?_
              refine J.get g jX2 1 (by decide) lf_X2_18 0 rfl rfl dX2_grow_112 ?_
              refine J.iload_n g dX2_grow_115 rfl rfl ?_
              refine J.callV g (c_X6_remove l γ _ _ _ _ _ (by omega) (by omega)) jy_X6_remove lm_X2_68 (q0 := 2) rfl jX6.1 ⟨⟨(by dsimp only; omega), (by dsimp only; omega)⟩, (by dsimp only; omega), (by dsimp only; omega)⟩ (Nat.le_of_ble_eq_true rfl) rfl [2, 3] rfl (fun _ => rfl) rfl dX2_grow_116 ?_
              intro u_116 h_116
              dsimp only [jput, List.set_cons_zero, List.set_cons_succ, Option.toList, List.append, List.cons_append, List.nil_append, List.append_nil]
              have hu116 : ∀ j, u_116 j = u_108.1 j := fun j => by rw [h_116, if_neg (by omega)]
              obtain ⟨T2, hT2⟩ : ∃ z, z = mgr od mf af dd (L ++ [i]) i ((sm ||| 1 <<< i) ||| jmoved od mf sm i od) T1 := ⟨_, rfl⟩
              obtain ⟨g2, hg2⟩ : ∃ z, z = u_116 := ⟨_, rfl⟩
              obtain ⟨f2, hf2⟩ : ∃ z, z = u_108.2 := ⟨_, rfl⟩
              rw [← hT2] at h_108 ⊢
              have hn1 : mrow L g2 := by rw [hg2]; exact mrow_eq (mrow_pre h_108.1) (fun k _ => hu116 k)
              have hn2 : mrow T2.2 f2 := by rw [hf2]; exact h_108.2.1
              have hn3 : T2.2.length ≤ 12 := h_108.2.2
              have hn4 : mgr od mf af (dd + 1) L fr sm T = mgl (fun g T => if sm.testBit (jop od af g) then T else mgr od mf af dd (L ++ [g]) g ((sm ||| 1 <<< g) ||| jmoved od mf sm g od) T) (od - (i + 1)) (i + 1) T2 := by rw [hr, mgl_s (by omega), hT2]; simp only [c_72]; rfl
              rw [← hg2, ← hf2]
              refine J.pop g dX2_grow_119 rfl ?_
              refine J.iincN g 1 dX2_grow_120 rfl rfl ?_
              try dsimp only [List.set_cons_zero, List.set_cons_succ]
              refine J.goto g dX2_grow_123 (tgt := 46) (by decide) ?_
              exact J.lvle (jle_s (jle_s (jle_s (jle_s (jle_s (jle_s jle_0)))))) (ih_lp1 (i + 1) T2 g2 f2 (by omega) (by omega) hn1 hn2 hn3 hn4)
      have ih2 := lp1 _ fr (mstep L T) gf ff0 (Nat.lt_succ_self _) (by omega) hg hs2 hs3 rfl
      rw [hms] at ih2
      exact J.lvle (jle_s (jle_s (jle_s (jle_s (jle_s (jle_s jle_0)))))) ih2
    · refine J.aload_n g dX2_grow_32 rfl rfl ?_
      refine J.get g jX2 2 (by decide) lf_X2_22 0 rfl rfl dX2_grow_33 ?_
      refine J.aload_n g dX2_grow_36 rfl rfl ?_
      refine J.get g jX2 1 (by decide) lf_X2_18 0 rfl rfl dX2_grow_37 ?_
      refine J.callV g (c_X6_copyFrom l γ _ _ _ _ _ _ _ _ hL) jy_X6_copyFrom lm_X2_45 (q0 := 4) rfl jX6.1 ⟨⟨(by dsimp only; omega), (by dsimp only; omega)⟩, (by dsimp only; omega), (by dsimp only; omega)⟩ (Nat.le_of_ble_eq_true rfl) rfl [4, 5, 2, 3] rfl (fun _ => rfl) rfl dX2_grow_40 ?_
      intro u_40 h_40
      dsimp only [jput, List.set_cons_zero, List.set_cons_succ, Option.toList, List.append, List.cons_append, List.nil_append, List.append_nil]
      have hms : (mstep L T).2 = L := if_pos c_29
      obtain ⟨ff0, hff⟩ : ∃ z, z = u_40 := ⟨_, rfl⟩
      rw [← hff]
      have hs2 : mrow (mstep L T).2 ff0 := by rw [hms, hff]; exact mrow_eq hg h_40
      have hs3 : (mstep L T).2.length ≤ 12 := by rw [hms]; exact hL
      refine J.iload_n g dX2_grow_43 rfl rfl ?_
      refine J.istore g dX2_grow_44 rfl rfl ?_
      try dsimp only [List.set_cons_zero, List.set_cons_succ]
      have lp1 : ∀ (d : Nat) (i : Nat) (T1 : mST) (g1 f1 : Nat → Nat), od - i < d → (1 ≤ i ∧ i ≤ 25) → (mrow L g1) → (mrow T1.2 f1) → (T1.2.length ≤ 12) → (mgr od mf af (dd + 1) L fr sm T = mgl (fun g T => if sm.testBit (jop od af g) then T else mgr od mf af dd (L ++ [g]) g ((sm ||| 1 <<< g) ||| jmoved od mf sm g od) T) (od - i) i T1) → J γ l x [(mu, .inr (2, [.ref ct, .ref gw, .ref fw, .int (nI sg)])), (ct, .inl (γ.2 0, 13, .inl (fun j => nI (T1.1 j)))), (gw, .inr (6, [.ref ge, .int (nI L.length)])), (ge, .inl (γ.2 0, 12, .inl (fun j => nI (g1 j)))), (fw, .inr (6, [.ref fe, .int (nI T1.2.length)])), (fe, .inl (γ.2 0, 12, .inl (fun j => nI (f1 j)))), (gr, .inr (0, [.ref mk, .ref ag, .int (nI cd), .int (nI pt), .int (nI od), .int (nI ex)])), (mk, .inl (γ.2 1, 576, .inl (fun j => nI (mf j)))), (ag, .inl (γ.2 1, 24, .inl (fun j => nI (af j))))] [some (.ref mu), some (.ref gr), some (.int (nI L.length)), some (.int (nI fr)), some (.int (nI sm)), some (.int (nI i))] [] 0 0 46 := by
        intro d
        induction d with
        | zero => intro i T1 g1 f1 hm; exact absurd hm (Nat.not_lt_zero _)
        | succ d ih_lp1 =>
          intro i T1 g1 f1 hm hi h1 h2 h3 hr
          refine J.iload g dX2_grow_46 rfl ?_
          refine J.aload_n g dX2_grow_48 rfl rfl ?_
          refine J.callV0 g (c_X0_order l γ _ _ _ _ _ _ _ _ _ ) jy_X0_order lm_X2_49 (q0 := 6) rfl jX0.1 ⟨⟨(by dsimp only; omega), (by dsimp only; omega)⟩, (by dsimp only; omega), (by dsimp only; omega)⟩ (Nat.le_of_ble_eq_true rfl) rfl [6, 7, 8] rfl rfl dX2_grow_49 ?_
          intro _ _
          dsimp only [jpush]
          refine J.icmp_geN g dX2_grow_52 (tgt := 126) (by decide) (by omega) (by omega) (fun c_52 => ?_) (fun c_52 => ?_)
          · exact J.vret g hE (g1, f1) rfl (by first | (rw [hr]; exact ⟨h1, h2, h3⟩) | (rw [hr, mgl_0 c_52]; exact ⟨h1, h2, h3⟩)) (by first | rw [hr, mgl_0 c_52] | rw [hr]) ⟨Nat.le_of_ble_eq_true rfl, Nat.le_of_ble_eq_true rfl⟩ dX2_grow_126
          · refine J.iload_n g dX2_grow_55 rfl rfl ?_
            refine J.bipush (v := nI 12) g dX2_grow_56 (by decide +kernel) ?_
            refine J.icmp_geN g dX2_grow_58 (tgt := 126) (by decide) (by omega) (by omega) (fun c_58 => absurd c_58 (by omega)) (fun c_58 => ?_)
            refine J.iload g dX2_grow_61 rfl ?_
            refine J.aload_n g dX2_grow_63 rfl rfl ?_
            refine J.iload g dX2_grow_64 rfl ?_
            refine J.callV0 g (c_X0_opposite l γ _ _ _ _ _ _ _ _ _ _ hT (by omega)) jy_X0_opposite lm_X2_52 (q0 := 6) rfl jX0.1 ⟨⟨(by dsimp only; omega), (by dsimp only; omega)⟩, (by dsimp only; omega), (by dsimp only; omega)⟩ (Nat.le_of_ble_eq_true rfl) rfl [6, 7, 8] rfl rfl dX2_grow_66 ?_
            intro _ _
            dsimp only [jpush]
            refine J.callS0 g (c_X0_isIn l γ _ _ (by omega) (by have := jop_24 hT i; omega)) jy_X0_isIn lm_X2_56 ⟨⟨(by dsimp only; omega), (by dsimp only; omega)⟩, (by dsimp only; omega), (by dsimp only; omega)⟩ (Nat.le_of_ble_eq_true rfl) rfl [] rfl rfl dX2_grow_69 ?_
            intro _ _
            dsimp only [jpush]
            refine J.if_neB g dX2_grow_72 (tgt := 120) (by decide) (fun c_72 => ?_) (fun c_72 => ?_)
            · obtain ⟨T2, hT2⟩ : ∃ z, z = T1 := ⟨_, rfl⟩
              obtain ⟨g2, hg2⟩ : ∃ z, z = g1 := ⟨_, rfl⟩
              obtain ⟨f2, hf2⟩ : ∃ z, z = f1 := ⟨_, rfl⟩
              have hn1 : mrow L g2 := hg2 ▸ h1
              have hn2 : mrow T2.2 f2 := by rw [hT2, hf2]; exact h2
              have hn3 : T2.2.length ≤ 12 := hT2 ▸ h3
              have hn4 : mgr od mf af (dd + 1) L fr sm T = mgl (fun g T => if sm.testBit (jop od af g) then T else mgr od mf af dd (L ++ [g]) g ((sm ||| 1 <<< g) ||| jmoved od mf sm g od) T) (od - (i + 1)) (i + 1) T2 := by rw [hr, mgl_s (by omega), hT2]; simp only [c_72, if_true]
              rw [← hT2, ← hg2, ← hf2]
              refine J.iincN g 1 dX2_grow_120 rfl rfl ?_
              try dsimp only [List.set_cons_zero, List.set_cons_succ]
              refine J.goto g dX2_grow_123 (tgt := 46) (by decide) ?_
              exact J.lvle (jle_s (jle_s (jle_s (jle_s (jle_s (jle_s jle_0)))))) (ih_lp1 (i + 1) T2 g2 f2 (by omega) (by omega) hn1 hn2 hn3 hn4)
            · refine J.aload_n g dX2_grow_75 rfl rfl ?_
              refine J.get g jX2 1 (by decide) lf_X2_18 0 rfl rfl dX2_grow_76 ?_
              refine J.iload g dX2_grow_79 rfl ?_
              refine J.callV g (c_X6_append l γ _ _ _ _ _ hd0) jy_X6_append lm_X2_60 (q0 := 2) rfl jX6.1 ⟨⟨(by dsimp only; omega), (by dsimp only; omega)⟩, (by dsimp only; omega), (by dsimp only; omega)⟩ (Nat.le_of_ble_eq_true rfl) rfl [2, 3] rfl (fun _ => rfl) rfl dX2_grow_81 ?_
              intro _ _
              dsimp only [jput, List.set_cons_zero, List.set_cons_succ, Option.toList, List.append, List.cons_append, List.nil_append, List.append_nil]
              refine J.pop g dX2_grow_84 rfl ?_
              refine J.aload_n g dX2_grow_85 rfl rfl ?_
              refine J.aload_n g dX2_grow_86 rfl rfl ?_
              refine J.iload_n g dX2_grow_87 rfl rfl ?_
              refine J.iconstN g 1 dX2_grow_88 ?_
              refine J.iaddN g dX2_grow_89 ?_
              refine J.iload g dX2_grow_90 rfl ?_
              refine J.iload g dX2_grow_92 rfl ?_
              refine J.iconstN g 1 dX2_grow_94 ?_
              refine J.iload g dX2_grow_95 rfl ?_
              refine J.ishl' g dX2_grow_97 (j_shl1 (by omega)) ?_
              refine J.ior' g dX2_grow_98 (j_or _ _) ?_
              refine J.aload_n g dX2_grow_99 rfl rfl ?_
              refine J.iload g dX2_grow_100 rfl ?_
              refine J.iload g dX2_grow_102 rfl ?_
              refine J.callV0 g (c_X0_moved l γ _ _ _ _ _ _ _ _ _ _ _ hT hsm (by omega)) jy_X0_moved lm_X2_64 (q0 := 6) rfl jX0.1 ⟨⟨(by dsimp only; omega), (by dsimp only; omega)⟩, (by dsimp only; omega), (by dsimp only; omega)⟩ (Nat.le_of_ble_eq_true rfl) rfl [6, 7, 8] rfl rfl dX2_grow_104 ?_
              intro _ _
              dsimp only [jpush]
              refine J.ior' g dX2_grow_107 (j_or _ _) ?_
              refine J.callS g (ih mu ct gw ge fw fe sg gr mk ag cd pt od ex mf af _ _ (L ++ [i]) T1 (L.length + 1) i _ hT (by rw [List.length_append]; rfl) (by omega) (mrow_app h1) h2 h3 (Nat.or_lt_two_pow (Nat.or_lt_two_pow hsm (jbit_lt (by omega))) (jmoved_lt hT _ _ _)) (by omega)) jy_X2_grow lm_X2_38 ⟨⟨(by dsimp only; omega), (by dsimp only; omega)⟩, (by dsimp only; omega), (by dsimp only; omega)⟩ (Nat.le_of_ble_eq_true rfl) rfl [0, 1, 2, 3, 4, 5, 6, 7, 8] rfl (fun _ => rfl) rfl dX2_grow_108 ?_
              intro u_108 h_108
              dsimp only [jput, List.set_cons_zero, List.set_cons_succ, Option.toList, List.append, List.cons_append, List.nil_append, List.append_nil]
              refine J.aload_n g dX2_grow_111 rfl rfl ?_
              refine J.get g jX2 1 (by decide) lf_X2_18 0 rfl rfl dX2_grow_112 ?_
              refine J.iload_n g dX2_grow_115 rfl rfl ?_
              refine J.callV g (c_X6_remove l γ _ _ _ _ _ (by omega) (by omega)) jy_X6_remove lm_X2_68 (q0 := 2) rfl jX6.1 ⟨⟨(by dsimp only; omega), (by dsimp only; omega)⟩, (by dsimp only; omega), (by dsimp only; omega)⟩ (Nat.le_of_ble_eq_true rfl) rfl [2, 3] rfl (fun _ => rfl) rfl dX2_grow_116 ?_
              intro u_116 h_116
              dsimp only [jput, List.set_cons_zero, List.set_cons_succ, Option.toList, List.append, List.cons_append, List.nil_append, List.append_nil]
              have hu116 : ∀ j, u_116 j = u_108.1 j := fun j => by rw [h_116, if_neg (by omega)]
              obtain ⟨T2, hT2⟩ : ∃ z, z = mgr od mf af dd (L ++ [i]) i ((sm ||| 1 <<< i) ||| jmoved od mf sm i od) T1 := ⟨_, rfl⟩
              obtain ⟨g2, hg2⟩ : ∃ z, z = u_116 := ⟨_, rfl⟩
              obtain ⟨f2, hf2⟩ : ∃ z, z = u_108.2 := ⟨_, rfl⟩
              rw [← hT2] at h_108 ⊢
              have hn1 : mrow L g2 := by rw [hg2]; exact mrow_eq (mrow_pre h_108.1) (fun k _ => hu116 k)
              have hn2 : mrow T2.2 f2 := by rw [hf2]; exact h_108.2.1
              have hn3 : T2.2.length ≤ 12 := h_108.2.2
              have hn4 : mgr od mf af (dd + 1) L fr sm T = mgl (fun g T => if sm.testBit (jop od af g) then T else mgr od mf af dd (L ++ [g]) g ((sm ||| 1 <<< g) ||| jmoved od mf sm g od) T) (od - (i + 1)) (i + 1) T2 := by rw [hr, mgl_s (by omega), hT2]; simp only [c_72]; rfl
              rw [← hg2, ← hf2]
              refine J.pop g dX2_grow_119 rfl ?_
              refine J.iincN g 1 dX2_grow_120 rfl rfl ?_
              try dsimp only [List.set_cons_zero, List.set_cons_succ]
              refine J.goto g dX2_grow_123 (tgt := 46) (by decide) ?_
              exact J.lvle (jle_s (jle_s (jle_s (jle_s (jle_s (jle_s jle_0)))))) (ih_lp1 (i + 1) T2 g2 f2 (by omega) (by omega) hn1 hn2 hn3 hn4)
      have ih2 := lp1 _ fr (mstep L T) gf ff0 (Nat.lt_succ_self _) (by omega) hg hs2 hs3 rfl
      rw [hms] at ih2
      exact J.lvle (jle_s (jle_s (jle_s (jle_s (jle_s (jle_s jle_0)))))) ih2
