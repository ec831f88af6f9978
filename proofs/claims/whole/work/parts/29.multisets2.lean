set_option maxHeartbeats 4000000 in
set_option maxRecDepth 100000 in
theorem c_X2_howManyOf (l : Launch) (γ : jγ) (mu ct gw ge fw fe sg gl fl : Nat) (C gf ff : Nat → Nat) (n : Nat) (hn : n ≤ 12) : jM (S := Unit) l γ yX2_howManyOf cX2_howManyOf 2 (some .int) ({ frames := 0, cells := 0, slots := 0, locals := 0 } : Room) [.ref mu, .int (nI n)] [(mu, .inr (2, [.ref ct, .ref gw, .ref fw, .int (nI sg)])), (ct, .inl (γ.2 0, 13, .inl (fun j => nI (C j)))), (gw, .inr (6, [.ref ge, .int (nI gl)])), (ge, .inl (γ.2 0, 12, .inl (fun j => nI (gf j)))), (fw, .inr (6, [.ref fe, .int (nI fl)])), (fe, .inl (γ.2 0, 12, .inl (fun j => nI (ff j))))] (fun w0 => some (.int (nI (C n)))) (fun w0 => [(mu, .inr (2, [.ref ct, .ref gw, .ref fw, .int (nI sg)])), (ct, .inl (γ.2 0, 13, .inl (fun j => nI (C j)))), (gw, .inr (6, [.ref ge, .int (nI gl)])), (ge, .inl (γ.2 0, 12, .inl (fun j => nI (gf j)))), (fw, .inr (6, [.ref fe, .int (nI fl)])), (fe, .inl (γ.2 0, 12, .inl (fun j => nI (ff j))))]) (fun w0 => True) := by
  refine jM.of [some (.ref mu), some (.int (nI n))] rfl (Nat.le_of_ble_eq_true rfl) (by decide) ?_
  intro x g hE hin
  refine J.iload_n g dX2_howManyOf_0 rfl rfl ?_
  refine J.if_ltN g dX2_howManyOf_1 (tgt := 19) (by decide) (by omega) ?_
  refine J.iload_n g dX2_howManyOf_4 rfl rfl ?_
  refine J.bipush (v := nI 12) g dX2_howManyOf_5 (by decide +kernel) ?_
  refine J.icmp_gtN g dX2_howManyOf_7 (tgt := 19) (by decide) (by omega) (by omega) (fun c_7 => absurd c_7 (by omega)) (fun c_7 => ?_)
  refine J.aload_n g dX2_howManyOf_10 rfl rfl ?_
  refine J.get g jX2 0 (by decide) lf_X2_9 0 rfl rfl dX2_howManyOf_11 ?_
  refine J.iload_n g dX2_howManyOf_14 rfl rfl ?_
  refine J.ialdN g 1 rfl (by omega) (by decide) dX2_howManyOf_15 ?_
  refine J.goto g dX2_howManyOf_16 (tgt := 20) (by decide) ?_
  exact J.iret g hE () rfl trivial rfl ⟨Nat.le_of_ble_eq_true rfl, Nat.le_of_ble_eq_true rfl⟩ dX2_howManyOf_20
set_option maxHeartbeats 4000000 in
set_option maxRecDepth 100000 in
theorem c_X2_firstLongest (l : Launch) (γ : jγ) (mu ct gw fw sg : Nat)  : jM (S := Unit) l γ yX2_firstLongest cX2_firstLongest 1 (some (.object "NoughtSums$Row")) ({ frames := 0, cells := 0, slots := 0, locals := 0 } : Room) [.ref mu] [(mu, .inr (2, [.ref ct, .ref gw, .ref fw, .int (nI sg)]))] (fun w0 => some (.ref fw)) (fun w0 => [(mu, .inr (2, [.ref ct, .ref gw, .ref fw, .int (nI sg)]))]) (fun w0 => True) := by
  refine jM.of [some (.ref mu)] rfl (Nat.le_of_ble_eq_true rfl) (by decide) ?_
  intro x g hE hin
  refine J.aload_n g dX2_firstLongest_0 rfl rfl ?_
  refine J.get g jX2 2 (by decide) lf_X2_22 0 rfl rfl dX2_firstLongest_1 ?_
  exact J.aret (Or.inr ⟨_, rfl⟩) g hE () rfl trivial rfl ⟨Nat.le_of_ble_eq_true rfl, Nat.le_of_ble_eq_true rfl⟩ dX2_firstLongest_4
set_option maxHeartbeats 4000000 in
set_option maxRecDepth 100000 in
theorem c_X2_study (l : Launch) (γ : jγ) (mu ct gw ge fw fe sg gl fl : Nat) (C gf ff : Nat → Nat) (gr mk ag cd pt od ex : Nat) (mf af : Nat → Nat) (hG : gIs cd pt od ex mf af) (h0 : cd ≠ 0) (hsg : sg < 2 ^ 15) (hV : sg ≠ 0 → mPV sg C fl ff) : jM (S := (Nat → Nat) × (Nat × (Nat → Nat)) × (Nat × (Nat → Nat))) l γ yX2_study cX2_study 3 none ({ frames := 31, cells := 0, slots := 0, locals := 625 } : Room) [.ref mu, .ref gr] [(mu, .inr (2, [.ref ct, .ref gw, .ref fw, .int (nI sg)])), (ct, .inl (γ.2 0, 13, .inl (fun j => nI (C j)))), (gw, .inr (6, [.ref ge, .int (nI gl)])), (ge, .inl (γ.2 0, 12, .inl (fun j => nI (gf j)))), (fw, .inr (6, [.ref fe, .int (nI fl)])), (fe, .inl (γ.2 0, 12, .inl (fun j => nI (ff j)))), (gr, .inr (0, [.ref mk, .ref ag, .int (nI cd), .int (nI pt), .int (nI od), .int (nI ex)])), (mk, .inl (γ.2 1, 576, .inl (fun j => nI (mf j)))), (ag, .inl (γ.2 1, 24, .inl (fun j => nI (af j))))] (fun u => none) (fun u => [(mu, .inr (2, [.ref ct, .ref gw, .ref fw, .int (nI cd)])), (ct, .inl (γ.2 0, 13, .inl (fun j => nI (u.1 j)))), (gw, .inr (6, [.ref ge, .int (nI u.2.1.1)])), (ge, .inl (γ.2 0, 12, .inl (fun j => nI (u.2.1.2 j)))), (fw, .inr (6, [.ref fe, .int (nI u.2.2.1)])), (fe, .inl (γ.2 0, 12, .inl (fun j => nI (u.2.2.2 j)))), (gr, .inr (0, [.ref mk, .ref ag, .int (nI cd), .int (nI pt), .int (nI od), .int (nI ex)])), (mk, .inl (γ.2 1, 576, .inl (fun j => nI (mf j)))), (ag, .inl (γ.2 1, 24, .inl (fun j => nI (af j))))]) (fun u => mPV cd u.1 u.2.2.1 u.2.2.2) := by
  refine jM.of [some (.ref mu), some (.ref gr), none] rfl (Nat.le_of_ble_eq_true rfl) (by decide) ?_
  intro x g hE hin
  have hT := hG.tab
  have hcd := (g_small cd hG.1).1
  refine J.aload_n g dX2_study_0 rfl rfl ?_
  refine J.callV0 g (c_X0_code l γ _ _ _ _ _ _ _ _ _ ) jy_X0_code lm_X2_29 (q0 := 6) rfl jX0.1 ⟨⟨Nat.le_of_ble_eq_true rfl, Nat.le_of_ble_eq_true rfl⟩, Nat.le_of_ble_eq_true rfl, Nat.le_of_ble_eq_true rfl⟩ (Nat.le_of_ble_eq_true rfl) rfl [6, 7, 8] rfl rfl dX2_study_1 ?_
  intro _ _
  dsimp only [jpush]
  refine J.aload_n g dX2_study_4 rfl rfl ?_
  refine J.get g jX2 3 (by decide) lf_X2_25 0 rfl rfl dX2_study_5 ?_
  refine J.icmp_neN g dX2_study_8 (tgt := 12) (by decide) (by omega) (by omega) (fun c_8 => ?_) (fun c_8 => ?_)
  · refine J.aload_n g dX2_study_12 rfl rfl ?_
    refine J.aload_n g dX2_study_13 rfl rfl ?_
    refine J.callV0 g (c_X0_code l γ _ _ _ _ _ _ _ _ _ ) jy_X0_code lm_X2_29 (q0 := 6) rfl jX0.1 ⟨⟨Nat.le_of_ble_eq_true rfl, Nat.le_of_ble_eq_true rfl⟩, Nat.le_of_ble_eq_true rfl, Nat.le_of_ble_eq_true rfl⟩ (Nat.le_of_ble_eq_true rfl) rfl [6, 7, 8] rfl rfl dX2_study_14 ?_
    intro _ _
    dsimp only [jpush]
    refine J.put g jX2 3 (by decide) lf_X2_25 0 rfl rfl (Nat.le_of_ble_eq_true rfl) rfl rfl dX2_study_17 ?_
    try dsimp only [List.set_cons_zero, List.set_cons_succ]
    refine J.iconstN g 0 dX2_study_20 ?_
    refine J.istore_n g dX2_study_21 rfl rfl rfl ?_
    try dsimp only [List.set_cons_zero, List.set_cons_succ]
    have lp : ∀ (d : Nat) (i : Nat) (C1 : Nat → Nat), 13 - i < d → (i ≤ 13) → (∀ k, k < i → C1 k = 0) → J γ l x [(mu, .inr (2, [.ref ct, .ref gw, .ref fw, .int (nI cd)])), (ct, .inl (γ.2 0, 13, .inl (fun j => nI (C1 j)))), (gw, .inr (6, [.ref ge, .int (nI gl)])), (ge, .inl (γ.2 0, 12, .inl (fun j => nI (gf j)))), (fw, .inr (6, [.ref fe, .int (nI fl)])), (fe, .inl (γ.2 0, 12, .inl (fun j => nI (ff j)))), (gr, .inr (0, [.ref mk, .ref ag, .int (nI cd), .int (nI pt), .int (nI od), .int (nI ex)])), (mk, .inl (γ.2 1, 576, .inl (fun j => nI (mf j)))), (ag, .inl (γ.2 1, 24, .inl (fun j => nI (af j))))] [some (.ref mu), some (.ref gr), some (.int (nI i))] [] 0 0 22 := by
      intro d
      induction d with
      | zero => intro i C1 hm; exact absurd hm (Nat.not_lt_zero _)
      | succ d ih_lp =>
        intro i C1 hm hi hh
        refine J.iload_n g dX2_study_22 rfl rfl ?_
        refine J.bipush (v := nI 12) g dX2_study_23 (by decide +kernel) ?_
        refine J.icmp_gtN g dX2_study_25 (tgt := 41) (by decide) (by omega) (by omega) (fun c_25 => ?_) (fun c_25 => ?_)
        · refine J.aload_n g dX2_study_41 rfl rfl ?_
          refine J.get g jX2 1 (by decide) lf_X2_18 0 rfl rfl dX2_study_42 ?_
          refine J.callV g (c_X6_clear l γ _ _ _ _ ) jy_X6_clear lm_X2_35 (q0 := 2) rfl jX6.1 ⟨⟨Nat.le_of_ble_eq_true rfl, Nat.le_of_ble_eq_true rfl⟩, Nat.le_of_ble_eq_true rfl, Nat.le_of_ble_eq_true rfl⟩ (Nat.le_of_ble_eq_true rfl) rfl [2, 3] rfl (fun _ => rfl) rfl dX2_study_45 ?_
          intro _ _
          dsimp only [jput, List.set_cons_zero, List.set_cons_succ, Option.toList, List.append, List.cons_append, List.nil_append, List.append_nil]
          refine J.aload_n g dX2_study_48 rfl rfl ?_
          refine J.get g jX2 2 (by decide) lf_X2_22 0 rfl rfl dX2_study_49 ?_
          refine J.callV g (c_X6_clear l γ _ _ _ _ ) jy_X6_clear lm_X2_35 (q0 := 4) rfl jX6.1 ⟨⟨Nat.le_of_ble_eq_true rfl, Nat.le_of_ble_eq_true rfl⟩, Nat.le_of_ble_eq_true rfl, Nat.le_of_ble_eq_true rfl⟩ (Nat.le_of_ble_eq_true rfl) rfl [4, 5] rfl (fun _ => rfl) rfl dX2_study_52 ?_
          intro _ _
          dsimp only [jput, List.set_cons_zero, List.set_cons_succ, Option.toList, List.append, List.cons_append, List.nil_append, List.append_nil]
          refine J.aload_n g dX2_study_55 rfl rfl ?_
          refine J.aload_n g dX2_study_56 rfl rfl ?_
          refine J.iconstN g 0 dX2_study_57 ?_
          refine J.iconstN g 1 dX2_study_58 ?_
          refine J.iconstN g 0 dX2_study_59 ?_
          refine J.callS g (c_X2_grow l γ 12 mu ct gw ge fw fe cd gr mk ag cd pt od ex mf af gf ff [] (C1, []) 0 1 0 hT rfl rfl (fun k hk => absurd hk (Nat.not_lt_zero _)) (fun k hk => absurd hk (Nat.not_lt_zero _)) (Nat.zero_le _) (by decide) (by decide)) jy_X2_grow lm_X2_38 ⟨⟨Nat.le_of_ble_eq_true rfl, Nat.le_of_ble_eq_true rfl⟩, Nat.le_of_ble_eq_true rfl, Nat.le_of_ble_eq_true rfl⟩ (Nat.le_of_ble_eq_true rfl) rfl [0, 1, 2, 3, 4, 5, 6, 7, 8] rfl (fun _ => rfl) rfl dX2_study_60 ?_
          intro u_60 h_60
          dsimp only [jput, List.set_cons_zero, List.set_cons_succ, Option.toList, List.append, List.cons_append, List.nil_append, List.append_nil]
          exact J.vret g hE (_, (_, u_60.1), (_, u_60.2)) rfl (mPV_of hG (T := (C1, [])) (fun k hk => hh k (by omega)) rfl h_60.2.1 h_60.2.2) rfl ⟨Nat.le_of_ble_eq_true rfl, Nat.le_of_ble_eq_true rfl⟩ dX2_study_63
        · refine J.aload_n g dX2_study_28 rfl rfl ?_
          refine J.get g jX2 0 (by decide) lf_X2_9 0 rfl rfl dX2_study_29 ?_
          refine J.iload_n g dX2_study_32 rfl rfl ?_
          refine J.iconstN g 0 dX2_study_33 ?_
          refine J.iastN g 1 rfl (by omega) (by decide) dX2_study_34 ?_
          try dsimp only [List.set_cons_zero, List.set_cons_succ]
          refine J.iincN g 1 dX2_study_35 rfl rfl ?_
          try dsimp only [List.set_cons_zero, List.set_cons_succ]
          refine J.goto g dX2_study_38 (tgt := 22) (by decide) ?_
          exact J.lvle (jle_s (jle_s (jle_s jle_0))) (ih_lp (i + 1) (va_up C1 i 0) (by omega) (by omega) (up_lt (P := fun _ v => v = 0) hh rfl))
    exact J.lvle (jle_s (jle_s (jle_s jle_0))) (lp _ 0 C (Nat.lt_succ_self _) (by omega) (fun k h => absurd h (Nat.not_lt_zero _)))
  · exact J.vret g hE (C, (gl, gf), (fl, ff)) rfl (by rw [c_8]; exact hV (by rw [← c_8]; exact h0)) (by rw [c_8]) ⟨Nat.le_of_ble_eq_true rfl, Nat.le_of_ble_eq_true rfl⟩ dX2_study_11
