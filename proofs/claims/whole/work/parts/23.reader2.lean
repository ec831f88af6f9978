set_option maxHeartbeats 4000000 in
set_option maxRecDepth 100000 in
theorem c_X5_passSemicolon (l : Launch) (γ : jγ) (rd tp tb tl rr rre : Nat) (tf : Nat → Int32) (q : jRS) (hl : tl ≤ 340) (hq : jRB q) : jM (S := jRS) l γ yX5_passSemicolon cX5_passSemicolon 1 (some .boolean) ({ frames := 6, cells := 0, slots := 0, locals := 133 } : Room) [.ref rd] [(rd, .inr (5, [.ref tp, .int (nI q.1.1), .int (nI q.1.2.1), .int (nI q.1.2.2.1), .int (nI q.1.2.2.2), .int (nI q.2.1.1), .int (nI q.2.1.2), .int (nI q.2.2.1.1), .int (nI q.2.2.1.2.1), .int q.2.2.1.2.2, .ref rr])), (tp, .inr (9, [.ref tb, .int (nI tl)])), (tb, .inl (γ.2 1, 340, .inl tf)), (rr, .inr (6, [.ref rre, .int (nI q.2.2.2.1)])), (rre, .inl (γ.2 0, 12, .inl (fun j => nI ((q.2.2.2.2) j))))] (fun u => some (.int (jB ((jrSemi (jbs tf) tl q).1)))) (fun u => [(rd, .inr (5, [.ref tp, .int (nI u.1.1), .int (nI u.1.2.1), .int (nI u.1.2.2.1), .int (nI u.1.2.2.2), .int (nI u.2.1.1), .int (nI u.2.1.2), .int (nI u.2.2.1.1), .int (nI u.2.2.1.2.1), .int u.2.2.1.2.2, .ref rr])), (tp, .inr (9, [.ref tb, .int (nI tl)])), (tb, .inl (γ.2 1, 340, .inl tf)), (rr, .inr (6, [.ref rre, .int (nI u.2.2.2.1)])), (rre, .inl (γ.2 0, 12, .inl (fun j => nI ((u.2.2.2.2) j))))]) (fun u => u = (jrSemi (jbs tf) tl q).2) := by
  refine jM.of [some (.ref rd)] rfl (Nat.le_of_ble_eq_true rfl) (by decide) ?_
  intro x g hE hin
  refine J.aload_n g dX5_passSemicolon_0 rfl rfl ?_
  refine J.get g jX5 2 (by decide) lf_X5_22 0 rfl rfl dX5_passSemicolon_1 ?_
  refine J.iconstN g 3 dX5_passSemicolon_4 ?_
  refine J.icmp_eqN g dX5_passSemicolon_5 (tgt := 14) (by decide) (by have := hq.1.2.1; omega) (by omega) (fun c_5 => ?_) (fun c_5 => ?_)
  · refine J.aload_n g dX5_passSemicolon_14 rfl rfl ?_
    refine J.callV g (c_X5_readToken l γ _ _ _ _ _ _ _ q hl hq) jy_X5_readToken lm_X5_56 (q0 := 0) rfl jX5.1 ⟨⟨Nat.le_of_ble_eq_true rfl, Nat.le_of_ble_eq_true rfl⟩, Nat.le_of_ble_eq_true rfl, Nat.le_of_ble_eq_true rfl⟩ (Nat.le_of_ble_eq_true rfl) rfl [0, 1, 2, 3, 4] rfl (fun _ => rfl) rfl dX5_passSemicolon_15 ?_
    intro u_15 h_15
    dsimp only [jput, List.set_cons_zero, List.set_cons_succ, Option.toList, List.append, List.cons_append, List.nil_append, List.append_nil]
    refine J.iconstN g 1 dX5_passSemicolon_18 ?_
    exact J.zret (by first | rfl | exact j_nz _) g hE u_15 (jB_t (by rw [jrSemi, if_pos c_5])) (by rw [jrSemi, if_pos c_5]; exact h_15) rfl ⟨Nat.le_of_ble_eq_true rfl, Nat.le_of_ble_eq_true rfl⟩ dX5_passSemicolon_19
  · refine J.aload_n g dX5_passSemicolon_8 rfl rfl ?_
    refine J.iconstN g 1 dX5_passSemicolon_9 ?_
    refine J.callV g (c_X5_fail l γ _ _ _ _ _ _ _ q 1 ) jy_X5_fail lm_X5_66 (q0 := 0) rfl jX5.1 ⟨⟨Nat.le_of_ble_eq_true rfl, Nat.le_of_ble_eq_true rfl⟩, Nat.le_of_ble_eq_true rfl, Nat.le_of_ble_eq_true rfl⟩ (Nat.le_of_ble_eq_true rfl) rfl [0, 1, 2, 3, 4] rfl (fun _ => rfl) rfl dX5_passSemicolon_10 ?_
    intro u_10 h_10
    dsimp only [jput, List.set_cons_zero, List.set_cons_succ, Option.toList, List.append, List.cons_append, List.nil_append, List.append_nil]
    exact J.zret (by first | rfl | exact j_nz _) g hE u_10 (by rw [jrSemi, if_neg c_5]) (by rw [jrSemi, if_neg c_5]; exact h_10) rfl ⟨Nat.le_of_ble_eq_true rfl, Nat.le_of_ble_eq_true rfl⟩ dX5_passSemicolon_13
set_option maxHeartbeats 4000000 in
set_option maxRecDepth 100000 in
theorem c_X5_readElement (l : Launch) (γ : jγ) (rd tp tb tl rr rre : Nat) (tf : Nat → Int32) (q : jRS) (hl : tl ≤ 340) (hq : jRB q) : jM (S := jRS) l γ yX5_readElement cX5_readElement 3 (some .int) ({ frames := 6, cells := 0, slots := 0, locals := 133 } : Room) [.ref rd] [(rd, .inr (5, [.ref tp, .int (nI q.1.1), .int (nI q.1.2.1), .int (nI q.1.2.2.1), .int (nI q.1.2.2.2), .int (nI q.2.1.1), .int (nI q.2.1.2), .int (nI q.2.2.1.1), .int (nI q.2.2.1.2.1), .int q.2.2.1.2.2, .ref rr])), (tp, .inr (9, [.ref tb, .int (nI tl)])), (tb, .inl (γ.2 1, 340, .inl tf)), (rr, .inr (6, [.ref rre, .int (nI q.2.2.2.1)])), (rre, .inl (γ.2 0, 12, .inl (fun j => nI ((q.2.2.2.2) j))))] (fun u => some (.int (jov (jrElt (jbs tf) tl 3 0 0 q).1))) (fun u => [(rd, .inr (5, [.ref tp, .int (nI u.1.1), .int (nI u.1.2.1), .int (nI u.1.2.2.1), .int (nI u.1.2.2.2), .int (nI u.2.1.1), .int (nI u.2.1.2), .int (nI u.2.2.1.1), .int (nI u.2.2.1.2.1), .int u.2.2.1.2.2, .ref rr])), (tp, .inr (9, [.ref tb, .int (nI tl)])), (tb, .inl (γ.2 1, 340, .inl tf)), (rr, .inr (6, [.ref rre, .int (nI u.2.2.2.1)])), (rre, .inl (γ.2 0, 12, .inl (fun j => nI ((u.2.2.2.2) j))))]) (fun u => u = (jrElt (jbs tf) tl 3 0 0 q).2) := by
  refine jM.of [some (.ref rd), none, none] rfl (Nat.le_of_ble_eq_true rfl) (by decide) ?_
  intro x g hE hin
  refine J.iconstN g 0 dX5_readElement_0 ?_
  refine J.istore_n g dX5_readElement_1 rfl rfl rfl ?_
  try dsimp only [List.set_cons_zero, List.set_cons_succ]
  refine J.iconstN g 0 dX5_readElement_2 ?_
  refine J.istore_n g dX5_readElement_3 rfl rfl rfl ?_
  try dsimp only [List.set_cons_zero, List.set_cons_succ]
  have lp : ∀ (d : Nat) (i el : Nat) (v : jRS), 3 - i < d → (i ≤ 3) → (jRB v) → (jrElt (jbs tf) tl 3 0 0 q = jrElt (jbs tf) tl (3 - i) i el v) → J γ l x [(rd, .inr (5, [.ref tp, .int (nI v.1.1), .int (nI v.1.2.1), .int (nI v.1.2.2.1), .int (nI v.1.2.2.2), .int (nI v.2.1.1), .int (nI v.2.1.2), .int (nI v.2.2.1.1), .int (nI v.2.2.1.2.1), .int v.2.2.1.2.2, .ref rr])), (tp, .inr (9, [.ref tb, .int (nI tl)])), (tb, .inl (γ.2 1, 340, .inl tf)), (rr, .inr (6, [.ref rre, .int (nI v.2.2.2.1)])), (rre, .inl (γ.2 0, 12, .inl (fun j => nI ((v.2.2.2.2) j))))] [some (.ref rd), some (.int (nI el)), some (.int (nI i))] [] 0 0 4 := by
    intro d
    induction d with
    | zero => intro i el v hm; exact absurd hm (Nat.not_lt_zero _)
    | succ d ih_lp =>
      intro i el v hm hi hv hr
      refine J.iload_n g dX5_readElement_4 rfl rfl ?_
      refine J.iconstN g 3 dX5_readElement_5 ?_
      refine J.icmp_geN g dX5_readElement_6 (tgt := 85) (by decide) (by omega) (by omega) (fun c_6 => ?_) (fun c_6 => ?_)
      · refine J.iload_n g dX5_readElement_85 rfl rfl ?_
        exact J.iret g hE v (by first | (rw [hr, jrElt_0 c_6]; rfl) | (rw [hr, jrElt_z c_6 c_17]; rfl)) (by first | (rw [hr, jrElt_0 c_6]) | (rw [hr, jrElt_z c_6 c_17])) rfl ⟨Nat.le_of_ble_eq_true rfl, Nat.le_of_ble_eq_true rfl⟩ dX5_readElement_86
      · refine J.aload_n g dX5_readElement_9 rfl rfl ?_
        refine J.get g jX5 5 (by decide) lf_X5_31 0 rfl rfl dX5_readElement_10 ?_
        refine J.iload_n g dX5_readElement_13 rfl rfl ?_
        refine J.callS0 g (c_X0_sizeIn l γ _ _ (by have := hv.2.1.1; omega) (by omega)) jy_X0_sizeIn lm_X5_96 ⟨⟨Nat.le_of_ble_eq_true rfl, Nat.le_of_ble_eq_true rfl⟩, Nat.le_of_ble_eq_true rfl, Nat.le_of_ble_eq_true rfl⟩ (Nat.le_of_ble_eq_true rfl) rfl [] rfl rfl dX5_readElement_14 ?_
        intro _ _
        dsimp only [jpush]
        rw [gsz_eq]
        refine J.if_leN g dX5_readElement_17 (tgt := 85) (by decide) (by have := gsz_lt v.2.1.1 i; omega) (fun c_17 => ?_) (fun c_17 => ?_)
        · refine J.iload_n g dX5_readElement_85 rfl rfl ?_
          exact J.iret g hE v (by first | (rw [hr, jrElt_0 c_6]; rfl) | (rw [hr, jrElt_z c_6 c_17]; rfl)) (by first | (rw [hr, jrElt_0 c_6]) | (rw [hr, jrElt_z c_6 c_17])) rfl ⟨Nat.le_of_ble_eq_true rfl, Nat.le_of_ble_eq_true rfl⟩ dX5_readElement_86
        · refine J.aload_n g dX5_readElement_20 rfl rfl ?_
          refine J.get g jX5 2 (by decide) lf_X5_22 0 rfl rfl dX5_readElement_21 ?_
          refine J.iconstN g 2 dX5_readElement_24 ?_
          refine J.icmp_eqN g dX5_readElement_25 (tgt := 36) (by decide) (by have := hv.1.2.1; omega) (by omega) (fun c_25 => ?_) (fun c_25 => ?_)
          · refine J.aload_n g dX5_readElement_36 rfl rfl ?_
            refine J.get g jX5 4 (by decide) lf_X5_28 0 rfl rfl dX5_readElement_37 ?_
            refine J.aload_n g dX5_readElement_40 rfl rfl ?_
            refine J.get g jX5 5 (by decide) lf_X5_31 0 rfl rfl dX5_readElement_41 ?_
            refine J.iload_n g dX5_readElement_44 rfl rfl ?_
            refine J.callS0 g (c_X0_sizeIn l γ _ _ (by have := hv.2.1.1; omega) (by omega)) jy_X0_sizeIn lm_X5_96 ⟨⟨Nat.le_of_ble_eq_true rfl, Nat.le_of_ble_eq_true rfl⟩, Nat.le_of_ble_eq_true rfl, Nat.le_of_ble_eq_true rfl⟩ (Nat.le_of_ble_eq_true rfl) rfl [] rfl rfl dX5_readElement_45 ?_
            intro _ _
            dsimp only [jpush]
            rw [gsz_eq]
            refine J.icmp_ltN g dX5_readElement_48 (tgt := 59) (by decide) (by have := hv.1.2.2.2; omega) (by have := gsz_lt v.2.1.1 i; omega) (fun c_48 => ?_) (fun c_48 => ?_)
            · refine J.iload_n g dX5_readElement_59 rfl rfl ?_
              refine J.aload_n g dX5_readElement_60 rfl rfl ?_
              refine J.get g jX5 5 (by decide) lf_X5_31 0 rfl rfl dX5_readElement_61 ?_
              refine J.iload_n g dX5_readElement_64 rfl rfl ?_
              refine J.callS0 g (c_X0_sizeIn l γ _ _ (by have := hv.2.1.1; omega) (by omega)) jy_X0_sizeIn lm_X5_96 ⟨⟨Nat.le_of_ble_eq_true rfl, Nat.le_of_ble_eq_true rfl⟩, Nat.le_of_ble_eq_true rfl, Nat.le_of_ble_eq_true rfl⟩ (Nat.le_of_ble_eq_true rfl) rfl [] rfl rfl dX5_readElement_65 ?_
              intro _ _
              dsimp only [jpush]
              rw [gsz_eq]
              refine J.imulN g dX5_readElement_68 ?_
              refine J.aload_n g dX5_readElement_69 rfl rfl ?_
              refine J.get g jX5 4 (by decide) lf_X5_28 0 rfl rfl dX5_readElement_70 ?_
              refine J.iaddN g dX5_readElement_73 ?_
              refine J.istore_n g dX5_readElement_74 rfl rfl rfl ?_
              try dsimp only [List.set_cons_zero, List.set_cons_succ]
              refine J.aload_n g dX5_readElement_75 rfl rfl ?_
              refine J.callV g (c_X5_readToken l γ _ _ _ _ _ _ _ v hl hv) jy_X5_readToken lm_X5_56 (q0 := 0) rfl jX5.1 ⟨⟨Nat.le_of_ble_eq_true rfl, Nat.le_of_ble_eq_true rfl⟩, Nat.le_of_ble_eq_true rfl, Nat.le_of_ble_eq_true rfl⟩ (Nat.le_of_ble_eq_true rfl) rfl [0, 1, 2, 3, 4] rfl (fun _ => rfl) rfl dX5_readElement_76 ?_
              intro u_76 h_76
              dsimp only [jput, List.set_cons_zero, List.set_cons_succ, Option.toList, List.append, List.cons_append, List.nil_append, List.append_nil]
              refine J.iincN g 1 dX5_readElement_79 rfl rfl ?_
              try dsimp only [List.set_cons_zero, List.set_cons_succ]
              refine J.goto g dX5_readElement_82 (tgt := 4) (by decide) ?_
              exact J.lvle (jle_s (jle_s (jle_s jle_0))) (ih_lp (i + 1) _ u_76 (by omega) (by omega) (by rw [h_76]; exact hv.tok hl) (by rw [h_76]; exact hr.trans (jrElt_s (by omega) c_17 c_25 c_48)))
            · refine J.aload_n g dX5_readElement_51 rfl rfl ?_
              refine J.iconstN g 2 dX5_readElement_52 ?_
              refine J.callV g (c_X5_fail l γ _ _ _ _ _ _ _ v 2 ) jy_X5_fail lm_X5_66 (q0 := 0) rfl jX5.1 ⟨⟨Nat.le_of_ble_eq_true rfl, Nat.le_of_ble_eq_true rfl⟩, Nat.le_of_ble_eq_true rfl, Nat.le_of_ble_eq_true rfl⟩ (Nat.le_of_ble_eq_true rfl) rfl [0, 1, 2, 3, 4] rfl (fun _ => rfl) rfl dX5_readElement_53 ?_
              intro u_53 h_53
              dsimp only [jput, List.set_cons_zero, List.set_cons_succ, Option.toList, List.append, List.cons_append, List.nil_append, List.append_nil]
              refine J.pop g dX5_readElement_56 rfl ?_
              refine J.iconst (v := -1) g dX5_readElement_57 (by decide) ?_
              exact J.iret g hE u_53 (by rw [hr, jrElt_2 (by omega) c_17 c_25 c_48]; rfl) (by rw [hr, jrElt_2 (by omega) c_17 c_25 c_48]; exact h_53) rfl ⟨Nat.le_of_ble_eq_true rfl, Nat.le_of_ble_eq_true rfl⟩ dX5_readElement_58
          · refine J.aload_n g dX5_readElement_28 rfl rfl ?_
            refine J.iconstN g 1 dX5_readElement_29 ?_
            refine J.callV g (c_X5_fail l γ _ _ _ _ _ _ _ v 1 ) jy_X5_fail lm_X5_66 (q0 := 0) rfl jX5.1 ⟨⟨Nat.le_of_ble_eq_true rfl, Nat.le_of_ble_eq_true rfl⟩, Nat.le_of_ble_eq_true rfl, Nat.le_of_ble_eq_true rfl⟩ (Nat.le_of_ble_eq_true rfl) rfl [0, 1, 2, 3, 4] rfl (fun _ => rfl) rfl dX5_readElement_30 ?_
            intro u_30 h_30
            dsimp only [jput, List.set_cons_zero, List.set_cons_succ, Option.toList, List.append, List.cons_append, List.nil_append, List.append_nil]
            refine J.pop g dX5_readElement_33 rfl ?_
            refine J.iconst (v := -1) g dX5_readElement_34 (by decide) ?_
            exact J.iret g hE u_30 (by rw [hr, jrElt_1 (by omega) c_17 c_25]; rfl) (by rw [hr, jrElt_1 (by omega) c_17 c_25]; exact h_30) rfl ⟨Nat.le_of_ble_eq_true rfl, Nat.le_of_ble_eq_true rfl⟩ dX5_readElement_35
  exact J.lvle (jle_s (jle_s (jle_s jle_0))) (lp _ 0 0 q (Nat.lt_succ_self _) (by omega) hq rfl)
set_option maxHeartbeats 4000000 in
set_option maxRecDepth 100000 in
theorem c_X5_readHowOften (l : Launch) (γ : jγ) (rd tp tb tl rr rre : Nat) (tf : Nat → Int32) (q : jRS) (hl : tl ≤ 340) (hq : jRB q) : jM (S := jRS) l γ yX5_readHowOften cX5_readHowOften 2 (some .int) ({ frames := 6, cells := 0, slots := 0, locals := 133 } : Room) [.ref rd] [(rd, .inr (5, [.ref tp, .int (nI q.1.1), .int (nI q.1.2.1), .int (nI q.1.2.2.1), .int (nI q.1.2.2.2), .int (nI q.2.1.1), .int (nI q.2.1.2), .int (nI q.2.2.1.1), .int (nI q.2.2.1.2.1), .int q.2.2.1.2.2, .ref rr])), (tp, .inr (9, [.ref tb, .int (nI tl)])), (tb, .inl (γ.2 1, 340, .inl tf)), (rr, .inr (6, [.ref rre, .int (nI q.2.2.2.1)])), (rre, .inl (γ.2 0, 12, .inl (fun j => nI ((q.2.2.2.2) j))))] (fun u => some (.int (jov (jrHow (jbs tf) tl q).1))) (fun u => [(rd, .inr (5, [.ref tp, .int (nI u.1.1), .int (nI u.1.2.1), .int (nI u.1.2.2.1), .int (nI u.1.2.2.2), .int (nI u.2.1.1), .int (nI u.2.1.2), .int (nI u.2.2.1.1), .int (nI u.2.2.1.2.1), .int u.2.2.1.2.2, .ref rr])), (tp, .inr (9, [.ref tb, .int (nI tl)])), (tb, .inl (γ.2 1, 340, .inl tf)), (rr, .inr (6, [.ref rre, .int (nI u.2.2.2.1)])), (rre, .inl (γ.2 0, 12, .inl (fun j => nI ((u.2.2.2.2) j))))]) (fun u => u = (jrHow (jbs tf) tl q).2) := by
  refine jM.of [some (.ref rd), none] rfl (Nat.le_of_ble_eq_true rfl) (by decide) ?_
  intro x g hE hin
  have hb1 := hq.1.2.1
  have hb2 := hq.1.2.2.2
  have hb3 := hq.2.2.2
  refine J.aload_n g dX5_readHowOften_0 rfl rfl ?_
  refine J.get g jX5 2 (by decide) lf_X5_22 0 rfl rfl dX5_readHowOften_1 ?_
  refine J.iconstN g 2 dX5_readHowOften_4 ?_
  refine J.icmp_eqN g dX5_readHowOften_5 (tgt := 16) (by decide) (by omega) (by omega) (fun c_5 => ?_) (fun c_5 => ?_)
  · refine J.aload_n g dX5_readHowOften_16 rfl rfl ?_
    refine J.get g jX5 4 (by decide) lf_X5_28 0 rfl rfl dX5_readHowOften_17 ?_
    refine J.istore_n g dX5_readHowOften_20 rfl rfl rfl ?_
    try dsimp only [List.set_cons_zero, List.set_cons_succ]
    refine J.iload_n g dX5_readHowOften_21 rfl rfl ?_
    refine J.iconstN g 1 dX5_readHowOften_22 ?_
    refine J.icmp_ltN g dX5_readHowOften_23 (tgt := 40) (by decide) (by omega) (by omega) (fun c_23 => ?_) (fun c_23 => ?_)
    · have ho : q.1.2.2.2 < 1 ∨ 12 < q.2.2.2.1 + q.1.2.2.2 := Or.inl c_23
      refine J.aload_n g dX5_readHowOften_40 rfl rfl ?_
      refine J.iconstN g 2 dX5_readHowOften_41 ?_
      refine J.callV g (c_X5_fail l γ _ _ _ _ _ _ _ q 2 ) jy_X5_fail lm_X5_66 (q0 := 0) rfl jX5.1 ⟨⟨Nat.le_of_ble_eq_true rfl, Nat.le_of_ble_eq_true rfl⟩, Nat.le_of_ble_eq_true rfl, Nat.le_of_ble_eq_true rfl⟩ (Nat.le_of_ble_eq_true rfl) rfl [0, 1, 2, 3, 4] rfl (fun _ => rfl) rfl dX5_readHowOften_42 ?_
      intro u_42 h_42
      dsimp only [jput, List.set_cons_zero, List.set_cons_succ, Option.toList, List.append, List.cons_append, List.nil_append, List.append_nil]
      refine J.pop g dX5_readHowOften_45 rfl ?_
      refine J.iconst (v := -1) g dX5_readHowOften_46 (by decide) ?_
      exact J.iret g hE u_42 (by rw [jrHow, if_neg (fun z => z c_5), if_pos ho]; rfl) (by rw [jrHow, if_neg (fun z => z c_5), if_pos ho]; exact h_42) rfl ⟨Nat.le_of_ble_eq_true rfl, Nat.le_of_ble_eq_true rfl⟩ dX5_readHowOften_47
    · refine J.aload_n g dX5_readHowOften_26 rfl rfl ?_
      refine J.get g jX5 10 (by decide) lf_X5_49 0 rfl rfl dX5_readHowOften_27 ?_
      refine J.callV0 g (c_X6_length l γ _ _ _ _ ) jy_X6_length lm_X5_100 (q0 := 3) rfl jX6.1 ⟨⟨Nat.le_of_ble_eq_true rfl, Nat.le_of_ble_eq_true rfl⟩, Nat.le_of_ble_eq_true rfl, Nat.le_of_ble_eq_true rfl⟩ (Nat.le_of_ble_eq_true rfl) rfl [3, 4] rfl rfl dX5_readHowOften_30 ?_
      intro _ _
      dsimp only [jpush]
      refine J.iload_n g dX5_readHowOften_33 rfl rfl ?_
      refine J.iaddN g dX5_readHowOften_34 ?_
      refine J.bipush (v := nI 12) g dX5_readHowOften_35 (by decide +kernel) ?_
      refine J.icmp_leN g dX5_readHowOften_37 (tgt := 48) (by decide) (by omega) (by omega) (fun c_37 => ?_) (fun c_37 => ?_)
      · have ho : ¬ (q.1.2.2.2 < 1 ∨ 12 < q.2.2.2.1 + q.1.2.2.2) := by omega
        refine J.aload_n g dX5_readHowOften_48 rfl rfl ?_
        refine J.callV g (c_X5_readToken l γ _ _ _ _ _ _ _ q hl hq) jy_X5_readToken lm_X5_56 (q0 := 0) rfl jX5.1 ⟨⟨Nat.le_of_ble_eq_true rfl, Nat.le_of_ble_eq_true rfl⟩, Nat.le_of_ble_eq_true rfl, Nat.le_of_ble_eq_true rfl⟩ (Nat.le_of_ble_eq_true rfl) rfl [0, 1, 2, 3, 4] rfl (fun _ => rfl) rfl dX5_readHowOften_49 ?_
        intro u_49 h_49
        dsimp only [jput, List.set_cons_zero, List.set_cons_succ, Option.toList, List.append, List.cons_append, List.nil_append, List.append_nil]
        refine J.iload_n g dX5_readHowOften_52 rfl rfl ?_
        exact J.iret g hE u_49 (by rw [jrHow, if_neg (fun z => z c_5), if_neg ho]; rfl) (by rw [jrHow, if_neg (fun z => z c_5), if_neg ho]; exact h_49) rfl ⟨Nat.le_of_ble_eq_true rfl, Nat.le_of_ble_eq_true rfl⟩ dX5_readHowOften_53
      · have ho : q.1.2.2.2 < 1 ∨ 12 < q.2.2.2.1 + q.1.2.2.2 := Or.inr c_37
        refine J.aload_n g dX5_readHowOften_40 rfl rfl ?_
        refine J.iconstN g 2 dX5_readHowOften_41 ?_
        refine J.callV g (c_X5_fail l γ _ _ _ _ _ _ _ q 2 ) jy_X5_fail lm_X5_66 (q0 := 0) rfl jX5.1 ⟨⟨Nat.le_of_ble_eq_true rfl, Nat.le_of_ble_eq_true rfl⟩, Nat.le_of_ble_eq_true rfl, Nat.le_of_ble_eq_true rfl⟩ (Nat.le_of_ble_eq_true rfl) rfl [0, 1, 2, 3, 4] rfl (fun _ => rfl) rfl dX5_readHowOften_42 ?_
        intro u_42 h_42
        dsimp only [jput, List.set_cons_zero, List.set_cons_succ, Option.toList, List.append, List.cons_append, List.nil_append, List.append_nil]
        refine J.pop g dX5_readHowOften_45 rfl ?_
        refine J.iconst (v := -1) g dX5_readHowOften_46 (by decide) ?_
        exact J.iret g hE u_42 (by rw [jrHow, if_neg (fun z => z c_5), if_pos ho]; rfl) (by rw [jrHow, if_neg (fun z => z c_5), if_pos ho]; exact h_42) rfl ⟨Nat.le_of_ble_eq_true rfl, Nat.le_of_ble_eq_true rfl⟩ dX5_readHowOften_47
  · refine J.aload_n g dX5_readHowOften_8 rfl rfl ?_
    refine J.iconstN g 1 dX5_readHowOften_9 ?_
    refine J.callV g (c_X5_fail l γ _ _ _ _ _ _ _ q 1 ) jy_X5_fail lm_X5_66 (q0 := 0) rfl jX5.1 ⟨⟨Nat.le_of_ble_eq_true rfl, Nat.le_of_ble_eq_true rfl⟩, Nat.le_of_ble_eq_true rfl, Nat.le_of_ble_eq_true rfl⟩ (Nat.le_of_ble_eq_true rfl) rfl [0, 1, 2, 3, 4] rfl (fun _ => rfl) rfl dX5_readHowOften_10 ?_
    intro u_10 h_10
    dsimp only [jput, List.set_cons_zero, List.set_cons_succ, Option.toList, List.append, List.cons_append, List.nil_append, List.append_nil]
    refine J.pop g dX5_readHowOften_13 rfl ?_
    refine J.iconst (v := -1) g dX5_readHowOften_14 (by decide) ?_
    exact J.iret g hE u_10 (by rw [jrHow, if_pos c_5]; rfl) (by rw [jrHow, if_pos c_5]; exact h_10) rfl ⟨Nat.le_of_ble_eq_true rfl, Nat.le_of_ble_eq_true rfl⟩ dX5_readHowOften_15
set_option maxHeartbeats 4000000 in
set_option maxRecDepth 100000 in
theorem c_X5_readGroupRow (l : Launch) (γ : jγ) (rd tp tb tl rr rre : Nat) (tf : Nat → Int32) (q : jRS) (hl : tl ≤ 340) (hq : jRB q) : jM (S := jRS) l γ yX5_readGroupRow cX5_readGroupRow 3 (some .boolean) ({ frames := 7, cells := 0, slots := 0, locals := 153 } : Room) [.ref rd] [(rd, .inr (5, [.ref tp, .int (nI q.1.1), .int (nI q.1.2.1), .int (nI q.1.2.2.1), .int (nI q.1.2.2.2), .int (nI q.2.1.1), .int (nI q.2.1.2), .int (nI q.2.2.1.1), .int (nI q.2.2.1.2.1), .int q.2.2.1.2.2, .ref rr])), (tp, .inr (9, [.ref tb, .int (nI tl)])), (tb, .inl (γ.2 1, 340, .inl tf)), (rr, .inr (6, [.ref rre, .int (nI q.2.2.2.1)])), (rre, .inl (γ.2 0, 12, .inl (fun j => nI ((q.2.2.2.2) j))))] (fun u => some (.int (jB ((jrGroup (jbs tf) tl q).1)))) (fun u => [(rd, .inr (5, [.ref tp, .int (nI u.1.1), .int (nI u.1.2.1), .int (nI u.1.2.2.1), .int (nI u.1.2.2.2), .int (nI u.2.1.1), .int (nI u.2.1.2), .int (nI u.2.2.1.1), .int (nI u.2.2.1.2.1), .int u.2.2.1.2.2, .ref rr])), (tp, .inr (9, [.ref tb, .int (nI tl)])), (tb, .inl (γ.2 1, 340, .inl tf)), (rr, .inr (6, [.ref rre, .int (nI u.2.2.2.1)])), (rre, .inl (γ.2 0, 12, .inl (fun j => nI ((u.2.2.2.2) j))))]) (fun u => u = (jrGroup (jbs tf) tl q).2) := by
  refine jM.of [some (.ref rd), none, none] rfl (Nat.le_of_ble_eq_true rfl) (by decide) ?_
  intro x g hE hin
  have hb1 := hq.1.2.1
  refine J.aload_n g dX5_readGroupRow_0 rfl rfl ?_
  refine J.get g jX5 2 (by decide) lf_X5_22 0 rfl rfl dX5_readGroupRow_1 ?_
  refine J.iconstN g 4 dX5_readGroupRow_4 ?_
  refine J.icmp_eqN g dX5_readGroupRow_5 (tgt := 14) (by decide) (by omega) (by omega) (fun c_5 => ?_) (fun c_5 => ?_)
  · refine J.aload_n g dX5_readGroupRow_14 rfl rfl ?_
    refine J.callV g (c_X5_readToken l γ _ _ _ _ _ _ _ q hl hq) jy_X5_readToken lm_X5_56 (q0 := 0) rfl jX5.1 ⟨⟨Nat.le_of_ble_eq_true rfl, Nat.le_of_ble_eq_true rfl⟩, Nat.le_of_ble_eq_true rfl, Nat.le_of_ble_eq_true rfl⟩ (Nat.le_of_ble_eq_true rfl) rfl [0, 1, 2, 3, 4] rfl (fun _ => rfl) rfl dX5_readGroupRow_15 ?_
    intro u_15 h_15
    dsimp only [jput, List.set_cons_zero, List.set_cons_succ, Option.toList, List.append, List.cons_append, List.nil_append, List.append_nil]
    have hq1 : jRB u_15 := by rw [h_15]; exact hq.tok hl
    have hr0 : jrGroup (jbs tf) tl q = jrGrp (jbs tf) tl 3 0 1 u_15 := by rw [h_15, jrGroup, if_neg (fun z => z c_5)]
    refine J.iconstN g 1 dX5_readGroupRow_18 ?_
    refine J.istore_n g dX5_readGroupRow_19 rfl rfl rfl ?_
    try dsimp only [List.set_cons_zero, List.set_cons_succ]
    refine J.iconstN g 0 dX5_readGroupRow_20 ?_
    refine J.istore_n g dX5_readGroupRow_21 rfl rfl rfl ?_
    try dsimp only [List.set_cons_zero, List.set_cons_succ]
    have lp : ∀ (d : Nat) (i od : Nat) (v : jRS), 3 - i < d → (i ≤ 3) → (od ≤ 24) → (jRB v) → (jrGroup (jbs tf) tl q = jrGrp (jbs tf) tl (3 - i) i od v) → J γ l x [(rd, .inr (5, [.ref tp, .int (nI v.1.1), .int (nI v.1.2.1), .int (nI v.1.2.2.1), .int (nI v.1.2.2.2), .int (nI v.2.1.1), .int (nI v.2.1.2), .int (nI v.2.2.1.1), .int (nI v.2.2.1.2.1), .int v.2.2.1.2.2, .ref rr])), (tp, .inr (9, [.ref tb, .int (nI tl)])), (tb, .inl (γ.2 1, 340, .inl tf)), (rr, .inr (6, [.ref rre, .int (nI v.2.2.2.1)])), (rre, .inl (γ.2 0, 12, .inl (fun j => nI ((v.2.2.2.2) j))))] [some (.ref rd), some (.int (nI od)), some (.int (nI i))] [] 0 0 22 := by
      intro d
      induction d with
      | zero => intro i od v hm; exact absurd hm (Nat.not_lt_zero _)
      | succ d ih_lp =>
        intro i od v hm hi ho hv hr
        have hv1 := hv.1.2.1
        have hv2 := hv.1.2.2.2
        have hv3 : od * v.1.2.2.2 < 2 ^ 20 := by have := Nat.mul_le_mul ho (show v.1.2.2.2 ≤ 2 ^ 12 by omega); omega
        refine J.iload_n g dX5_readGroupRow_22 rfl rfl ?_
        refine J.iconstN g 3 dX5_readGroupRow_23 ?_
        refine J.icmp_geN g dX5_readGroupRow_24 (tgt := 120) (by decide) (by omega) (by omega) (fun c_24 => ?_) (fun c_24 => ?_)
        · refine J.aload_n g dX5_readGroupRow_120 rfl rfl ?_
          refine J.callV g (c_X5_passSemicolon l γ _ _ _ _ _ _ _ v hl hv) jy_X5_passSemicolon lm_X5_76 (q0 := 0) rfl jX5.1 ⟨⟨Nat.le_of_ble_eq_true rfl, Nat.le_of_ble_eq_true rfl⟩, Nat.le_of_ble_eq_true rfl, Nat.le_of_ble_eq_true rfl⟩ (Nat.le_of_ble_eq_true rfl) rfl [0, 1, 2, 3, 4] rfl (fun _ => rfl) rfl dX5_readGroupRow_121 ?_
          intro u_121 h_121
          dsimp only [jput, List.set_cons_zero, List.set_cons_succ, Option.toList, List.append, List.cons_append, List.nil_append, List.append_nil]
          exact J.zret (by first | rfl | exact j_nz _) g hE u_121 (by first | rw [hr, jrGrp_0 c_24] | rw [hr, jrGrp_z c_24 c_28 c_36]) (by first | (rw [hr, jrGrp_0 c_24]; exact h_121) | (rw [hr, jrGrp_z c_24 c_28 c_36]; exact h_121)) rfl ⟨Nat.le_of_ble_eq_true rfl, Nat.le_of_ble_eq_true rfl⟩ dX5_readGroupRow_124
        · refine J.iload_n g dX5_readGroupRow_27 rfl rfl ?_
          refine J.if_eqN g dX5_readGroupRow_28 (tgt := 39) (by decide) (by omega) (fun c_28 => ?_) (fun c_28 => ?_)
          · refine J.aload_n g dX5_readGroupRow_39 rfl rfl ?_
            refine J.get g jX5 2 (by decide) lf_X5_22 0 rfl rfl dX5_readGroupRow_40 ?_
            refine J.iconstN g 2 dX5_readGroupRow_43 ?_
            refine J.icmp_eqN g dX5_readGroupRow_44 (tgt := 53) (by decide) (by omega) (by omega) (fun c_44 => ?_) (fun c_44 => ?_)
            · refine J.aload_n g dX5_readGroupRow_53 rfl rfl ?_
              refine J.get g jX5 4 (by decide) lf_X5_28 0 rfl rfl dX5_readGroupRow_54 ?_
              refine J.iconstN g 2 dX5_readGroupRow_57 ?_
              refine J.icmp_ltN g dX5_readGroupRow_58 (tgt := 81) (by decide) (by omega) (by omega) (fun c_58 => ?_) (fun c_58 => ?_)
              · refine J.aload_n g dX5_readGroupRow_81 rfl rfl ?_
                refine J.iconstN g 2 dX5_readGroupRow_82 ?_
                refine J.callV g (c_X5_fail l γ _ _ _ _ _ _ _ v 2 ) jy_X5_fail lm_X5_66 (q0 := 0) rfl jX5.1 ⟨⟨Nat.le_of_ble_eq_true rfl, Nat.le_of_ble_eq_true rfl⟩, Nat.le_of_ble_eq_true rfl, Nat.le_of_ble_eq_true rfl⟩ (Nat.le_of_ble_eq_true rfl) rfl [0, 1, 2, 3, 4] rfl (fun _ => rfl) rfl dX5_readGroupRow_83 ?_
                intro u_83 h_83
                dsimp only [jput, List.set_cons_zero, List.set_cons_succ, Option.toList, List.append, List.cons_append, List.nil_append, List.append_nil]
                exact J.zret (by first | rfl | exact j_nz _) g hE u_83 (by rw [hr, jrGrp_2 (by omega) c_44 (by omega)]) (by rw [hr, jrGrp_2 (by omega) c_44 (by omega)]; exact h_83) rfl ⟨Nat.le_of_ble_eq_true rfl, Nat.le_of_ble_eq_true rfl⟩ dX5_readGroupRow_86
              · refine J.aload_n g dX5_readGroupRow_61 rfl rfl ?_
                refine J.get g jX5 4 (by decide) lf_X5_28 0 rfl rfl dX5_readGroupRow_62 ?_
                refine J.bipush (v := nI 24) g dX5_readGroupRow_65 (by decide +kernel) ?_
                refine J.icmp_gtN g dX5_readGroupRow_67 (tgt := 81) (by decide) (by omega) (by omega) (fun c_67 => ?_) (fun c_67 => ?_)
                · refine J.aload_n g dX5_readGroupRow_81 rfl rfl ?_
                  refine J.iconstN g 2 dX5_readGroupRow_82 ?_
                  refine J.callV g (c_X5_fail l γ _ _ _ _ _ _ _ v 2 ) jy_X5_fail lm_X5_66 (q0 := 0) rfl jX5.1 ⟨⟨Nat.le_of_ble_eq_true rfl, Nat.le_of_ble_eq_true rfl⟩, Nat.le_of_ble_eq_true rfl, Nat.le_of_ble_eq_true rfl⟩ (Nat.le_of_ble_eq_true rfl) rfl [0, 1, 2, 3, 4] rfl (fun _ => rfl) rfl dX5_readGroupRow_83 ?_
                  intro u_83 h_83
                  dsimp only [jput, List.set_cons_zero, List.set_cons_succ, Option.toList, List.append, List.cons_append, List.nil_append, List.append_nil]
                  exact J.zret (by first | rfl | exact j_nz _) g hE u_83 (by rw [hr, jrGrp_2 (by omega) c_44 (by omega)]) (by rw [hr, jrGrp_2 (by omega) c_44 (by omega)]; exact h_83) rfl ⟨Nat.le_of_ble_eq_true rfl, Nat.le_of_ble_eq_true rfl⟩ dX5_readGroupRow_86
                · refine J.iload_n g dX5_readGroupRow_70 rfl rfl ?_
                  refine J.aload_n g dX5_readGroupRow_71 rfl rfl ?_
                  refine J.get g jX5 4 (by decide) lf_X5_28 0 rfl rfl dX5_readGroupRow_72 ?_
                  refine J.imulN g dX5_readGroupRow_75 ?_
                  refine J.bipush (v := nI 24) g dX5_readGroupRow_76 (by decide +kernel) ?_
                  refine J.icmp_leN g dX5_readGroupRow_78 (tgt := 87) (by decide) (by omega) (by omega) (fun c_78 => ?_) (fun c_78 => ?_)
                  · refine J.iload_n g dX5_readGroupRow_87 rfl rfl ?_
                    refine J.aload_n g dX5_readGroupRow_88 rfl rfl ?_
                    refine J.get g jX5 4 (by decide) lf_X5_28 0 rfl rfl dX5_readGroupRow_89 ?_
                    refine J.imulN g dX5_readGroupRow_92 ?_
                    refine J.istore_n g dX5_readGroupRow_93 rfl rfl rfl ?_
                    try dsimp only [List.set_cons_zero, List.set_cons_succ]
                    refine J.aload_n g dX5_readGroupRow_94 rfl rfl ?_
                    refine J.aload_n g dX5_readGroupRow_95 rfl rfl ?_
                    refine J.get g jX5 5 (by decide) lf_X5_31 0 rfl rfl dX5_readGroupRow_96 ?_
                    refine J.iload_n g dX5_readGroupRow_99 rfl rfl ?_
                    refine J.aload_n g dX5_readGroupRow_100 rfl rfl ?_
                    refine J.get g jX5 4 (by decide) lf_X5_28 0 rfl rfl dX5_readGroupRow_101 ?_
                    refine J.callS0 g (c_X0_codeWith l γ _ _ _ (by omega) (by omega)) jy_X0_codeWith lm_X5_70 ⟨⟨Nat.le_of_ble_eq_true rfl, Nat.le_of_ble_eq_true rfl⟩, Nat.le_of_ble_eq_true rfl, Nat.le_of_ble_eq_true rfl⟩ (Nat.le_of_ble_eq_true rfl) rfl [] rfl rfl dX5_readGroupRow_104 ?_
                    intro _ _
                    dsimp only [jpush]
                    refine J.put g jX5 5 (by decide) lf_X5_31 0 rfl rfl (Nat.le_of_ble_eq_true rfl) rfl rfl dX5_readGroupRow_107 ?_
                    try dsimp only [List.set_cons_zero, List.set_cons_succ]
                    refine J.aload_n g dX5_readGroupRow_110 rfl rfl ?_
                    refine J.callV g (c_X5_readToken l γ _ _ _ _ _ _ _ (v.1, (v.2.1.1 ||| v.1.2.2.2 <<< (5 * i), v.2.1.2), v.2.2) hl ⟨hv.1, ⟨jcode_lt hv.2.1.1 (by omega) (by omega), hv.2.1.2⟩, hv.2.2⟩) jy_X5_readToken lm_X5_56 (q0 := 0) rfl jX5.1 ⟨⟨Nat.le_of_ble_eq_true rfl, Nat.le_of_ble_eq_true rfl⟩, Nat.le_of_ble_eq_true rfl, Nat.le_of_ble_eq_true rfl⟩ (Nat.le_of_ble_eq_true rfl) rfl [0, 1, 2, 3, 4] rfl (fun _ => rfl) rfl dX5_readGroupRow_111 ?_
                    intro u_111 h_111
                    dsimp only [jput, List.set_cons_zero, List.set_cons_succ, Option.toList, List.append, List.cons_append, List.nil_append, List.append_nil]
                    refine J.iincN g 1 dX5_readGroupRow_114 rfl rfl ?_
                    try dsimp only [List.set_cons_zero, List.set_cons_succ]
                    refine J.goto g dX5_readGroupRow_117 (tgt := 22) (by decide) ?_
                    exact J.lvle (jle_s (jle_s (jle_s jle_0))) (ih_lp (i + 1) _ u_111 (by omega) (by omega) (by omega) (by rw [h_111]; exact jRB.tok hl ⟨hv.1, ⟨jcode_lt hv.2.1.1 (by omega) (by omega), hv.2.1.2⟩, hv.2.2⟩) (by rw [h_111]; exact hr.trans (jrGrp_s (by omega) c_44 (by omega))))
                  · refine J.aload_n g dX5_readGroupRow_81 rfl rfl ?_
                    refine J.iconstN g 2 dX5_readGroupRow_82 ?_
                    refine J.callV g (c_X5_fail l γ _ _ _ _ _ _ _ v 2 ) jy_X5_fail lm_X5_66 (q0 := 0) rfl jX5.1 ⟨⟨Nat.le_of_ble_eq_true rfl, Nat.le_of_ble_eq_true rfl⟩, Nat.le_of_ble_eq_true rfl, Nat.le_of_ble_eq_true rfl⟩ (Nat.le_of_ble_eq_true rfl) rfl [0, 1, 2, 3, 4] rfl (fun _ => rfl) rfl dX5_readGroupRow_83 ?_
                    intro u_83 h_83
                    dsimp only [jput, List.set_cons_zero, List.set_cons_succ, Option.toList, List.append, List.cons_append, List.nil_append, List.append_nil]
                    exact J.zret (by first | rfl | exact j_nz _) g hE u_83 (by rw [hr, jrGrp_2 (by omega) c_44 (by omega)]) (by rw [hr, jrGrp_2 (by omega) c_44 (by omega)]; exact h_83) rfl ⟨Nat.le_of_ble_eq_true rfl, Nat.le_of_ble_eq_true rfl⟩ dX5_readGroupRow_86
            · refine J.aload_n g dX5_readGroupRow_47 rfl rfl ?_
              refine J.iconstN g 1 dX5_readGroupRow_48 ?_
              refine J.callV g (c_X5_fail l γ _ _ _ _ _ _ _ v 1 ) jy_X5_fail lm_X5_66 (q0 := 0) rfl jX5.1 ⟨⟨Nat.le_of_ble_eq_true rfl, Nat.le_of_ble_eq_true rfl⟩, Nat.le_of_ble_eq_true rfl, Nat.le_of_ble_eq_true rfl⟩ (Nat.le_of_ble_eq_true rfl) rfl [0, 1, 2, 3, 4] rfl (fun _ => rfl) rfl dX5_readGroupRow_49 ?_
              intro u_49 h_49
              dsimp only [jput, List.set_cons_zero, List.set_cons_succ, Option.toList, List.append, List.cons_append, List.nil_append, List.append_nil]
              exact J.zret (by first | rfl | exact j_nz _) g hE u_49 (by first | exact absurd c_36 c_44 | rw [hr, jrGrp_1 (by omega) c_28 c_44]) (by first | exact absurd c_36 c_44 | (rw [hr, jrGrp_1 (by omega) c_28 c_44]; exact h_49)) rfl ⟨Nat.le_of_ble_eq_true rfl, Nat.le_of_ble_eq_true rfl⟩ dX5_readGroupRow_52
          · refine J.aload_n g dX5_readGroupRow_31 rfl rfl ?_
            refine J.get g jX5 2 (by decide) lf_X5_22 0 rfl rfl dX5_readGroupRow_32 ?_
            refine J.iconstN g 2 dX5_readGroupRow_35 ?_
            refine J.icmp_neN g dX5_readGroupRow_36 (tgt := 120) (by decide) (by omega) (by omega) (fun c_36 => ?_) (fun c_36 => ?_)
            · refine J.aload_n g dX5_readGroupRow_120 rfl rfl ?_
              refine J.callV g (c_X5_passSemicolon l γ _ _ _ _ _ _ _ v hl hv) jy_X5_passSemicolon lm_X5_76 (q0 := 0) rfl jX5.1 ⟨⟨Nat.le_of_ble_eq_true rfl, Nat.le_of_ble_eq_true rfl⟩, Nat.le_of_ble_eq_true rfl, Nat.le_of_ble_eq_true rfl⟩ (Nat.le_of_ble_eq_true rfl) rfl [0, 1, 2, 3, 4] rfl (fun _ => rfl) rfl dX5_readGroupRow_121 ?_
              intro u_121 h_121
              dsimp only [jput, List.set_cons_zero, List.set_cons_succ, Option.toList, List.append, List.cons_append, List.nil_append, List.append_nil]
              exact J.zret (by first | rfl | exact j_nz _) g hE u_121 (by first | rw [hr, jrGrp_0 c_24] | rw [hr, jrGrp_z c_24 c_28 c_36]) (by first | (rw [hr, jrGrp_0 c_24]; exact h_121) | (rw [hr, jrGrp_z c_24 c_28 c_36]; exact h_121)) rfl ⟨Nat.le_of_ble_eq_true rfl, Nat.le_of_ble_eq_true rfl⟩ dX5_readGroupRow_124
            · refine J.aload_n g dX5_readGroupRow_39 rfl rfl ?_
              refine J.get g jX5 2 (by decide) lf_X5_22 0 rfl rfl dX5_readGroupRow_40 ?_
              refine J.iconstN g 2 dX5_readGroupRow_43 ?_
              refine J.icmp_eqN g dX5_readGroupRow_44 (tgt := 53) (by decide) (by omega) (by omega) (fun c_44 => ?_) (fun c_44 => ?_)
              · refine J.aload_n g dX5_readGroupRow_53 rfl rfl ?_
                refine J.get g jX5 4 (by decide) lf_X5_28 0 rfl rfl dX5_readGroupRow_54 ?_
                refine J.iconstN g 2 dX5_readGroupRow_57 ?_
                refine J.icmp_ltN g dX5_readGroupRow_58 (tgt := 81) (by decide) (by omega) (by omega) (fun c_58 => ?_) (fun c_58 => ?_)
                · refine J.aload_n g dX5_readGroupRow_81 rfl rfl ?_
                  refine J.iconstN g 2 dX5_readGroupRow_82 ?_
                  refine J.callV g (c_X5_fail l γ _ _ _ _ _ _ _ v 2 ) jy_X5_fail lm_X5_66 (q0 := 0) rfl jX5.1 ⟨⟨Nat.le_of_ble_eq_true rfl, Nat.le_of_ble_eq_true rfl⟩, Nat.le_of_ble_eq_true rfl, Nat.le_of_ble_eq_true rfl⟩ (Nat.le_of_ble_eq_true rfl) rfl [0, 1, 2, 3, 4] rfl (fun _ => rfl) rfl dX5_readGroupRow_83 ?_
                  intro u_83 h_83
                  dsimp only [jput, List.set_cons_zero, List.set_cons_succ, Option.toList, List.append, List.cons_append, List.nil_append, List.append_nil]
                  exact J.zret (by first | rfl | exact j_nz _) g hE u_83 (by rw [hr, jrGrp_2 (by omega) c_44 (by omega)]) (by rw [hr, jrGrp_2 (by omega) c_44 (by omega)]; exact h_83) rfl ⟨Nat.le_of_ble_eq_true rfl, Nat.le_of_ble_eq_true rfl⟩ dX5_readGroupRow_86
                · refine J.aload_n g dX5_readGroupRow_61 rfl rfl ?_
                  refine J.get g jX5 4 (by decide) lf_X5_28 0 rfl rfl dX5_readGroupRow_62 ?_
                  refine J.bipush (v := nI 24) g dX5_readGroupRow_65 (by decide +kernel) ?_
                  refine J.icmp_gtN g dX5_readGroupRow_67 (tgt := 81) (by decide) (by omega) (by omega) (fun c_67 => ?_) (fun c_67 => ?_)
                  · refine J.aload_n g dX5_readGroupRow_81 rfl rfl ?_
                    refine J.iconstN g 2 dX5_readGroupRow_82 ?_
                    refine J.callV g (c_X5_fail l γ _ _ _ _ _ _ _ v 2 ) jy_X5_fail lm_X5_66 (q0 := 0) rfl jX5.1 ⟨⟨Nat.le_of_ble_eq_true rfl, Nat.le_of_ble_eq_true rfl⟩, Nat.le_of_ble_eq_true rfl, Nat.le_of_ble_eq_true rfl⟩ (Nat.le_of_ble_eq_true rfl) rfl [0, 1, 2, 3, 4] rfl (fun _ => rfl) rfl dX5_readGroupRow_83 ?_
                    intro u_83 h_83
                    dsimp only [jput, List.set_cons_zero, List.set_cons_succ, Option.toList, List.append, List.cons_append, List.nil_append, List.append_nil]
                    exact J.zret (by first | rfl | exact j_nz _) g hE u_83 (by rw [hr, jrGrp_2 (by omega) c_44 (by omega)]) (by rw [hr, jrGrp_2 (by omega) c_44 (by omega)]; exact h_83) rfl ⟨Nat.le_of_ble_eq_true rfl, Nat.le_of_ble_eq_true rfl⟩ dX5_readGroupRow_86
                  · refine J.iload_n g dX5_readGroupRow_70 rfl rfl ?_
                    refine J.aload_n g dX5_readGroupRow_71 rfl rfl ?_
                    refine J.get g jX5 4 (by decide) lf_X5_28 0 rfl rfl dX5_readGroupRow_72 ?_
                    refine J.imulN g dX5_readGroupRow_75 ?_
                    refine J.bipush (v := nI 24) g dX5_readGroupRow_76 (by decide +kernel) ?_
                    refine J.icmp_leN g dX5_readGroupRow_78 (tgt := 87) (by decide) (by omega) (by omega) (fun c_78 => ?_) (fun c_78 => ?_)
                    · refine J.iload_n g dX5_readGroupRow_87 rfl rfl ?_
                      refine J.aload_n g dX5_readGroupRow_88 rfl rfl ?_
                      refine J.get g jX5 4 (by decide) lf_X5_28 0 rfl rfl dX5_readGroupRow_89 ?_
                      refine J.imulN g dX5_readGroupRow_92 ?_
                      refine J.istore_n g dX5_readGroupRow_93 rfl rfl rfl ?_
                      try dsimp only [List.set_cons_zero, List.set_cons_succ]
                      refine J.aload_n g dX5_readGroupRow_94 rfl rfl ?_
                      refine J.aload_n g dX5_readGroupRow_95 rfl rfl ?_
                      refine J.get g jX5 5 (by decide) lf_X5_31 0 rfl rfl dX5_readGroupRow_96 ?_
                      refine J.iload_n g dX5_readGroupRow_99 rfl rfl ?_
                      refine J.aload_n g dX5_readGroupRow_100 rfl rfl ?_
                      refine J.get g jX5 4 (by decide) lf_X5_28 0 rfl rfl dX5_readGroupRow_101 ?_
                      refine J.callS0 g (c_X0_codeWith l γ _ _ _ (by omega) (by omega)) jy_X0_codeWith lm_X5_70 ⟨⟨Nat.le_of_ble_eq_true rfl, Nat.le_of_ble_eq_true rfl⟩, Nat.le_of_ble_eq_true rfl, Nat.le_of_ble_eq_true rfl⟩ (Nat.le_of_ble_eq_true rfl) rfl [] rfl rfl dX5_readGroupRow_104 ?_
                      intro _ _
                      dsimp only [jpush]
                      refine J.put g jX5 5 (by decide) lf_X5_31 0 rfl rfl (Nat.le_of_ble_eq_true rfl) rfl rfl dX5_readGroupRow_107 ?_
                      try dsimp only [List.set_cons_zero, List.set_cons_succ]
                      refine J.aload_n g dX5_readGroupRow_110 rfl rfl ?_
                      refine J.callV g (c_X5_readToken l γ _ _ _ _ _ _ _ (v.1, (v.2.1.1 ||| v.1.2.2.2 <<< (5 * i), v.2.1.2), v.2.2) hl ⟨hv.1, ⟨jcode_lt hv.2.1.1 (by omega) (by omega), hv.2.1.2⟩, hv.2.2⟩) jy_X5_readToken lm_X5_56 (q0 := 0) rfl jX5.1 ⟨⟨Nat.le_of_ble_eq_true rfl, Nat.le_of_ble_eq_true rfl⟩, Nat.le_of_ble_eq_true rfl, Nat.le_of_ble_eq_true rfl⟩ (Nat.le_of_ble_eq_true rfl) rfl [0, 1, 2, 3, 4] rfl (fun _ => rfl) rfl dX5_readGroupRow_111 ?_
                      intro u_111 h_111
                      dsimp only [jput, List.set_cons_zero, List.set_cons_succ, Option.toList, List.append, List.cons_append, List.nil_append, List.append_nil]
                      refine J.iincN g 1 dX5_readGroupRow_114 rfl rfl ?_
                      try dsimp only [List.set_cons_zero, List.set_cons_succ]
                      refine J.goto g dX5_readGroupRow_117 (tgt := 22) (by decide) ?_
                      exact J.lvle (jle_s (jle_s (jle_s jle_0))) (ih_lp (i + 1) _ u_111 (by omega) (by omega) (by omega) (by rw [h_111]; exact jRB.tok hl ⟨hv.1, ⟨jcode_lt hv.2.1.1 (by omega) (by omega), hv.2.1.2⟩, hv.2.2⟩) (by rw [h_111]; exact hr.trans (jrGrp_s (by omega) c_44 (by omega))))
                    · refine J.aload_n g dX5_readGroupRow_81 rfl rfl ?_
                      refine J.iconstN g 2 dX5_readGroupRow_82 ?_
                      refine J.callV g (c_X5_fail l γ _ _ _ _ _ _ _ v 2 ) jy_X5_fail lm_X5_66 (q0 := 0) rfl jX5.1 ⟨⟨Nat.le_of_ble_eq_true rfl, Nat.le_of_ble_eq_true rfl⟩, Nat.le_of_ble_eq_true rfl, Nat.le_of_ble_eq_true rfl⟩ (Nat.le_of_ble_eq_true rfl) rfl [0, 1, 2, 3, 4] rfl (fun _ => rfl) rfl dX5_readGroupRow_83 ?_
                      intro u_83 h_83
                      dsimp only [jput, List.set_cons_zero, List.set_cons_succ, Option.toList, List.append, List.cons_append, List.nil_append, List.append_nil]
                      exact J.zret (by first | rfl | exact j_nz _) g hE u_83 (by rw [hr, jrGrp_2 (by omega) c_44 (by omega)]) (by rw [hr, jrGrp_2 (by omega) c_44 (by omega)]; exact h_83) rfl ⟨Nat.le_of_ble_eq_true rfl, Nat.le_of_ble_eq_true rfl⟩ dX5_readGroupRow_86
              · refine J.aload_n g dX5_readGroupRow_47 rfl rfl ?_
                refine J.iconstN g 1 dX5_readGroupRow_48 ?_
                refine J.callV g (c_X5_fail l γ _ _ _ _ _ _ _ v 1 ) jy_X5_fail lm_X5_66 (q0 := 0) rfl jX5.1 ⟨⟨Nat.le_of_ble_eq_true rfl, Nat.le_of_ble_eq_true rfl⟩, Nat.le_of_ble_eq_true rfl, Nat.le_of_ble_eq_true rfl⟩ (Nat.le_of_ble_eq_true rfl) rfl [0, 1, 2, 3, 4] rfl (fun _ => rfl) rfl dX5_readGroupRow_49 ?_
                intro u_49 h_49
                dsimp only [jput, List.set_cons_zero, List.set_cons_succ, Option.toList, List.append, List.cons_append, List.nil_append, List.append_nil]
                exact J.zret (by first | rfl | exact j_nz _) g hE u_49 (by first | exact absurd c_36 c_44 | rw [hr, jrGrp_1 (by omega) c_28 c_44]) (by first | exact absurd c_36 c_44 | (rw [hr, jrGrp_1 (by omega) c_28 c_44]; exact h_49)) rfl ⟨Nat.le_of_ble_eq_true rfl, Nat.le_of_ble_eq_true rfl⟩ dX5_readGroupRow_52
    exact J.lvle (jle_s (jle_s (jle_s jle_0))) (lp _ 0 1 u_15 (Nat.lt_succ_self _) (by omega) (by omega) hq1 hr0)
  · refine J.aload_n g dX5_readGroupRow_8 rfl rfl ?_
    refine J.iconstN g 1 dX5_readGroupRow_9 ?_
    refine J.callV g (c_X5_fail l γ _ _ _ _ _ _ _ q 1 ) jy_X5_fail lm_X5_66 (q0 := 0) rfl jX5.1 ⟨⟨Nat.le_of_ble_eq_true rfl, Nat.le_of_ble_eq_true rfl⟩, Nat.le_of_ble_eq_true rfl, Nat.le_of_ble_eq_true rfl⟩ (Nat.le_of_ble_eq_true rfl) rfl [0, 1, 2, 3, 4] rfl (fun _ => rfl) rfl dX5_readGroupRow_10 ?_
    intro u_10 h_10
    dsimp only [jput, List.set_cons_zero, List.set_cons_succ, Option.toList, List.append, List.cons_append, List.nil_append, List.append_nil]
    exact J.zret (by first | rfl | exact j_nz _) g hE u_10 (by rw [jrGroup, if_pos c_5]) (by rw [jrGroup, if_pos c_5]; exact h_10) rfl ⟨Nat.le_of_ble_eq_true rfl, Nat.le_of_ble_eq_true rfl⟩ dX5_readGroupRow_13
