set_option maxHeartbeats 4000000 in
set_option maxRecDepth 100000 in
theorem c_X10_feed (l : Launch) (γ : jγ) (ns tp rd gr rw tr oo pa iq sr sgn pp mu : Nat) (dsd : Int32) (tb tl : Nat) (tf : Nat → Int32) (a b c d e : Int32) (hl : tl ≤ 340) : jM (S := Nat → Int32) l γ yX10_feed cX10_feed 6 (some .int) ({ frames := 1, cells := 0, slots := 0, locals := 22 } : Room) [.ref ns, .int a, .int b, .int c, .int d, .int e] [(ns, .inr (10, [.ref tp, .ref rd, .ref gr, .ref rw, .ref tr, .ref oo, .ref pa, .ref iq, .ref sr, .ref sgn, .ref pp, .ref mu, .int dsd])), (tp, .inr (9, [.ref tb, .int (nI tl)])), (tb, .inl (γ.2 1, 340, .inl tf))] (fun u => some (.int (if tl + 20 ≤ 340 then nI (tl + 20) else -1))) (fun u => [(ns, .inr (10, [.ref tp, .ref rd, .ref gr, .ref rw, .ref tr, .ref oo, .ref pa, .ref iq, .ref sr, .ref sgn, .ref pp, .ref mu, .int dsd])), (tp, .inr (9, [.ref tb, .int (nI (if tl + 20 ≤ 340 then tl + 20 else tl))])), (tb, .inl (γ.2 1, 340, .inl u))]) (fun u => jfeed tf tl a b c d e u) := by
  refine jM.of [some (.ref ns), some (.int a), some (.int b), some (.int c), some (.int d), some (.int e)] rfl (Nat.le_of_ble_eq_true rfl) (by decide) ?_
  intro x g hE hin
  refine J.aload_n g dX10_feed_0 rfl rfl ?_
  refine J.get g jX10 0 (by decide) lf_X10_20 0 rfl rfl dX10_feed_1 ?_
  refine J.callV0 g (c_X9_length l γ _ _ _ _ ) jy_X9_length lm_X10_89 (q0 := 1) rfl jX9.1 ⟨⟨Nat.le_of_ble_eq_true rfl, Nat.le_of_ble_eq_true rfl⟩, Nat.le_of_ble_eq_true rfl, Nat.le_of_ble_eq_true rfl⟩ (Nat.le_of_ble_eq_true rfl) rfl [1, 2] rfl rfl dX10_feed_4 ?_
  intro _ _
  dsimp only [jpush]
  refine J.bipush (v := nI 20) g dX10_feed_7 (by decide +kernel) ?_
  refine J.iaddN g dX10_feed_9 ?_
  refine J.sipush (v := nI 340) g dX10_feed_10 (by decide +kernel) ?_
  refine J.icmp_leN g dX10_feed_13 (tgt := 18) (by decide) (by omega) (by omega) (fun c_13 => ?_) (fun c_13 => ?_)
  · refine J.aload_n g dX10_feed_18 rfl rfl ?_
    refine J.get g jX10 0 (by decide) lf_X10_20 0 rfl rfl dX10_feed_19 ?_
    refine J.iload_n g dX10_feed_22 rfl rfl ?_
    refine J.callV g (c_X9_appendNumber l γ _ _ _ _ _ (by omega)) jy_X9_appendNumber lm_X10_95 (q0 := 1) rfl jX9.1 ⟨⟨Nat.le_of_ble_eq_true rfl, Nat.le_of_ble_eq_true rfl⟩, Nat.le_of_ble_eq_true rfl, Nat.le_of_ble_eq_true rfl⟩ (Nat.le_of_ble_eq_true rfl) rfl [1, 2] rfl (fun _ => rfl) rfl dX10_feed_23 ?_
    intro u_23 h_23
    dsimp only [jput, List.set_cons_zero, List.set_cons_succ, Option.toList, List.append, List.cons_append, List.nil_append, List.append_nil]
    refine J.aload_n g dX10_feed_26 rfl rfl ?_
    refine J.get g jX10 0 (by decide) lf_X10_20 0 rfl rfl dX10_feed_27 ?_
    refine J.iload_n g dX10_feed_30 rfl rfl ?_
    refine J.callV g (c_X9_appendNumber l γ _ _ _ _ _ (by omega)) jy_X9_appendNumber lm_X10_95 (q0 := 1) rfl jX9.1 ⟨⟨Nat.le_of_ble_eq_true rfl, Nat.le_of_ble_eq_true rfl⟩, Nat.le_of_ble_eq_true rfl, Nat.le_of_ble_eq_true rfl⟩ (Nat.le_of_ble_eq_true rfl) rfl [1, 2] rfl (fun _ => rfl) rfl dX10_feed_31 ?_
    intro u_31 h_31
    dsimp only [jput, List.set_cons_zero, List.set_cons_succ, Option.toList, List.append, List.cons_append, List.nil_append, List.append_nil]
    refine J.aload_n g dX10_feed_34 rfl rfl ?_
    refine J.get g jX10 0 (by decide) lf_X10_20 0 rfl rfl dX10_feed_35 ?_
    refine J.iload_n g dX10_feed_38 rfl rfl ?_
    refine J.callV g (c_X9_appendNumber l γ _ _ _ _ _ (by omega)) jy_X9_appendNumber lm_X10_95 (q0 := 1) rfl jX9.1 ⟨⟨Nat.le_of_ble_eq_true rfl, Nat.le_of_ble_eq_true rfl⟩, Nat.le_of_ble_eq_true rfl, Nat.le_of_ble_eq_true rfl⟩ (Nat.le_of_ble_eq_true rfl) rfl [1, 2] rfl (fun _ => rfl) rfl dX10_feed_39 ?_
    intro u_39 h_39
    dsimp only [jput, List.set_cons_zero, List.set_cons_succ, Option.toList, List.append, List.cons_append, List.nil_append, List.append_nil]
    refine J.aload_n g dX10_feed_42 rfl rfl ?_
    refine J.get g jX10 0 (by decide) lf_X10_20 0 rfl rfl dX10_feed_43 ?_
    refine J.iload g dX10_feed_46 rfl ?_
    refine J.callV g (c_X9_appendNumber l γ _ _ _ _ _ (by omega)) jy_X9_appendNumber lm_X10_95 (q0 := 1) rfl jX9.1 ⟨⟨Nat.le_of_ble_eq_true rfl, Nat.le_of_ble_eq_true rfl⟩, Nat.le_of_ble_eq_true rfl, Nat.le_of_ble_eq_true rfl⟩ (Nat.le_of_ble_eq_true rfl) rfl [1, 2] rfl (fun _ => rfl) rfl dX10_feed_48 ?_
    intro u_48 h_48
    dsimp only [jput, List.set_cons_zero, List.set_cons_succ, Option.toList, List.append, List.cons_append, List.nil_append, List.append_nil]
    refine J.aload_n g dX10_feed_51 rfl rfl ?_
    refine J.get g jX10 0 (by decide) lf_X10_20 0 rfl rfl dX10_feed_52 ?_
    refine J.iload g dX10_feed_55 rfl ?_
    refine J.callV g (c_X9_appendNumber l γ _ _ _ _ _ (by omega)) jy_X9_appendNumber lm_X10_95 (q0 := 1) rfl jX9.1 ⟨⟨Nat.le_of_ble_eq_true rfl, Nat.le_of_ble_eq_true rfl⟩, Nat.le_of_ble_eq_true rfl, Nat.le_of_ble_eq_true rfl⟩ (Nat.le_of_ble_eq_true rfl) rfl [1, 2] rfl (fun _ => rfl) rfl dX10_feed_57 ?_
    intro u_57 h_57
    dsimp only [jput, List.set_cons_zero, List.set_cons_succ, Option.toList, List.append, List.cons_append, List.nil_append, List.append_nil]
    refine J.aload_n g dX10_feed_60 rfl rfl ?_
    refine J.get g jX10 0 (by decide) lf_X10_20 0 rfl rfl dX10_feed_61 ?_
    refine J.callV0 g (c_X9_length l γ _ _ _ _ ) jy_X9_length lm_X10_89 (q0 := 1) rfl jX9.1 ⟨⟨Nat.le_of_ble_eq_true rfl, Nat.le_of_ble_eq_true rfl⟩, Nat.le_of_ble_eq_true rfl, Nat.le_of_ble_eq_true rfl⟩ (Nat.le_of_ble_eq_true rfl) rfl [1, 2] rfl rfl dX10_feed_64 ?_
    intro _ _
    dsimp only [jpush]
    exact J.iret g hE u_57 (by rw [if_pos (by omega)]) ⟨fun _ => ⟨u_23, u_31, u_39, u_48, h_23, h_31, h_39, h_48, h_57⟩, fun z => absurd (by omega) z⟩ (by rw [if_pos (by omega)]) ⟨Nat.le_of_ble_eq_true rfl, Nat.le_of_ble_eq_true rfl⟩ dX10_feed_67
  · refine J.iconst (v := -1) g dX10_feed_16 (by decide) ?_
    exact J.iret g hE tf (by rw [if_neg (by omega)]) ⟨fun z => absurd z (by omega), fun _ => rfl⟩ (by rw [if_neg (by omega)]) ⟨Nat.le_of_ble_eq_true rfl, Nat.le_of_ble_eq_true rfl⟩ dX10_feed_17
set_option maxHeartbeats 4000000 in
set_option maxRecDepth 100000 in
theorem c_X10_end (l : Launch) (γ : jγ) (ns tp rd gr rw tr oo pa iq sr sgn pp mu : Nat) (dsd : Int32) (tb tl : Nat) (tf : Nat → Int32) (i : Int32) (hl : tl ≤ 340) : jM (S := Unit) l γ yX10_end cX10_end 2 (some .boolean) ({ frames := 1, cells := 0, slots := 0, locals := 21 } : Room) [.ref ns, .int i] [(ns, .inr (10, [.ref tp, .ref rd, .ref gr, .ref rw, .ref tr, .ref oo, .ref pa, .ref iq, .ref sr, .ref sgn, .ref pp, .ref mu, .int dsd])), (tp, .inr (9, [.ref tb, .int (nI tl)])), (tb, .inl (γ.2 1, 340, .inl tf))] (fun w0 => some (.int (jB (jcut i tl)))) (fun w0 => [(ns, .inr (10, [.ref tp, .ref rd, .ref gr, .ref rw, .ref tr, .ref oo, .ref pa, .ref iq, .ref sr, .ref sgn, .ref pp, .ref mu, .int dsd])), (tp, .inr (9, [.ref tb, .int (nI (jcutn i tl))])), (tb, .inl (γ.2 1, 340, .inl tf))]) (fun w0 => True) := by
  refine jM.of [some (.ref ns), some (.int i)] rfl (Nat.le_of_ble_eq_true rfl) (by decide) ?_
  intro x g hE hin
  refine J.aload_n g dX10_end_0 rfl rfl ?_
  refine J.get g jX10 0 (by decide) lf_X10_20 0 rfl rfl dX10_end_1 ?_
  refine J.iload_n g dX10_end_4 rfl rfl ?_
  refine J.callV g (c_X9_cutTo l γ _ _ _ _ _ (by omega)) jy_X9_cutTo lm_X10_99 (q0 := 1) rfl jX9.1 ⟨⟨Nat.le_of_ble_eq_true rfl, Nat.le_of_ble_eq_true rfl⟩, Nat.le_of_ble_eq_true rfl, Nat.le_of_ble_eq_true rfl⟩ (Nat.le_of_ble_eq_true rfl) rfl [1, 2] rfl (fun _ => rfl) rfl dX10_end_5 ?_
  intro _ _
  dsimp only [jput, List.set_cons_zero, List.set_cons_succ, Option.toList, List.append, List.cons_append, List.nil_append, List.append_nil]
  exact J.zret (by first | rfl | exact j_nz _) g hE () rfl trivial rfl ⟨Nat.le_of_ble_eq_true rfl, Nat.le_of_ble_eq_true rfl⟩ dX10_end_8
set_option maxHeartbeats 4000000 in
set_option maxRecDepth 100000 in
theorem c_X10_fault (l : Launch) (γ : jγ) (ns tp rd gr rw tr oo pa iq sr sgn pp mu : Nat) (dsd : Int32) (rr : Nat) (q : jRS) (w : Int32)  : jM (S := Unit) l γ yX10_fault cX10_fault 2 (some .int) ({ frames := 1, cells := 0, slots := 0, locals := 20 } : Room) [.ref ns, .int w] [(ns, .inr (10, [.ref tp, .ref rd, .ref gr, .ref rw, .ref tr, .ref oo, .ref pa, .ref iq, .ref sr, .ref sgn, .ref pp, .ref mu, .int dsd])), (rd, .inr (5, [.ref tp, .int (nI q.1.1), .int (nI q.1.2.1), .int (nI q.1.2.2.1), .int (nI q.1.2.2.2), .int (nI q.2.1.1), .int (nI q.2.1.2), .int (nI q.2.2.1.1), .int (nI q.2.2.1.2.1), .int q.2.2.1.2.2, .ref rr]))] (fun w0 => some (.int (if w = 0 then nI q.2.2.1.1 else if w = nI 1 then q.2.2.1.2.2 else -1))) (fun w0 => [(ns, .inr (10, [.ref tp, .ref rd, .ref gr, .ref rw, .ref tr, .ref oo, .ref pa, .ref iq, .ref sr, .ref sgn, .ref pp, .ref mu, .int dsd])), (rd, .inr (5, [.ref tp, .int (nI q.1.1), .int (nI q.1.2.1), .int (nI q.1.2.2.1), .int (nI q.1.2.2.2), .int (nI q.2.1.1), .int (nI q.2.1.2), .int (nI q.2.2.1.1), .int (nI q.2.2.1.2.1), .int q.2.2.1.2.2, .ref rr]))]) (fun w0 => True) := by
  refine jM.of [some (.ref ns), some (.int w)] rfl (Nat.le_of_ble_eq_true rfl) (by decide) ?_
  intro x g hE hin
  refine J.iload_n g dX10_fault_0 rfl rfl ?_
  refine J.if_ne g dX10_fault_1 (tgt := 12) (by decide) (fun c_1 => ?_) (fun c_1 => ?_)
  · refine J.iload_n g dX10_fault_12 rfl rfl ?_
    refine J.iconstN g 1 dX10_fault_13 ?_
    refine J.icmp_ne g dX10_fault_14 (tgt := 27) (by decide) (fun c_14 => ?_) (fun c_14 => ?_)
    · refine J.iconst (v := -1) g dX10_fault_27 (by decide) ?_
      exact J.iret g hE () (by first | rw [if_neg c_1, if_pos c_14] | rw [if_neg c_1, if_neg c_14]) trivial rfl ⟨Nat.le_of_ble_eq_true rfl, Nat.le_of_ble_eq_true rfl⟩ dX10_fault_28
    · refine J.aload_n g dX10_fault_17 rfl rfl ?_
      refine J.get g jX10 1 (by decide) lf_X10_12 0 rfl rfl dX10_fault_18 ?_
      refine J.callV0 g (c_X5_faultRow l γ _ _ _ _ ) jy_X5_faultRow lm_X10_132 (q0 := 1) rfl jX5.1 ⟨⟨Nat.le_of_ble_eq_true rfl, Nat.le_of_ble_eq_true rfl⟩, Nat.le_of_ble_eq_true rfl, Nat.le_of_ble_eq_true rfl⟩ (Nat.le_of_ble_eq_true rfl) rfl [1] rfl rfl dX10_fault_21 ?_
      intro _ _
      dsimp only [jpush]
      refine J.goto g dX10_fault_24 (tgt := 28) (by decide) ?_
      exact J.iret g hE () (by first | rw [if_neg c_1, if_pos c_14] | rw [if_neg c_1, if_neg c_14]) trivial rfl ⟨Nat.le_of_ble_eq_true rfl, Nat.le_of_ble_eq_true rfl⟩ dX10_fault_28
  · refine J.aload_n g dX10_fault_4 rfl rfl ?_
    refine J.get g jX10 1 (by decide) lf_X10_12 0 rfl rfl dX10_fault_5 ?_
    refine J.callV0 g (c_X5_faultKind l γ _ _ _ _ ) jy_X5_faultKind lm_X10_106 (q0 := 1) rfl jX5.1 ⟨⟨Nat.le_of_ble_eq_true rfl, Nat.le_of_ble_eq_true rfl⟩, Nat.le_of_ble_eq_true rfl, Nat.le_of_ble_eq_true rfl⟩ (Nat.le_of_ble_eq_true rfl) rfl [1] rfl rfl dX10_fault_8 ?_
    intro _ _
    dsimp only [jpush]
    exact J.iret g hE () (by rw [if_pos c_1]) trivial rfl ⟨Nat.le_of_ble_eq_true rfl, Nat.le_of_ble_eq_true rfl⟩ dX10_fault_11
set_option maxHeartbeats 4000000 in
set_option maxRecDepth 100000 in
theorem c_X10_part (l : Launch) (γ : jγ) (ns tp rd gr rw tr oo pa iq sr sgn pp mu : Nat) (dsd : Int32) (mk ag cd pt od ex : Nat) (mf af : Nat → Nat) (i : Int32) (hc : cd < 2 ^ 31) (hp : pt ≤ 3) : jM (S := Unit) l γ yX10_part cX10_part 2 (some .int) ({ frames := 2, cells := 0, slots := 0, locals := 42 } : Room) [.ref ns, .int i] [(ns, .inr (10, [.ref tp, .ref rd, .ref gr, .ref rw, .ref tr, .ref oo, .ref pa, .ref iq, .ref sr, .ref sgn, .ref pp, .ref mu, .int dsd])), (gr, .inr (0, [.ref mk, .ref ag, .int (nI cd), .int (nI pt), .int (nI od), .int (nI ex)])), (mk, .inl (γ.2 1, 576, .inl (fun j => nI (mf j)))), (ag, .inl (γ.2 1, 24, .inl (fun j => nI (af j))))] (fun w0 => some (.int (jpart cd pt i))) (fun w0 => [(ns, .inr (10, [.ref tp, .ref rd, .ref gr, .ref rw, .ref tr, .ref oo, .ref pa, .ref iq, .ref sr, .ref sgn, .ref pp, .ref mu, .int dsd])), (gr, .inr (0, [.ref mk, .ref ag, .int (nI cd), .int (nI pt), .int (nI od), .int (nI ex)])), (mk, .inl (γ.2 1, 576, .inl (fun j => nI (mf j)))), (ag, .inl (γ.2 1, 24, .inl (fun j => nI (af j))))]) (fun w0 => True) := by
  refine jM.of [some (.ref ns), some (.int i)] rfl (Nat.le_of_ble_eq_true rfl) (by decide) ?_
  intro x g hE hin
  refine J.iload_n g dX10_part_0 rfl rfl ?_
  refine J.if_lt g dX10_part_1 (tgt := 26) (by decide) (fun c_1 => ?_) (fun c_1 => ?_)
  · refine J.iconst (v := -1) g dX10_part_26 (by decide) ?_
    exact J.iret g hE () (by first | rw [jpart_f (jhas_f1 c_1)] | rw [jpart_f (jhas_f2 (by omega) c_12)] | rw [jpart_t hk hp]) trivial rfl ⟨Nat.le_of_ble_eq_true rfl, Nat.le_of_ble_eq_true rfl⟩ dX10_part_27
  · refine J.iload_n g dX10_part_4 rfl rfl ?_
    refine J.aload_n g dX10_part_5 rfl rfl ?_
    refine J.get g jX10 2 (by decide) lf_X10_26 0 rfl rfl dX10_part_6 ?_
    refine J.callV0 g (c_X0_parts l γ _ _ _ _ _ _ _ _ _ ) jy_X0_parts lm_X10_135 (q0 := 1) rfl jX0.1 ⟨⟨Nat.le_of_ble_eq_true rfl, Nat.le_of_ble_eq_true rfl⟩, Nat.le_of_ble_eq_true rfl, Nat.le_of_ble_eq_true rfl⟩ (Nat.le_of_ble_eq_true rfl) rfl [1, 2, 3] rfl rfl dX10_part_9 ?_
    intro _ _
    dsimp only [jpush]
    refine J.icmp_ge g dX10_part_12 (tgt := 26) (by decide) (fun c_12 => ?_) (fun c_12 => ?_)
    · refine J.iconst (v := -1) g dX10_part_26 (by decide) ?_
      exact J.iret g hE () (by first | rw [jpart_f (jhas_f1 c_1)] | rw [jpart_f (jhas_f2 (by omega) c_12)] | rw [jpart_t hk hp]) trivial rfl ⟨Nat.le_of_ble_eq_true rfl, Nat.le_of_ble_eq_true rfl⟩ dX10_part_27
    · obtain ⟨k, hk, rfl⟩ := jhas_t2 (by omega) c_1 c_12
      refine J.aload_n g dX10_part_15 rfl rfl ?_
      refine J.get g jX10 2 (by decide) lf_X10_26 0 rfl rfl dX10_part_16 ?_
      refine J.iload_n g dX10_part_19 rfl rfl ?_
      refine J.callV0 g (c_X0_sizeOf l γ _ _ _ _ _ _ _ _ _ _ hc (by omega)) jy_X0_sizeOf lm_X10_149 (q0 := 1) rfl jX0.1 ⟨⟨Nat.le_of_ble_eq_true rfl, Nat.le_of_ble_eq_true rfl⟩, Nat.le_of_ble_eq_true rfl, Nat.le_of_ble_eq_true rfl⟩ (Nat.le_of_ble_eq_true rfl) rfl [1, 2, 3] rfl rfl dX10_part_20 ?_
      intro _ _
      dsimp only [jpush]
      rw [gsz_eq]
      refine J.goto g dX10_part_23 (tgt := 27) (by decide) ?_
      exact J.iret g hE () (by first | rw [jpart_f (jhas_f1 c_1)] | rw [jpart_f (jhas_f2 (by omega) c_12)] | rw [jpart_t hk hp]) trivial rfl ⟨Nat.le_of_ble_eq_true rfl, Nat.le_of_ble_eq_true rfl⟩ dX10_part_27
set_option maxHeartbeats 4000000 in
set_option maxRecDepth 100000 in
theorem c_X10_at (l : Launch) (γ : jγ) (ns tp rd gr rw tr oo pa iq sr sgn pp mu : Nat) (dsd : Int32) (rwe n : Nat) (f : Nat → Nat) (i : Int32) (hn : n ≤ 12) : jM (S := Unit) l γ yX10_at cX10_at 2 (some .int) ({ frames := 2, cells := 0, slots := 0, locals := 42 } : Room) [.ref ns, .int i] [(ns, .inr (10, [.ref tp, .ref rd, .ref gr, .ref rw, .ref tr, .ref oo, .ref pa, .ref iq, .ref sr, .ref sgn, .ref pp, .ref mu, .int dsd])), (rw, .inr (6, [.ref rwe, .int (nI n)])), (rwe, .inl (γ.2 0, 12, .inl (fun j => nI (f j))))] (fun w0 => some (.int (jat f n i))) (fun w0 => [(ns, .inr (10, [.ref tp, .ref rd, .ref gr, .ref rw, .ref tr, .ref oo, .ref pa, .ref iq, .ref sr, .ref sgn, .ref pp, .ref mu, .int dsd])), (rw, .inr (6, [.ref rwe, .int (nI n)])), (rwe, .inl (γ.2 0, 12, .inl (fun j => nI (f j))))]) (fun w0 => True) := by
  refine jM.of [some (.ref ns), some (.int i)] rfl (Nat.le_of_ble_eq_true rfl) (by decide) ?_
  intro x g hE hin
  refine J.aload_n g dX10_at_0 rfl rfl ?_
  refine J.get g jX10 3 (by decide) lf_X10_33 0 rfl rfl dX10_at_1 ?_
  refine J.iload_n g dX10_at_4 rfl rfl ?_
  refine J.callV0 g (c_X6_elementAt l γ _ _ _ _ _ hn) jy_X6_elementAt lm_X10_153 (q0 := 1) rfl jX6.1 ⟨⟨Nat.le_of_ble_eq_true rfl, Nat.le_of_ble_eq_true rfl⟩, Nat.le_of_ble_eq_true rfl, Nat.le_of_ble_eq_true rfl⟩ (Nat.le_of_ble_eq_true rfl) rfl [1, 2] rfl rfl dX10_at_5 ?_
  intro _ _
  dsimp only [jpush]
  exact J.iret g hE () rfl trivial rfl ⟨Nat.le_of_ble_eq_true rfl, Nat.le_of_ble_eq_true rfl⟩ dX10_at_8
set_option maxHeartbeats 4000000 in
set_option maxRecDepth 100000 in
theorem c_X10_add (l : Launch) (γ : jγ) (ns tp rd gr rw tr oo pa iq sr sgn pp mu : Nat) (dsd : Int32) (mk ag cd pt od ex : Nat) (mf af : Nat → Nat) (a b : Int32) (hT : jtab od mf af) : jM (S := Unit) l γ yX10_add cX10_add 3 (some .int) ({ frames := 2, cells := 0, slots := 0, locals := 43 } : Room) [.ref ns, .int a, .int b] [(ns, .inr (10, [.ref tp, .ref rd, .ref gr, .ref rw, .ref tr, .ref oo, .ref pa, .ref iq, .ref sr, .ref sgn, .ref pp, .ref mu, .int dsd])), (gr, .inr (0, [.ref mk, .ref ag, .int (nI cd), .int (nI pt), .int (nI od), .int (nI ex)])), (mk, .inl (γ.2 1, 576, .inl (fun j => nI (mf j)))), (ag, .inl (γ.2 1, 24, .inl (fun j => nI (af j))))] (fun w0 => some (.int (jadd od mf a b))) (fun w0 => [(ns, .inr (10, [.ref tp, .ref rd, .ref gr, .ref rw, .ref tr, .ref oo, .ref pa, .ref iq, .ref sr, .ref sgn, .ref pp, .ref mu, .int dsd])), (gr, .inr (0, [.ref mk, .ref ag, .int (nI cd), .int (nI pt), .int (nI od), .int (nI ex)])), (mk, .inl (γ.2 1, 576, .inl (fun j => nI (mf j)))), (ag, .inl (γ.2 1, 24, .inl (fun j => nI (af j))))]) (fun w0 => True) := by
  refine jM.of [some (.ref ns), some (.int a), some (.int b)] rfl (Nat.le_of_ble_eq_true rfl) (by decide) ?_
  intro x g hE hin
  refine J.aload_n g dX10_add_0 rfl rfl ?_
  refine J.get g jX10 2 (by decide) lf_X10_26 0 rfl rfl dX10_add_1 ?_
  refine J.iload_n g dX10_add_4 rfl rfl ?_
  refine J.callV0 g (c_X0_has l γ _ _ _ _ _ _ _ _ _ _ hT.1) jy_X0_has lm_X10_156 (q0 := 1) rfl jX0.1 ⟨⟨Nat.le_of_ble_eq_true rfl, Nat.le_of_ble_eq_true rfl⟩, Nat.le_of_ble_eq_true rfl, Nat.le_of_ble_eq_true rfl⟩ (Nat.le_of_ble_eq_true rfl) rfl [1, 2, 3] rfl rfl dX10_add_5 ?_
  intro _ _
  dsimp only [jpush]
  refine J.if_eqB g dX10_add_8 (tgt := 34) (by decide) (fun c_8 => ?_) (fun c_8 => ?_)
  · refine J.iconst (v := -1) g dX10_add_34 (by decide) ?_
    exact J.iret g hE () (by first | rw [jadd_t hT.1 hka hkb] | rw [jadd_f2 c_19] | rw [jadd_f1 c_8]) trivial rfl ⟨Nat.le_of_ble_eq_true rfl, Nat.le_of_ble_eq_true rfl⟩ dX10_add_35
  · obtain ⟨ka, hka, rfl⟩ := jhas_t c_8
    refine J.aload_n g dX10_add_11 rfl rfl ?_
    refine J.get g jX10 2 (by decide) lf_X10_26 0 rfl rfl dX10_add_12 ?_
    refine J.iload_n g dX10_add_15 rfl rfl ?_
    refine J.callV0 g (c_X0_has l γ _ _ _ _ _ _ _ _ _ _ hT.1) jy_X0_has lm_X10_156 (q0 := 1) rfl jX0.1 ⟨⟨Nat.le_of_ble_eq_true rfl, Nat.le_of_ble_eq_true rfl⟩, Nat.le_of_ble_eq_true rfl, Nat.le_of_ble_eq_true rfl⟩ (Nat.le_of_ble_eq_true rfl) rfl [1, 2, 3] rfl rfl dX10_add_16 ?_
    intro _ _
    dsimp only [jpush]
    refine J.if_eqB g dX10_add_19 (tgt := 34) (by decide) (fun c_19 => ?_) (fun c_19 => ?_)
    · refine J.iconst (v := -1) g dX10_add_34 (by decide) ?_
      exact J.iret g hE () (by first | rw [jadd_t hT.1 hka hkb] | rw [jadd_f2 c_19] | rw [jadd_f1 c_8]) trivial rfl ⟨Nat.le_of_ble_eq_true rfl, Nat.le_of_ble_eq_true rfl⟩ dX10_add_35
    · obtain ⟨kb, hkb, rfl⟩ := jhas_t c_19
      refine J.aload_n g dX10_add_22 rfl rfl ?_
      refine J.get g jX10 2 (by decide) lf_X10_26 0 rfl rfl dX10_add_23 ?_
      refine J.iload_n g dX10_add_26 rfl rfl ?_
      refine J.iload_n g dX10_add_27 rfl rfl ?_
      refine J.callV0 g (c_X0_plus l γ _ _ _ _ _ _ _ _ _ _ _ hT (by have := hT.1; omega) (by have := hT.1; omega)) jy_X0_plus lm_X10_159 (q0 := 1) rfl jX0.1 ⟨⟨Nat.le_of_ble_eq_true rfl, Nat.le_of_ble_eq_true rfl⟩, Nat.le_of_ble_eq_true rfl, Nat.le_of_ble_eq_true rfl⟩ (Nat.le_of_ble_eq_true rfl) rfl [1, 2, 3] rfl rfl dX10_add_28 ?_
      intro _ _
      dsimp only [jpush]
      refine J.goto g dX10_add_31 (tgt := 35) (by decide) ?_
      exact J.iret g hE () (by first | rw [jadd_t hT.1 hka hkb] | rw [jadd_f2 c_19] | rw [jadd_f1 c_8]) trivial rfl ⟨Nat.le_of_ble_eq_true rfl, Nat.le_of_ble_eq_true rfl⟩ dX10_add_35
set_option maxHeartbeats 4000000 in
set_option maxRecDepth 100000 in
theorem c_X10_sumOfAll (l : Launch) (γ : jγ) (ns tp rd gr rw tr oo pa iq sr sgn pp mu : Nat) (dsd : Int32) (rwe n : Nat) (f : Nat → Nat) (mk ag cd pt od ex : Nat) (mf af : Nat → Nat) (hn : n ≤ 12) (hT : jtab od mf af) (hf : ∀ j, j < n → f j < 24) : jM (S := Unit) l γ yX10_sumOfAll cX10_sumOfAll 1 (some .int) ({ frames := 3, cells := 0, slots := 0, locals := 67 } : Room) [.ref ns] [(ns, .inr (10, [.ref tp, .ref rd, .ref gr, .ref rw, .ref tr, .ref oo, .ref pa, .ref iq, .ref sr, .ref sgn, .ref pp, .ref mu, .int dsd])), (rw, .inr (6, [.ref rwe, .int (nI n)])), (rwe, .inl (γ.2 0, 12, .inl (fun j => nI (f j)))), (gr, .inr (0, [.ref mk, .ref ag, .int (nI cd), .int (nI pt), .int (nI od), .int (nI ex)])), (mk, .inl (γ.2 1, 576, .inl (fun j => nI (mf j)))), (ag, .inl (γ.2 1, 24, .inl (fun j => nI (af j))))] (fun w0 => some (.int (jsa od mf f n))) (fun w0 => [(ns, .inr (10, [.ref tp, .ref rd, .ref gr, .ref rw, .ref tr, .ref oo, .ref pa, .ref iq, .ref sr, .ref sgn, .ref pp, .ref mu, .int dsd])), (rw, .inr (6, [.ref rwe, .int (nI n)])), (rwe, .inl (γ.2 0, 12, .inl (fun j => nI (f j)))), (gr, .inr (0, [.ref mk, .ref ag, .int (nI cd), .int (nI pt), .int (nI od), .int (nI ex)])), (mk, .inl (γ.2 1, 576, .inl (fun j => nI (mf j)))), (ag, .inl (γ.2 1, 24, .inl (fun j => nI (af j))))]) (fun w0 => True) := by
  refine jM.of [some (.ref ns)] rfl (Nat.le_of_ble_eq_true rfl) (by decide) ?_
  intro x g hE hin
  refine J.aload_n g dX10_sumOfAll_0 rfl rfl ?_
  refine J.get g jX10 3 (by decide) lf_X10_33 0 rfl rfl dX10_sumOfAll_1 ?_
  refine J.callV0 g (c_X6_length l γ _ _ _ _ ) jy_X6_length lm_X10_144 (q0 := 1) rfl jX6.1 ⟨⟨Nat.le_of_ble_eq_true rfl, Nat.le_of_ble_eq_true rfl⟩, Nat.le_of_ble_eq_true rfl, Nat.le_of_ble_eq_true rfl⟩ (Nat.le_of_ble_eq_true rfl) rfl [1, 2] rfl rfl dX10_sumOfAll_4 ?_
  intro _ _
  dsimp only [jpush]
  refine J.if_neN g dX10_sumOfAll_7 (tgt := 14) (by decide) (by omega) (fun c_7 => ?_) (fun c_7 => ?_)
  · refine J.aload_n g dX10_sumOfAll_14 rfl rfl ?_
    refine J.get g jX10 3 (by decide) lf_X10_33 0 rfl rfl dX10_sumOfAll_15 ?_
    refine J.aload_n g dX10_sumOfAll_18 rfl rfl ?_
    refine J.get g jX10 2 (by decide) lf_X10_26 0 rfl rfl dX10_sumOfAll_19 ?_
    refine J.aload_n g dX10_sumOfAll_22 rfl rfl ?_
    refine J.get g jX10 3 (by decide) lf_X10_33 0 rfl rfl dX10_sumOfAll_23 ?_
    refine J.callV0 g (c_X6_wholeSet l γ _ _ _ _ hn) jy_X6_wholeSet lm_X10_163 (q0 := 1) rfl jX6.1 ⟨⟨Nat.le_of_ble_eq_true rfl, Nat.le_of_ble_eq_true rfl⟩, Nat.le_of_ble_eq_true rfl, Nat.le_of_ble_eq_true rfl⟩ (Nat.le_of_ble_eq_true rfl) rfl [1, 2] rfl rfl dX10_sumOfAll_26 ?_
    intro _ _
    dsimp only [jpush]
    refine J.callV0 g (c_X6_sumOfSet l γ _ _ _ _ _ _ _ _ _ _ _ _ _ _ hn hT hf (by have := jpn_lt hn; omega)) jy_X6_sumOfSet lm_X10_173 (q0 := 1) rfl jX6.1 ⟨⟨Nat.le_of_ble_eq_true rfl, Nat.le_of_ble_eq_true rfl⟩, Nat.le_of_ble_eq_true rfl, Nat.le_of_ble_eq_true rfl⟩ (Nat.le_of_ble_eq_true rfl) rfl [1, 2, 3, 4, 5] rfl rfl dX10_sumOfAll_29 ?_
    intro _ _
    dsimp only [jpush]
    exact J.iret g hE () (by first | rw [jsa, if_pos c_7] | rw [jsa, if_neg c_7]) trivial rfl ⟨Nat.le_of_ble_eq_true rfl, Nat.le_of_ble_eq_true rfl⟩ dX10_sumOfAll_32
  · refine J.iconst (v := -1) g dX10_sumOfAll_10 (by decide) ?_
    refine J.goto g dX10_sumOfAll_11 (tgt := 32) (by decide) ?_
    exact J.iret g hE () (by first | rw [jsa, if_pos c_7] | rw [jsa, if_neg c_7]) trivial rfl ⟨Nat.le_of_ble_eq_true rfl, Nat.le_of_ble_eq_true rfl⟩ dX10_sumOfAll_32
set_option maxHeartbeats 4000000 in
set_option maxRecDepth 100000 in
theorem c_X10_canMultiply (l : Launch) (γ : jγ) (ns tp rd gr rw tr oo pa iq sr sgn pp mu : Nat) (dsd : Int32) (rwe n : Nat) (f : Nat → Nat) (mk ag cd pt od ex : Nat) (mf af : Nat → Nat) (u : Int32) (hn : n ≤ 12) (he : ex < 2 ^ 30) : jM (S := Unit) l γ yX10_canMultiply cX10_canMultiply 2 (some .boolean) ({ frames := 1, cells := 0, slots := 0, locals := 22 } : Room) [.ref ns, .int u] [(ns, .inr (10, [.ref tp, .ref rd, .ref gr, .ref rw, .ref tr, .ref oo, .ref pa, .ref iq, .ref sr, .ref sgn, .ref pp, .ref mu, .int dsd])), (rw, .inr (6, [.ref rwe, .int (nI n)])), (rwe, .inl (γ.2 0, 12, .inl (fun j => nI (f j)))), (gr, .inr (0, [.ref mk, .ref ag, .int (nI cd), .int (nI pt), .int (nI od), .int (nI ex)])), (mk, .inl (γ.2 1, 576, .inl (fun j => nI (mf j)))), (ag, .inl (γ.2 1, 24, .inl (fun j => nI (af j))))] (fun w0 => some (.int (jB (jcm ex n u)))) (fun w0 => [(ns, .inr (10, [.ref tp, .ref rd, .ref gr, .ref rw, .ref tr, .ref oo, .ref pa, .ref iq, .ref sr, .ref sgn, .ref pp, .ref mu, .int dsd])), (rw, .inr (6, [.ref rwe, .int (nI n)])), (rwe, .inl (γ.2 0, 12, .inl (fun j => nI (f j)))), (gr, .inr (0, [.ref mk, .ref ag, .int (nI cd), .int (nI pt), .int (nI od), .int (nI ex)])), (mk, .inl (γ.2 1, 576, .inl (fun j => nI (mf j)))), (ag, .inl (γ.2 1, 24, .inl (fun j => nI (af j))))]) (fun w0 => True) := by
  refine jM.of [some (.ref ns), some (.int u)] rfl (Nat.le_of_ble_eq_true rfl) (by decide) ?_
  intro x g hE hin
  refine J.aload_n g dX10_canMultiply_0 rfl rfl ?_
  refine J.get g jX10 3 (by decide) lf_X10_33 0 rfl rfl dX10_canMultiply_1 ?_
  refine J.callV0 g (c_X6_length l γ _ _ _ _ ) jy_X6_length lm_X10_144 (q0 := 1) rfl jX6.1 ⟨⟨Nat.le_of_ble_eq_true rfl, Nat.le_of_ble_eq_true rfl⟩, Nat.le_of_ble_eq_true rfl, Nat.le_of_ble_eq_true rfl⟩ (Nat.le_of_ble_eq_true rfl) rfl [1, 2] rfl rfl dX10_canMultiply_4 ?_
  intro _ _
  dsimp only [jpush]
  refine J.if_leN g dX10_canMultiply_7 (tgt := 36) (by decide) (by omega) (fun c_7 => ?_) (fun c_7 => ?_)
  · refine J.iconstN g 0 dX10_canMultiply_36 ?_
    exact J.zret (by first | rfl | exact j_nz _) g hE () (jB_f (by first | exact jcm_0 c_7 | exact jcm_1 c_12 | exact jcm_2 c_18 | exact (jcm_n c_7 hk1 hk2).trans c_29)) trivial rfl ⟨Nat.le_of_ble_eq_true rfl, Nat.le_of_ble_eq_true rfl⟩ dX10_canMultiply_37
  · refine J.iload_n g dX10_canMultiply_10 rfl rfl ?_
    refine J.iconstN g 1 dX10_canMultiply_11 ?_
    refine J.icmp_lt g dX10_canMultiply_12 (tgt := 36) (by decide) (fun c_12 => ?_) (fun c_12 => ?_)
    · refine J.iconstN g 0 dX10_canMultiply_36 ?_
      exact J.zret (by first | rfl | exact j_nz _) g hE () (jB_f (by first | exact jcm_0 c_7 | exact jcm_1 c_12 | exact jcm_2 c_18 | exact (jcm_n c_7 hk1 hk2).trans c_29)) trivial rfl ⟨Nat.le_of_ble_eq_true rfl, Nat.le_of_ble_eq_true rfl⟩ dX10_canMultiply_37
    · refine J.iload_n g dX10_canMultiply_15 rfl rfl ?_
      refine J.bipush (v := nI 24) g dX10_canMultiply_16 (by decide +kernel) ?_
      refine J.icmp_gt g dX10_canMultiply_18 (tgt := 36) (by decide) (fun c_18 => ?_) (fun c_18 => ?_)
      · refine J.iconstN g 0 dX10_canMultiply_36 ?_
        exact J.zret (by first | rfl | exact j_nz _) g hE () (jB_f (by first | exact jcm_0 c_7 | exact jcm_1 c_12 | exact jcm_2 c_18 | exact (jcm_n c_7 hk1 hk2).trans c_29)) trivial rfl ⟨Nat.le_of_ble_eq_true rfl, Nat.le_of_ble_eq_true rfl⟩ dX10_canMultiply_37
      · obtain ⟨k, hk1, hk2, rfl⟩ := jcm_k c_12 c_18
        refine J.aload_n g dX10_canMultiply_21 rfl rfl ?_
        refine J.get g jX10 2 (by decide) lf_X10_26 0 rfl rfl dX10_canMultiply_22 ?_
        refine J.iload_n g dX10_canMultiply_25 rfl rfl ?_
        refine J.callV0 g (c_X0_isUnit l γ _ _ _ _ _ _ _ _ _ _ (by omega) he) jy_X0_isUnit lm_X10_236 (q0 := 3) rfl jX0.1 ⟨⟨Nat.le_of_ble_eq_true rfl, Nat.le_of_ble_eq_true rfl⟩, Nat.le_of_ble_eq_true rfl, Nat.le_of_ble_eq_true rfl⟩ (Nat.le_of_ble_eq_true rfl) rfl [3, 4, 5] rfl rfl dX10_canMultiply_26 ?_
        intro _ _
        dsimp only [jpush]
        refine J.if_eqB g dX10_canMultiply_29 (tgt := 36) (by decide) (fun c_29 => ?_) (fun c_29 => ?_)
        · refine J.iconstN g 0 dX10_canMultiply_36 ?_
          exact J.zret (by first | rfl | exact j_nz _) g hE () (jB_f (by first | exact jcm_0 c_7 | exact jcm_1 c_12 | exact jcm_2 c_18 | exact (jcm_n c_7 hk1 hk2).trans c_29)) trivial rfl ⟨Nat.le_of_ble_eq_true rfl, Nat.le_of_ble_eq_true rfl⟩ dX10_canMultiply_37
        · refine J.iconstN g 1 dX10_canMultiply_32 ?_
          refine J.goto g dX10_canMultiply_33 (tgt := 37) (by decide) ?_
          exact J.zret (by first | rfl | exact j_nz _) g hE () (jB_t (by first | exact jcm_0 c_7 | exact jcm_1 c_12 | exact jcm_2 c_18 | exact (jcm_n c_7 hk1 hk2).trans c_29)) trivial rfl ⟨Nat.le_of_ble_eq_true rfl, Nat.le_of_ble_eq_true rfl⟩ dX10_canMultiply_37
set_option maxHeartbeats 4000000 in
set_option maxRecDepth 100000 in
theorem c_X10_draw (l : Launch) (γ : jγ) (ns tp rd gr rw tr oo pa iq sr sgn pp mu : Nat) (dsd : Int32) (n : Nat) (hn : n < 2 ^ 31) : jM (S := Unit) l γ yX10_draw cX10_draw 2 (some .int) ({ frames := 0, cells := 0, slots := 0, locals := 0 } : Room) [.ref ns, .int (nI n)] [(ns, .inr (10, [.ref tp, .ref rd, .ref gr, .ref rw, .ref tr, .ref oo, .ref pa, .ref iq, .ref sr, .ref sgn, .ref pp, .ref mu, .int dsd]))] (fun w0 => some (.int (nI (jdv dsd n)))) (fun w0 => [(ns, .inr (10, [.ref tp, .ref rd, .ref gr, .ref rw, .ref tr, .ref oo, .ref pa, .ref iq, .ref sr, .ref sgn, .ref pp, .ref mu, .int (jdr dsd)]))]) (fun w0 => True) := by
  refine jM.of [some (.ref ns), some (.int (nI n))] rfl (Nat.le_of_ble_eq_true rfl) (by decide) ?_
  intro x g hE hin
  refine J.aload_n g dX10_draw_0 rfl rfl ?_
  refine J.aload_n g dX10_draw_1 rfl rfl ?_
  refine J.get g jX10 12 (by decide) lf_X10_85 0 rfl rfl dX10_draw_2 ?_
  refine J.ldcw g lc_X10_292 dX10_draw_5 ?_
  refine J.imul g dX10_draw_8 ?_
  refine J.sipush (v := nI 12345) g dX10_draw_9 (by decide +kernel) ?_
  refine J.iadd g dX10_draw_12 ?_
  refine J.put g jX10 12 (by decide) lf_X10_85 0 rfl rfl (Nat.le_of_ble_eq_true rfl) rfl rfl dX10_draw_13 ?_
  try dsimp only [List.set_cons_zero, List.set_cons_succ]
  refine J.iload_n g dX10_draw_16 rfl rfl ?_
  refine J.iconstN g 1 dX10_draw_17 ?_
  refine J.icmp_geN g dX10_draw_18 (tgt := 25) (by decide) (by omega) (by omega) (fun c_18 => ?_) (fun c_18 => ?_)
  · refine J.aload_n g dX10_draw_25 rfl rfl ?_
    refine J.get g jX10 12 (by decide) lf_X10_85 0 rfl rfl dX10_draw_26 ?_
    refine J.bipush (v := nI 8) g dX10_draw_29 (by decide +kernel) ?_
    refine J.iushr g dX10_draw_31 (jdr_sh dsd) ?_
    refine J.iload_n g dX10_draw_32 rfl rfl ?_
    refine J.iremN g dX10_draw_33 (by have := (jdr dsd).toBitVec.isLt; omega) (by omega) (by omega) ?_
    exact J.iret g hE () (by first | rw [jdv, if_pos c_18] | rw [jdv, if_neg (Nat.not_lt.mpr c_18)]) trivial rfl ⟨Nat.le_of_ble_eq_true rfl, Nat.le_of_ble_eq_true rfl⟩ dX10_draw_34
  · refine J.iconstN g 0 dX10_draw_21 ?_
    refine J.goto g dX10_draw_22 (tgt := 34) (by decide) ?_
    exact J.iret g hE () (by first | rw [jdv, if_pos c_18] | rw [jdv, if_neg (Nat.not_lt.mpr c_18)]) trivial rfl ⟨Nat.le_of_ble_eq_true rfl, Nat.le_of_ble_eq_true rfl⟩ dX10_draw_34
set_option maxHeartbeats 4000000 in
set_option maxRecDepth 100000 in
theorem c_X10_enough (l : Launch) (γ : jγ) (ns tp rd gr rw tr oo pa iq sr sgn pp mu : Nat) (dsd : Int32) (mk ag cd pt od ex : Nat) (mf af : Nat → Nat) (ho : od ≤ 24) (he : ex ≤ 24) : jM (S := Unit) l γ yX10_enough cX10_enough 3 (some .int) ({ frames := 1, cells := 0, slots := 0, locals := 20 } : Room) [.ref ns] [(ns, .inr (10, [.ref tp, .ref rd, .ref gr, .ref rw, .ref tr, .ref oo, .ref pa, .ref iq, .ref sr, .ref sgn, .ref pp, .ref mu, .int dsd])), (gr, .inr (0, [.ref mk, .ref ag, .int (nI cd), .int (nI pt), .int (nI od), .int (nI ex)])), (mk, .inl (γ.2 1, 576, .inl (fun j => nI (mf j)))), (ag, .inl (γ.2 1, 24, .inl (fun j => nI (af j))))] (fun w0 => some (.int (jen od ex))) (fun w0 => [(ns, .inr (10, [.ref tp, .ref rd, .ref gr, .ref rw, .ref tr, .ref oo, .ref pa, .ref iq, .ref sr, .ref sgn, .ref pp, .ref mu, .int dsd])), (gr, .inr (0, [.ref mk, .ref ag, .int (nI cd), .int (nI pt), .int (nI od), .int (nI ex)])), (mk, .inl (γ.2 1, 576, .inl (fun j => nI (mf j)))), (ag, .inl (γ.2 1, 24, .inl (fun j => nI (af j))))]) (fun w0 => True) := by
  refine jM.of [some (.ref ns), none, none] rfl (Nat.le_of_ble_eq_true rfl) (by decide) ?_
  intro x g hE hin
  refine J.aload_n g dX10_enough_0 rfl rfl ?_
  refine J.get g jX10 2 (by decide) lf_X10_26 0 rfl rfl dX10_enough_1 ?_
  refine J.callV0 g (c_X0_order l γ _ _ _ _ _ _ _ _ _ ) jy_X0_order lm_X10_138 (q0 := 1) rfl jX0.1 ⟨⟨Nat.le_of_ble_eq_true rfl, Nat.le_of_ble_eq_true rfl⟩, Nat.le_of_ble_eq_true rfl, Nat.le_of_ble_eq_true rfl⟩ (Nat.le_of_ble_eq_true rfl) rfl [1, 2, 3] rfl rfl dX10_enough_4 ?_
  intro _ _
  dsimp only [jpush]
  refine J.istore_n g dX10_enough_7 rfl rfl rfl ?_
  try dsimp only [List.set_cons_zero, List.set_cons_succ]
  refine J.aload_n g dX10_enough_8 rfl rfl ?_
  refine J.get g jX10 2 (by decide) lf_X10_26 0 rfl rfl dX10_enough_9 ?_
  refine J.callV0 g (c_X0_exponent l γ _ _ _ _ _ _ _ _ _ ) jy_X0_exponent lm_X10_141 (q0 := 1) rfl jX0.1 ⟨⟨Nat.le_of_ble_eq_true rfl, Nat.le_of_ble_eq_true rfl⟩, Nat.le_of_ble_eq_true rfl, Nat.le_of_ble_eq_true rfl⟩ (Nat.le_of_ble_eq_true rfl) rfl [1, 2, 3] rfl rfl dX10_enough_12 ?_
  intro _ _
  dsimp only [jpush]
  refine J.istore_n g dX10_enough_15 rfl rfl rfl ?_
  try dsimp only [List.set_cons_zero, List.set_cons_succ]
  refine J.iload_n g dX10_enough_16 rfl rfl ?_
  refine J.iconstN g 1 dX10_enough_17 ?_
  refine J.icmp_ltN g dX10_enough_18 (tgt := 32) (by decide) (by omega) (by omega) (fun c_18 => ?_) (fun c_18 => ?_)
  · refine J.iconst (v := -1) g dX10_enough_32 (by decide) ?_
    exact J.iret g hE () (by rw [jen, if_pos (by omega)]) trivial rfl ⟨Nat.le_of_ble_eq_true rfl, Nat.le_of_ble_eq_true rfl⟩ dX10_enough_33
  · refine J.iload_n g dX10_enough_21 rfl rfl ?_
    refine J.iconstN g 1 dX10_enough_22 ?_
    refine J.icmp_ltN g dX10_enough_23 (tgt := 32) (by decide) (by omega) (by omega) (fun c_23 => ?_) (fun c_23 => ?_)
    · refine J.iconst (v := -1) g dX10_enough_32 (by decide) ?_
      exact J.iret g hE () (by rw [jen, if_pos (by omega)]) trivial rfl ⟨Nat.le_of_ble_eq_true rfl, Nat.le_of_ble_eq_true rfl⟩ dX10_enough_33
    · refine J.iload_n g dX10_enough_26 rfl rfl ?_
      refine J.bipush (v := nI 6) g dX10_enough_27 (by decide +kernel) ?_
      refine J.icmp_leN g dX10_enough_29 (tgt := 34) (by decide) (by omega) (by omega) (fun c_29 => ?_) (fun c_29 => ?_)
      · refine J.iconstN g 2 dX10_enough_34 ?_
        refine J.iload_n g dX10_enough_35 rfl rfl ?_
        refine J.iload_n g dX10_enough_36 rfl rfl ?_
        refine J.idivN g dX10_enough_37 (by omega) (by omega) (by omega) ?_
        refine J.imulN g dX10_enough_38 ?_
        refine J.iconstN g 2 dX10_enough_39 ?_
        refine J.iload_n g dX10_enough_40 rfl rfl ?_
        refine J.imulN g dX10_enough_41 ?_
        refine J.iaddN g dX10_enough_42 ?_
        refine J.iconstN g 3 dX10_enough_43 ?_
        refine J.isubN g dX10_enough_44 (jen_3 (by omega) (by omega)) ?_
        exact J.iret g hE () (by rw [jen, if_neg (by omega)]) trivial rfl ⟨Nat.le_of_ble_eq_true rfl, Nat.le_of_ble_eq_true rfl⟩ dX10_enough_45
      · refine J.iconst (v := -1) g dX10_enough_32 (by decide) ?_
        exact J.iret g hE () (by rw [jen, if_pos (by omega)]) trivial rfl ⟨Nat.le_of_ble_eq_true rfl, Nat.le_of_ble_eq_true rfl⟩ dX10_enough_33
